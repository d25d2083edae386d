
/-- the number of what was looked at (lk) and is good (gd) -/
def stN (lk gd : Nat) : Nat → Nat
  | 0 => 0
  | k + 1 => stN lk gd k + (if lk / 2 ^ k % 2 = 1 then (if gd / 2 ^ k % 2 = 1 then 2 * 3 ^ k else 3 ^ k) else 0)
theorem stN_lt (lk gd : Nat) : ∀ k, stN lk gd k < 3 ^ k
  | 0 => Nat.zero_lt_one
  | k + 1 => by
    have g := stN_lt lk gd k
    have g2 : (if lk / 2 ^ k % 2 = 1 then (if gd / 2 ^ k % 2 = 1 then 2 * 3 ^ k else 3 ^ k) else 0) ≤ 2 * 3 ^ k := by
      split
      · split <;> omega
      · omega
    show stN lk gd k + _ < 3 ^ (k + 1)
    rw [Nat.pow_succ]
    omega
def rm_c_X1_stateOf : Room := { frames := 0, cells := 0, slots := 0, locals := 0 }
set_option maxHeartbeats 400000 in
set_option maxRecDepth 100000 in
theorem c_X1_stateOf (l : Launch) (D : va_G) (cI cJ cZ : ClassId) (z3 t3 : Nat) (h0 : Nat) (h4 : Nat) (s2 : Nat) (s3 : Nat) (p4 : Nat) (p5 : Nat) (p6 : Nat) (a1 : Nat) (a2 : Nat) (a3 : Nat) (n : Nat) (lk : Nat) (gd : Nat) (sn : Int32) (sg : Int32) (fr : Int32) (hn : n ≤ 9) (hlk : lk < 512) (hgd : gd < 512) : Met l yX1_stateOf wsX1_stateOf rm_c_X1_stateOf (pcT_ D cI cJ cZ z3 t3 [.ref h0, .int (nI lk), .int (nI gd)] [(h0, .inr (1, [.ref h4, .ref s2, .ref s3, .ref p4, .ref p5, .ref p6, .int fr])), (h4, .inr (4, [.ref a1, .ref a2, .ref a3, .int (nI n), .int sn, .int sg]))]) (va_Qi (fun (r : Int32) (_ : Unit) => r = nI (stN lk gd n)) (fun _ _ => True) aN) 0 0 aN := by
  refine Met.ofW (cc := cX1_stateOf) (maxL := 5) (ret := (some .int)) (by decide) rfl ?_
  intro p e s m args below meth c s₁ B hml hv
  obtain ⟨rfl, hP, hKN, hT0⟩ := hv
  have hK := hKN.1
  have hx := B.exec
  have hb := B.bytes
  have hr := B.returns
  have hts := atoms_spec (ws := wsX1_stateOf) B.pre
  have hown : s.vm.findClass RX1 = some m.cls := findClass_of_methodNamed B.named
  have hlocks := B.notSynchronized
  have hiX1 : ∀ w ∈ wsX10, w ∈ wsX1_stateOf := by decide +kernel
  have hiX4 : ∀ w ∈ wsX40, w ∈ wsX1_stateOf := by decide +kernel
  have hf22 := hts (.fieldLink RX1 22 "LookBench$Plans" "shelf" "LLookBench$Shelf;") (by decide +kernel)
  have hf57 := va_Nw.use (A := [.ref h0, .int (nI lk), .int (nI gd)].toArray) rfl (hKN.2 (.fieldLinkNest RX1 57 RX4 "count" "I" RX6) (by decide +kernel))
  have hS : va_S aN s.heap s.heap [] := va_S.rf
  have hzA : ¬ aN z3 := fun h => h
  have htA : ¬ aN t3 := fun h => h
  have hZ3 := hT0.Z hzA
  have hT3 := hT0.T htA
  have hfs := hts (.fieldLink RX1 54 "LookBench$Plans" "THREES" "[I") (by decide +kernel)
  have hl := lv_entry ([.ref h0, .int (nI lk), .int (nI gd)]) (n := 5) (Nat.le_of_ble_eq_true rfl)
  rw [lg_entry_eq]
  generalize (lg_sl ([.ref h0, .int (nI lk), .int (nI gd)]) ++ List.replicate (5 - (lg_sl ([.ref h0, .int (nI lk), .int (nI gd)])).length) Slot.unset).toArray = ls at hl ⊢
  have hl : lv_has ls 5 [(0, .ref h0), (1, .int (nI lk)), (2, .int (nI gd))] := hl
  generalize hQ : MQ below _ _ s _ _ _ = Q
  obtain ⟨H, hH⟩ : ∃ z, z = s.heap := ⟨_, rfl⟩
  have hP : va_P D vwCl [(h0, .inr (1, [.ref h4, .ref s2, .ref s3, .ref p4, .ref p5, .ref p6, .int fr])), (h4, .inr (4, [.ref a1, .ref a2, .ref a3, .int (nI n), .int sn, .int sg]))] H := by rw [hH]; exact hP
  have hS : va_S aN s.heap H [] := by rw [hH]; exact hS
  refine m_heap hH ?_
  clear hH
  refine lv_iconst (v := nI 0) hx hb dX1_stateOf_0 (by decide) ?_
  refine lv_istore_n (lv' := [(3, .int (nI 0)), (0, .ref h0), (1, .int (nI lk)), (2, .int (nI gd))]) hx hb dX1_stateOf_1 rfl hl (by decide) rfl (fun ls hl => ?_)
  refine lv_iconst (v := nI 0) hx hb dX1_stateOf_2 (by decide) ?_
  refine lv_istore (lv' := [(4, .int (nI 0)), (3, .int (nI 0)), (0, .ref h0), (1, .int (nI lk)), (2, .int (nI gd))]) hx hb dX1_stateOf_3 hl (by decide) rfl (fun ls hl => ?_)
  have loop1 : ∀ (fu : Nat) (k : Nat) (v : Nat) (H : Heap) (locs : List Loc) (ls : Array Slot), (k ≤ n ∧ n < k + fu) → (v = stN lk gd k) → va_P D vwCl [(h0, .inr (1, [.ref h4, .ref s2, .ref s3, .ref p4, .ref p5, .ref p6, .int fr])), (h4, .inr (4, [.ref a1, .ref a2, .ref a3, .int (nI n), .int sn, .int sg]))] H → va_S aN s.heap H locs → lv_has ls 5 [(4, .int (nI k)), (3, .int (nI v)), (0, .ref h0), (1, .int (nI lk)), (2, .int (nI gd))] → W p l e (headSpec wsX1_stateOf rm_c_X1_stateOf).room s m ([.ref h0, .int (nI lk), .int (nI gd)] : List Value).toArray below meth c H locs 0 0 Q (F0 m 5 ls []) := by
    intro fu
    induction fu with
    | zero => intro k v H locs ls hk hv; exact absurd hk (by omega)
    | succ fu ih1 =>
      intro k v H locs ls hk hv hP hS hl
      refine lv_iload hx hb dX1_stateOf_5 (lv_at hl 0 rfl) ?_
      refine lv_aload_n hx hb dX1_stateOf_7 rfl (lv_at hl 2 rfl) ?_
      refine va_get (D := D) (ci := 1) (v := .ref h4) (C := RX1) (T := TX1) (N := 7) hx hb hts hiX1 hown hK hP 0 rfl rfl 0 (by decide) hf22 (fun _ h9 => h9) rfl dX1_stateOf_8 ?_
      refine va_getN (D := D) (ci := 4) (v := .int (nI n)) (C := RX4) (T := TX4) (N := 6) hx hb hts hiX4 hown hK hP 1 rfl rfl 3 (by decide) hf57 (fun _ h9 => h9) rfl dX1_stateOf_11 ?_
      refine lv_icmp_ge (tgt := 63) hx hb dX1_stateOf_14 (by decide) (fun c2 => ?_) (fun c2 => ?_)
      · skip
        have d2 := c2
        rw [nI_leI (by omega) (by omega)] at d2
        refine lv_iload_n hx hb dX1_stateOf_63 rfl (lv_at hl 1 rfl) ?_
        rw [← hQ]
        exact W.iret (v := nI v) hx hb hr (fun tS htS hWS => ⟨⟨(nI v), (), rfl, by rw [hv, show k = n by omega], trivial⟩, hS.F htS⟩) hS.2.2 dX1_stateOf_64
      · skip
        have d2 := c2
        rw [nI_leI (by omega) (by omega)] at d2
        refine lv_iload_n hx hb dX1_stateOf_17 rfl (lv_at hl 3 rfl) ?_
        refine lv_iload hx hb dX1_stateOf_18 (lv_at hl 0 rfl) ?_
        refine lv_ishr hx hb dX1_stateOf_20 ?_
        refine cn_i (y := nI (lk / 2 ^ k)) (m_shr (by omega) (by omega)) ?_
        refine lv_iconst (v := nI 1) hx hb dX1_stateOf_21 (by decide) ?_
        refine lv_iand hx hb dX1_stateOf_22 ?_
        refine cn_i (y := nI ((lk / 2 ^ k) % 2)) (m_andn1 (by first | omega | exact Nat.lt_of_le_of_lt (Nat.div_le_self _ _) (by omega))) ?_
        refine lv_iconst (v := nI 1) hx hb dX1_stateOf_23 (by decide) ?_
        refine lv_icmp_ne (tgt := 57) hx hb dX1_stateOf_24 (by decide) (fun c3 => ?_) (fun c3 => ?_)
        · skip
          have d3 := c3
          rw [nI_eq (by omega) (by omega)] at d3
          refine lv_iinc (v := nI (k + 1)) (lv' := [(4, .int (nI (k + 1))), (3, .int (nI v)), (0, .ref h0), (1, .int (nI lk)), (2, .int (nI gd))]) hx hb dX1_stateOf_57 hl (k := 0) rfl (nI_1 k) (by decide) rfl (fun ls hl => ?_)
          refine lv_goto (tgt := 5) hx hb dX1_stateOf_60 (by decide) ?_
          exact ih1 (k + 1) v _ _ _ (by omega) (by rw [hv]; simp only [stN]; first | rw [if_pos (by omega), if_pos (by omega)] | rw [if_pos (by omega), if_neg (by omega)] | rw [if_neg (by omega)]; rfl) hP hS (lv_sub hl [0, 1, 2, 3, 4] rfl)
        · skip
          have d3 := c3
          rw [nI_eq (by omega) (by omega)] at d3
          refine lv_iload_n hx hb dX1_stateOf_27 rfl (lv_at hl 1 rfl) ?_
          refine lv_iload_n hx hb dX1_stateOf_28 rfl (lv_at hl 4 rfl) ?_
          refine lv_iload hx hb dX1_stateOf_29 (lv_at hl 0 rfl) ?_
          refine lv_ishr hx hb dX1_stateOf_31 ?_
          refine cn_i (y := nI (gd / 2 ^ k)) (m_shr (by omega) (by omega)) ?_
          refine lv_iconst (v := nI 1) hx hb dX1_stateOf_32 (by decide) ?_
          refine lv_iand hx hb dX1_stateOf_33 ?_
          refine cn_i (y := nI ((gd / 2 ^ k) % 2)) (m_andn1 (by first | omega | exact Nat.lt_of_le_of_lt (Nat.div_le_self _ _) (by omega))) ?_
          refine lv_iconst (v := nI 1) hx hb dX1_stateOf_34 (by decide) ?_
          refine lv_icmp_ne (tgt := 49) hx hb dX1_stateOf_35 (by decide) (fun c4 => ?_) (fun c4 => ?_)
          · skip
            have d4 := c4
            rw [nI_eq (by omega) (by omega)] at d4
            refine va_gets hx hb hZ3 hS hown hfs (fun _ h9 => h9) dX1_stateOf_49 ?_
            refine lv_iload hx hb dX1_stateOf_52 (lv_at hl 0 rfl) ?_
            refine va_ti hx hb hT3 hS (i := nI k) (vp_in_nI (by omega) (by omega)) (v := .int (nI (3 ^ k))) (congrArg (fun j => Value.int (nI (3 ^ j))) (nI_clamp (n := k) (by omega))) dX1_stateOf_54 ?_
            refine lv_iadd hx hb dX1_stateOf_55 ?_
            refine cn_i (y := nI (v + (3 ^ k))) (nI_add v (3 ^ k)) ?_
            refine lv_istore_n (lv' := [(3, .int (nI (v + (3 ^ k)))), (4, .int (nI k)), (0, .ref h0), (1, .int (nI lk)), (2, .int (nI gd))]) hx hb dX1_stateOf_56 rfl hl (by decide) rfl (fun ls hl => ?_)
            refine lv_iinc (v := nI (k + 1)) (lv' := [(4, .int (nI (k + 1))), (3, .int (nI (v + (3 ^ k)))), (0, .ref h0), (1, .int (nI lk)), (2, .int (nI gd))]) hx hb dX1_stateOf_57 hl (k := 1) rfl (nI_1 k) (by decide) rfl (fun ls hl => ?_)
            refine lv_goto (tgt := 5) hx hb dX1_stateOf_60 (by decide) ?_
            exact ih1 (k + 1) (v + (3 ^ k)) _ _ _ (by omega) (by rw [hv]; simp only [stN]; first | rw [if_pos (by omega), if_pos (by omega)] | rw [if_pos (by omega), if_neg (by omega)] | rw [if_neg (by omega)]; rfl) hP hS (lv_sub hl [0, 1, 2, 3, 4] rfl)
          · skip
            have d4 := c4
            rw [nI_eq (by omega) (by omega)] at d4
            refine lv_iconst (v := nI 2) hx hb dX1_stateOf_38 (by decide) ?_
            refine va_gets hx hb hZ3 hS hown hfs (fun _ h9 => h9) dX1_stateOf_39 ?_
            refine lv_iload hx hb dX1_stateOf_42 (lv_at hl 0 rfl) ?_
            refine va_ti hx hb hT3 hS (i := nI k) (vp_in_nI (by omega) (by omega)) (v := .int (nI (3 ^ k))) (congrArg (fun j => Value.int (nI (3 ^ j))) (nI_clamp (n := k) (by omega))) dX1_stateOf_44 ?_
            refine lv_imul hx hb dX1_stateOf_45 ?_
            refine cn_i (y := nI (2 * (3 ^ k))) (pk_mul 2 (3 ^ k)) ?_
            refine lv_goto (tgt := 55) hx hb dX1_stateOf_46 (by decide) ?_
            refine lv_iadd hx hb dX1_stateOf_55 ?_
            refine cn_i (y := nI (v + (2 * (3 ^ k)))) (nI_add v (2 * (3 ^ k))) ?_
            refine lv_istore_n (lv' := [(3, .int (nI (v + (2 * (3 ^ k))))), (4, .int (nI k)), (0, .ref h0), (1, .int (nI lk)), (2, .int (nI gd))]) hx hb dX1_stateOf_56 rfl hl (by decide) rfl (fun ls hl => ?_)
            refine lv_iinc (v := nI (k + 1)) (lv' := [(4, .int (nI (k + 1))), (3, .int (nI (v + (2 * (3 ^ k))))), (0, .ref h0), (1, .int (nI lk)), (2, .int (nI gd))]) hx hb dX1_stateOf_57 hl (k := 1) rfl (nI_1 k) (by decide) rfl (fun ls hl => ?_)
            refine lv_goto (tgt := 5) hx hb dX1_stateOf_60 (by decide) ?_
            exact ih1 (k + 1) (v + (2 * (3 ^ k))) _ _ _ (by omega) (by rw [hv]; simp only [stN]; first | rw [if_pos (by omega), if_pos (by omega)] | rw [if_pos (by omega), if_neg (by omega)] | rw [if_neg (by omega)]; rfl) hP hS (lv_sub hl [0, 1, 2, 3, 4] rfl)
  exact loop1 (n + 1) 0 0 _ _ _ (by omega) rfl hP hS (lv_sub hl [0, 1, 2, 3, 4] rfl)
def rm_c_X1_meanFrom : Room := { frames := 0, cells := 0, slots := 0, locals := 0 }
set_option maxHeartbeats 400000 in
set_option maxRecDepth 100000 in
theorem c_X1_meanFrom (l : Launch) (D : va_G) (cI cJ cZ : ClassId) (z3 t3 : Nat) (h0 : Nat) (h4 : Nat) (s2 : Nat) (s3 : Nat) (p4 : Nat) (p5 : Nat) (p6 : Nat) (a1 : Nat) (a2 : Nat) (a3 : Nat) (n : Nat) (j : Nat) (sx : Nat) (len : Nat) (sn : Int32) (sg : Int32) (fr : Int32) (le : Int64) (fp : Nat → Int32) (eb : Nat → Int64) (hj : j < 9) (hsx : sx + 2 * 3 ^ j < len) (hlen : len ≤ 19683) : Met l yX1_meanFrom wsX1_meanFrom rm_c_X1_meanFrom (pcT_ D cI cJ cZ z3 t3 [.ref h0, .int (nI j), .int (nI sx), .long le] [(h0, .inr (1, [.ref h4, .ref s2, .ref s3, .ref p4, .ref p5, .ref p6, .int fr])), (h4, .inr (4, [.ref a1, .ref a2, .ref a3, .int (nI n), .int sn, .int sg])), (a3, .inl (cI, 9, .inl fp)), (p5, .inl (cJ, len, .inr (.inl eb)))]) (va_Ql (fun (r : Int64) (_ : Unit) => r = (fp j).toInt64 * le + eb (sx + 3 ^ j) + eb (sx + 2 * 3 ^ j)) (fun _ _ => True) aN) 0 0 aN := by
  refine Met.ofW (cc := cX1_meanFrom) (maxL := 5) (ret := (some .long)) (by decide) rfl ?_
  intro p e s m args below meth c s₁ B hml hv
  obtain ⟨rfl, hP, hKN, hT0⟩ := hv
  have hK := hKN.1
  have hx := B.exec
  have hb := B.bytes
  have hr := B.returns
  have hts := atoms_spec (ws := wsX1_meanFrom) B.pre
  have hown : s.vm.findClass RX1 = some m.cls := findClass_of_methodNamed B.named
  have hlocks := B.notSynchronized
  have hiX1 : ∀ w ∈ wsX10, w ∈ wsX1_meanFrom := by decide +kernel
  have hiX4 : ∀ w ∈ wsX40, w ∈ wsX1_meanFrom := by decide +kernel
  have hf15 := hts (.fieldLink RX1 15 "LookBench$Plans" "best" "[J") (by decide +kernel)
  have hf22 := hts (.fieldLink RX1 22 "LookBench$Plans" "shelf" "LLookBench$Shelf;") (by decide +kernel)
  have hf92 := va_Nw.use (A := [.ref h0, .int (nI j), .int (nI sx), .long le].toArray) rfl (hKN.2 (.fieldLinkNest RX1 92 RX4 "prices" "[I" RX6) (by decide +kernel))
  have hS : va_S aN s.heap s.heap [] := va_S.rf
  have hzA : ¬ aN z3 := fun h => h
  have htA : ¬ aN t3 := fun h => h
  have hZ3 := hT0.Z hzA
  have hT3 := hT0.T htA
  have hfs := hts (.fieldLink RX1 54 "LookBench$Plans" "THREES" "[I") (by decide +kernel)
  have hl := lv_entry ([.ref h0, .int (nI j), .int (nI sx), .long le]) (n := 5) (Nat.le_of_ble_eq_true rfl)
  rw [lg_entry_eq]
  generalize (lg_sl ([.ref h0, .int (nI j), .int (nI sx), .long le]) ++ List.replicate (5 - (lg_sl ([.ref h0, .int (nI j), .int (nI sx), .long le])).length) Slot.unset).toArray = ls at hl ⊢
  have hl : lv_has ls 5 [(0, .ref h0), (1, .int (nI j)), (2, .int (nI sx)), (3, .long le)] := hl
  generalize hQ : MQ below _ _ s _ _ _ = Q
  obtain ⟨H, hH⟩ : ∃ z, z = s.heap := ⟨_, rfl⟩
  have hP : va_P D vwCl [(h0, .inr (1, [.ref h4, .ref s2, .ref s3, .ref p4, .ref p5, .ref p6, .int fr])), (h4, .inr (4, [.ref a1, .ref a2, .ref a3, .int (nI n), .int sn, .int sg])), (a3, .inl (cI, 9, .inl fp)), (p5, .inl (cJ, len, .inr (.inl eb)))] H := by rw [hH]; exact hP
  have hS : va_S aN s.heap H [] := by rw [hH]; exact hS
  refine m_heap hH ?_
  clear hH
  refine lv_aload_n hx hb dX1_meanFrom_0 rfl (lv_at hl 0 rfl) ?_
  refine va_get (D := D) (ci := 1) (v := .ref h4) (C := RX1) (T := TX1) (N := 7) hx hb hts hiX1 hown hK hP 0 rfl rfl 0 (by decide) hf22 (fun _ h9 => h9) rfl dX1_meanFrom_1 ?_
  refine va_getN (D := D) (ci := 4) (v := .ref a3) (C := RX4) (T := TX4) (N := 6) hx hb hts hiX4 hown hK hP 1 rfl rfl 2 (by decide) hf92 (fun _ h9 => h9) rfl dX1_meanFrom_4 ?_
  refine lv_iload_n hx hb dX1_meanFrom_7 rfl (lv_at hl 1 rfl) ?_
  refine va_iald hx hb hK hP 2 0 rfl rfl (i := nI j) (vp_in_nI (by omega) (by omega)) dX1_meanFrom_8 ?_
  refine cn_i (y := fp j) (congrArg fp (nI_clamp (by omega))) ?_
  refine lv_i2l hx hb dX1_meanFrom_9 rfl ?_
  refine lv_lload_n hx hb dX1_meanFrom_10 rfl (lv_at hl 3 rfl) ?_
  refine lv_lmul hx hb dX1_meanFrom_11 ?_
  refine lv_aload_n hx hb dX1_meanFrom_12 rfl (lv_at hl 0 rfl) ?_
  refine va_get (D := D) (ci := 1) (v := .ref p5) (C := RX1) (T := TX1) (N := 7) hx hb hts hiX1 hown hK hP 0 rfl rfl 4 (by decide) hf15 (fun _ h9 => h9) rfl dX1_meanFrom_13 ?_
  refine lv_iload_n hx hb dX1_meanFrom_16 rfl (lv_at hl 2 rfl) ?_
  refine va_gets hx hb hZ3 hS hown hfs (fun _ h9 => h9) dX1_meanFrom_17 ?_
  refine lv_iload_n hx hb dX1_meanFrom_20 rfl (lv_at hl 1 rfl) ?_
  refine va_ti hx hb hT3 hS (i := nI j) (vp_in_nI (by omega) (by omega)) (v := .int (nI (3 ^ j))) (congrArg (fun j => Value.int (nI (3 ^ j))) (nI_clamp (n := j) (by omega))) dX1_meanFrom_21 ?_
  refine lv_iadd hx hb dX1_meanFrom_22 ?_
  refine cn_i (y := nI (sx + (3 ^ j))) (nI_add sx (3 ^ j)) ?_
  refine va_lald hx hb hK hP 3 1 rfl rfl (i := nI (sx + (3 ^ j))) (vp_in_nI (by omega) (by omega)) dX1_meanFrom_23 ?_
  refine cn_l (y := eb (sx + (3 ^ j))) (congrArg eb (nI_clamp (by omega))) ?_
  refine lv_ladd hx hb dX1_meanFrom_24 ?_
  refine lv_aload_n hx hb dX1_meanFrom_25 rfl (lv_at hl 0 rfl) ?_
  refine va_get (D := D) (ci := 1) (v := .ref p5) (C := RX1) (T := TX1) (N := 7) hx hb hts hiX1 hown hK hP 0 rfl rfl 4 (by decide) hf15 (fun _ h9 => h9) rfl dX1_meanFrom_26 ?_
  refine lv_iload_n hx hb dX1_meanFrom_29 rfl (lv_at hl 2 rfl) ?_
  refine lv_iconst (v := nI 2) hx hb dX1_meanFrom_30 (by decide) ?_
  refine va_gets hx hb hZ3 hS hown hfs (fun _ h9 => h9) dX1_meanFrom_31 ?_
  refine lv_iload_n hx hb dX1_meanFrom_34 rfl (lv_at hl 1 rfl) ?_
  refine va_ti hx hb hT3 hS (i := nI j) (vp_in_nI (by omega) (by omega)) (v := .int (nI (3 ^ j))) (congrArg (fun j => Value.int (nI (3 ^ j))) (nI_clamp (n := j) (by omega))) dX1_meanFrom_35 ?_
  refine lv_imul hx hb dX1_meanFrom_36 ?_
  refine cn_i (y := nI (2 * (3 ^ j))) (pk_mul 2 (3 ^ j)) ?_
  refine lv_iadd hx hb dX1_meanFrom_37 ?_
  refine cn_i (y := nI (sx + (2 * (3 ^ j)))) (nI_add sx (2 * (3 ^ j))) ?_
  refine va_lald hx hb hK hP 3 1 rfl rfl (i := nI (sx + (2 * (3 ^ j)))) (vp_in_nI (by omega) (by omega)) dX1_meanFrom_38 ?_
  refine cn_l (y := eb (sx + (2 * (3 ^ j)))) (congrArg eb (nI_clamp (by omega))) ?_
  refine lv_ladd hx hb dX1_meanFrom_39 ?_
  rw [← hQ]
  exact W.lret (v := ((((fp j).toInt64) * le) + (eb (sx + (3 ^ j)))) + (eb (sx + (2 * (3 ^ j))))) hx hb hr (fun tS htS hWS => ⟨⟨(((((fp j).toInt64) * le) + (eb (sx + (3 ^ j)))) + (eb (sx + (2 * (3 ^ j))))), (), rfl, rfl, trivial⟩, hS.F htS⟩) hS.2.2 dX1_meanFrom_40
