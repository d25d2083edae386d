def rm_c_X1_worstFrom : Room := { frames := 1, cells := 0, slots := 0, locals := 30 }
set_option maxHeartbeats 400000 in
set_option maxRecDepth 100000 in
theorem c_X1_worstFrom (l : Launch) (D : va_G) (cI cJ cZ : ClassId) (z3 t3 : Nat) (h0 : Nat) (h4 : Nat) (s2 : Nat) (s3 : Nat) (p4 : Nat) (p5 : Nat) (p6 : Nat) (a1 : Nat) (a2 : Nat) (a3 : Nat) (n : Nat) (j : Nat) (sx : Nat) (len : Nat) (sn : Int32) (sg : Int32) (fr : Int32) (fp : Nat → Int32) (ew : Nat → Int32) (hj : j < 9) (hsx : sx + 2 * 3 ^ j < len) (hlen : len ≤ 19683) : Met l yX1_worstFrom wsX1_worstFrom rm_c_X1_worstFrom (pcT_ D cI cJ cZ z3 t3 [.ref h0, .int (nI j), .int (nI sx)] [(h0, .inr (1, [.ref h4, .ref s2, .ref s3, .ref p4, .ref p5, .ref p6, .int fr])), (h4, .inr (4, [.ref a1, .ref a2, .ref a3, .int (nI n), .int sn, .int sg])), (a3, .inl (cI, 9, .inl fp)), (p6, .inl (cI, len, .inl ew))]) (va_Qi (fun (r : Int32) (_ : Unit) => r = fp j + (if ew (sx + 3 ^ j) < ew (sx + 2 * 3 ^ j) then ew (sx + 2 * 3 ^ j) else ew (sx + 3 ^ j))) (fun _ _ => True) aN) 0 0 aN := by
  refine Met.ofW (cc := cX1_worstFrom) (maxL := 3) (ret := (some .int)) (by decide) rfl ?_
  intro p e s m args below meth c s₁ B hml hv
  obtain ⟨rfl, hP, hKN, hT0⟩ := hv
  have hK := hKN.1
  have hx := B.exec
  have hb := B.bytes
  have hr := B.returns
  have hts := atoms_spec (ws := wsX1_worstFrom) B.pre
  have hown : s.vm.findClass RX1 = some m.cls := findClass_of_methodNamed B.named
  have hlocks := B.notSynchronized
  have hiX1 : ∀ w ∈ wsX10, w ∈ wsX1_worstFrom := by decide +kernel
  have hiX4 : ∀ w ∈ wsX40, w ∈ wsX1_worstFrom := by decide +kernel
  have hf19 := hts (.fieldLink RX1 19 "LookBench$Plans" "worst" "[I") (by decide +kernel)
  have hf22 := hts (.fieldLink RX1 22 "LookBench$Plans" "shelf" "LLookBench$Shelf;") (by decide +kernel)
  have hf92 := va_Nw.use (A := [.ref h0, .int (nI j), .int (nI sx)].toArray) rfl (hKN.2 (.fieldLinkNest RX1 92 RX4 "prices" "[I" RX6) (by decide +kernel))
  have hS : va_S aN s.heap s.heap [] := va_S.rf
  have hzA : ¬ aN z3 := fun h => h
  have htA : ¬ aN t3 := fun h => h
  have hZ3 := hT0.Z hzA
  have hT3 := hT0.T htA
  have hfs := hts (.fieldLink RX1 54 "LookBench$Plans" "THREES" "[I") (by decide +kernel)
  have hl := lv_entry ([.ref h0, .int (nI j), .int (nI sx)]) (n := 3) (Nat.le_of_ble_eq_true rfl)
  rw [lg_entry_eq]
  generalize (lg_sl ([.ref h0, .int (nI j), .int (nI sx)]) ++ List.replicate (3 - (lg_sl ([.ref h0, .int (nI j), .int (nI sx)])).length) Slot.unset).toArray = ls at hl ⊢
  have hl : lv_has ls 3 [(0, .ref h0), (1, .int (nI j)), (2, .int (nI sx))] := hl
  generalize hQ : MQ below _ _ s _ _ _ = Q
  obtain ⟨H, hH⟩ : ∃ z, z = s.heap := ⟨_, rfl⟩
  have hP : va_P D vwCl [(h0, .inr (1, [.ref h4, .ref s2, .ref s3, .ref p4, .ref p5, .ref p6, .int fr])), (h4, .inr (4, [.ref a1, .ref a2, .ref a3, .int (nI n), .int sn, .int sg])), (a3, .inl (cI, 9, .inl fp)), (p6, .inl (cI, len, .inl ew))] H := by rw [hH]; exact hP
  have hS : va_S aN s.heap H [] := by rw [hH]; exact hS
  refine m_heap hH ?_
  clear hH
  refine lv_aload_n hx hb dX1_worstFrom_0 rfl (lv_at hl 0 rfl) ?_
  refine va_get (D := D) (ci := 1) (v := .ref h4) (C := RX1) (T := TX1) (N := 7) hx hb hts hiX1 hown hK hP 0 rfl rfl 0 (by decide) hf22 (fun _ h9 => h9) rfl dX1_worstFrom_1 ?_
  refine va_getN (D := D) (ci := 4) (v := .ref a3) (C := RX4) (T := TX4) (N := 6) hx hb hts hiX4 hown hK hP 1 rfl rfl 2 (by decide) hf92 (fun _ h9 => h9) rfl dX1_worstFrom_4 ?_
  refine lv_iload_n hx hb dX1_worstFrom_7 rfl (lv_at hl 1 rfl) ?_
  refine va_iald hx hb hK hP 2 0 rfl rfl (i := nI j) (vp_in_nI (by omega) (by omega)) dX1_worstFrom_8 ?_
  refine cn_i (y := fp j) (congrArg fp (nI_clamp (by omega))) ?_
  refine lv_aload_n hx hb dX1_worstFrom_9 rfl (lv_at hl 0 rfl) ?_
  refine va_get (D := D) (ci := 1) (v := .ref p6) (C := RX1) (T := TX1) (N := 7) hx hb hts hiX1 hown hK hP 0 rfl rfl 5 (by decide) hf19 (fun _ h9 => h9) rfl dX1_worstFrom_10 ?_
  refine lv_iload_n hx hb dX1_worstFrom_13 rfl (lv_at hl 2 rfl) ?_
  refine va_gets hx hb hZ3 hS hown hfs (fun _ h9 => h9) dX1_worstFrom_14 ?_
  refine lv_iload_n hx hb dX1_worstFrom_17 rfl (lv_at hl 1 rfl) ?_
  refine va_ti hx hb hT3 hS (i := nI j) (vp_in_nI (by omega) (by omega)) (v := .int (nI (3 ^ j))) (congrArg (fun j => Value.int (nI (3 ^ j))) (nI_clamp (n := j) (by omega))) dX1_worstFrom_18 ?_
  refine lv_iadd hx hb dX1_worstFrom_19 ?_
  refine cn_i (y := nI (sx + (3 ^ j))) (nI_add sx (3 ^ j)) ?_
  refine va_iald hx hb hK hP 3 0 rfl rfl (i := nI (sx + (3 ^ j))) (vp_in_nI (by omega) (by omega)) dX1_worstFrom_20 ?_
  refine cn_i (y := ew (sx + (3 ^ j))) (congrArg ew (nI_clamp (by omega))) ?_
  refine lv_aload_n hx hb dX1_worstFrom_21 rfl (lv_at hl 0 rfl) ?_
  refine va_get (D := D) (ci := 1) (v := .ref p6) (C := RX1) (T := TX1) (N := 7) hx hb hts hiX1 hown hK hP 0 rfl rfl 5 (by decide) hf19 (fun _ h9 => h9) rfl dX1_worstFrom_22 ?_
  refine lv_iload_n hx hb dX1_worstFrom_25 rfl (lv_at hl 2 rfl) ?_
  refine lv_iconst (v := nI 2) hx hb dX1_worstFrom_26 (by decide) ?_
  refine va_gets hx hb hZ3 hS hown hfs (fun _ h9 => h9) dX1_worstFrom_27 ?_
  refine lv_iload_n hx hb dX1_worstFrom_30 rfl (lv_at hl 1 rfl) ?_
  refine va_ti hx hb hT3 hS (i := nI j) (vp_in_nI (by omega) (by omega)) (v := .int (nI (3 ^ j))) (congrArg (fun j => Value.int (nI (3 ^ j))) (nI_clamp (n := j) (by omega))) dX1_worstFrom_31 ?_
  refine lv_imul hx hb dX1_worstFrom_32 ?_
  refine cn_i (y := nI (2 * (3 ^ j))) (pk_mul 2 (3 ^ j)) ?_
  refine lv_iadd hx hb dX1_worstFrom_33 ?_
  refine cn_i (y := nI (sx + (2 * (3 ^ j)))) (nI_add sx (2 * (3 ^ j))) ?_
  refine va_iald hx hb hK hP 3 0 rfl rfl (i := nI (sx + (2 * (3 ^ j)))) (vp_in_nI (by omega) (by omega)) dX1_worstFrom_34 ?_
  refine cn_i (y := ew (sx + (2 * (3 ^ j)))) (congrArg ew (nI_clamp (by omega))) ?_
  refine va_mmax hx hb (by rw [hml]; exact hl.1.symm) hown (hts (.methodLink RX1 95 Lib.Math.max.name) (by decide +kernel)) (hts (.static Lib.Math.max.name) (by decide +kernel)) (hts (.initialized "java/lang/Math") (by decide +kernel)) (hts (.code Lib.Math.max.name Lib.Math.max.code 2 (some .int)) (by decide +kernel)) (Nat.le_of_ble_eq_true rfl) (Nat.le_of_ble_eq_true rfl) (Nat.le_of_ble_eq_true rfl) (Nat.le_of_ble_eq_true rfl) dX1_worstFrom_35 ?_
  refine lv_iadd hx hb dX1_worstFrom_38 ?_
  rw [← hQ]
  exact W.iret (v := (fp j) + (if (ew (sx + (3 ^ j))) < (ew (sx + (2 * (3 ^ j)))) then (ew (sx + (2 * (3 ^ j)))) else (ew (sx + (3 ^ j))))) hx hb hr (fun tS htS hWS => ⟨⟨((fp j) + (if (ew (sx + (3 ^ j))) < (ew (sx + (2 * (3 ^ j)))) then (ew (sx + (2 * (3 ^ j)))) else (ew (sx + (3 ^ j))))), (), rfl, rfl, trivial⟩, hS.F htS⟩) hS.2.2 dX1_worstFrom_39
def rm_c_X1_fillSure : Room := { frames := 0, cells := 0, slots := 0, locals := 0 }
set_option maxHeartbeats 400000 in
set_option maxRecDepth 100000 in
theorem c_X1_fillSure (l : Launch) (D : va_G) (cI cJ cZ : ClassId) (h0 : Nat) (h4 : Nat) (s2 : Nat) (s3 : Nat) (p4 : Nat) (p5 : Nat) (p6 : Nat) (a1 : Nat) (a2 : Nat) (a3 : Nat) (n : Nat) (fa : Nat) (tb : Nat) (len : Nat) (fr : Int32) (eb : Nat → Int64) (ew : Nat → Int32) (hft : fa ≤ tb) (htb : tb ≤ len) (hlen : len ≤ 19683) : Met l yX1_fillSure wsX1_fillSure rm_c_X1_fillSure (pm_ D cI cJ cZ [.ref h0, .int (nI fa), .int (nI tb)] [(h0, .inr (1, [.ref h4, .ref s2, .ref s3, .ref p4, .ref p5, .ref p6, .int fr])), (p5, .inl (cJ, len, .inr (.inl eb))), (p6, .inl (cI, len, .inl ew))]) (va_Qv (fun (u : (Nat → Int64) × (Nat → Int32)) => True) (fun (u : (Nat → Int64) × (Nat → Int32)) tS => va_P D vwCl [(h0, .inr (1, [.ref h4, .ref s2, .ref s3, .ref p4, .ref p5, .ref p6, .int fr])), (p5, .inl (cJ, len, .inr (.inl u.1))), (p6, .inl (cI, len, .inl u.2))] tS.heap) (aA [h0, p5, p6])) 0 0 (aA [h0, p5, p6]) := by
  refine Met.ofW (cc := cX1_fillSure) (maxL := 4) (ret := none) (by decide) rfl ?_
  intro p e s m args below meth c s₁ B hml hv
  obtain ⟨rfl, hP, hKN, hD0⟩ := hv
  have hK := hKN.1
  have hx := B.exec
  have hb := B.bytes
  have hr := B.returns
  have hts := atoms_spec (ws := wsX1_fillSure) B.pre
  have hown : s.vm.findClass RX1 = some m.cls := findClass_of_methodNamed B.named
  have hlocks := B.notSynchronized
  have hiX1 : ∀ w ∈ wsX10, w ∈ wsX1_fillSure := by decide +kernel
  have hf15 := hts (.fieldLink RX1 15 "LookBench$Plans" "best" "[J") (by decide +kernel)
  have hf19 := hts (.fieldLink RX1 19 "LookBench$Plans" "worst" "[I") (by decide +kernel)
  obtain ⟨as, has⟩ : ∃ z : List Nat, z = [h0, p5, p6] := ⟨_, rfl⟩
  have hD := hD0.addr (as := as) (by rw [has]; rfl)
  have hS : va_S (aA as) s.heap s.heap [] := va_S.rf
  have hl := lv_entry ([.ref h0, .int (nI fa), .int (nI tb)]) (n := 4) (Nat.le_of_ble_eq_true rfl)
  rw [lg_entry_eq]
  generalize (lg_sl ([.ref h0, .int (nI fa), .int (nI tb)]) ++ List.replicate (4 - (lg_sl ([.ref h0, .int (nI fa), .int (nI tb)])).length) Slot.unset).toArray = ls at hl ⊢
  have hl : lv_has ls 4 [(0, .ref h0), (1, .int (nI fa)), (2, .int (nI tb))] := hl
  generalize hQ : MQ below _ _ s _ _ _ = Q
  obtain ⟨H, hH⟩ : ∃ z, z = s.heap := ⟨_, rfl⟩
  have hP : va_P D vwCl [(h0, .inr (1, [.ref h4, .ref s2, .ref s3, .ref p4, .ref p5, .ref p6, .int fr])), (p5, .inl (cJ, len, .inr (.inl eb))), (p6, .inl (cI, len, .inl ew))] H := by rw [hH]; exact hP
  have hS : va_S (aA as) s.heap H [] := by rw [hH]; exact hS
  refine m_heap hH ?_
  clear hH
  refine lv_iload_n hx hb dX1_fillSure_0 rfl (lv_at hl 1 rfl) ?_
  refine lv_istore_n (lv' := [(3, .int (nI fa)), (0, .ref h0), (1, .int (nI fa)), (2, .int (nI tb))]) hx hb dX1_fillSure_1 rfl hl (by decide) rfl (fun ls hl => ?_)
  have loop1 : ∀ (fu : Nat) (k : Nat) (ub : Nat → Int64) (uw : Nat → Int32) (H : Heap) (locs : List Loc) (ls : Array Slot), (k ≤ tb ∧ tb < k + fu) → va_P D vwCl [(h0, .inr (1, [.ref h4, .ref s2, .ref s3, .ref p4, .ref p5, .ref p6, .int fr])), (p5, .inl (cJ, len, .inr (.inl ub))), (p6, .inl (cI, len, .inl uw))] H → va_D (aA as) [(h0, .inr (1, [.ref h4, .ref s2, .ref s3, .ref p4, .ref p5, .ref p6, .int fr])), (p5, .inl (cJ, len, .inr (.inl ub))), (p6, .inl (cI, len, .inl uw))] → va_S (aA as) s.heap H locs → lv_has ls 4 [(3, .int (nI k)), (0, .ref h0), (1, .int (nI fa)), (2, .int (nI tb))] → W p l e (headSpec wsX1_fillSure rm_c_X1_fillSure).room s m ([.ref h0, .int (nI fa), .int (nI tb)] : List Value).toArray below meth c H locs 0 0 Q (F0 m 2 ls []) := by
    intro fu
    induction fu with
    | zero => intro k ub uw H locs ls hk; exact absurd hk (by omega)
    | succ fu ih1 =>
      intro k ub uw H locs ls hk hP hD hS hl
      refine lv_iload_n hx hb dX1_fillSure_2 rfl (lv_at hl 0 rfl) ?_
      refine lv_iload_n hx hb dX1_fillSure_3 rfl (lv_at hl 3 rfl) ?_
      refine lv_icmp_ge (tgt := 27) hx hb dX1_fillSure_4 (by decide) (fun c2 => ?_) (fun c2 => ?_)
      · skip
        have d2 := c2
        rw [nI_leI (by omega) (by omega)] at d2
        rw [← hQ]
        exact W.vret hx hb hr (fun tS htS hWS => ⟨⟨(ub, uw), rfl, trivial, m_at htS hP⟩, by rw [← has]; exact hS.F htS⟩) (by rw [← has]; exact hS.2.2) dX1_fillSure_27
      · skip
        have d2 := c2
        rw [nI_leI (by omega) (by omega)] at d2
        refine lv_aload_n hx hb dX1_fillSure_7 rfl (lv_at hl 1 rfl) ?_
        refine va_get (D := D) (ci := 1) (v := .ref p5) (C := RX1) (T := TX1) (N := 7) hx hb hts hiX1 hown hK hP 0 rfl rfl 4 (by decide) hf15 (fun _ h9 => h9) rfl dX1_fillSure_8 ?_
        refine lv_iload_n hx hb dX1_fillSure_11 rfl (lv_at hl 0 rfl) ?_
        refine lv_lconst (v := lN 0) hx hb dX1_fillSure_12 (by decide) ?_
        refine va_last hx hb hK hP hD hS 1 1 rfl rfl (i := nI k) (vp_in_nI (by omega) (by omega)) dX1_fillSure_13 (fun H locs hP hD hS => ?_)
        have hP : va_P D vwCl [(h0, .inr (1, [.ref h4, .ref s2, .ref s3, .ref p4, .ref p5, .ref p6, .int fr])), (p5, .inl (cJ, len, .inr (.inl (vp_updL ub (nI k).toNatClampNeg (lN 0))))), (p6, .inl (cI, len, .inl uw))] H := hP
        have hD : va_D (aA as) [(h0, .inr (1, [.ref h4, .ref s2, .ref s3, .ref p4, .ref p5, .ref p6, .int fr])), (p5, .inl (cJ, len, .inr (.inl (vp_updL ub (nI k).toNatClampNeg (lN 0))))), (p6, .inl (cI, len, .inl uw))] := hD
        rw [nI_clamp (n := k) (by omega)] at hP hD
        refine lv_aload_n hx hb dX1_fillSure_14 rfl (lv_at hl 1 rfl) ?_
        refine va_get (D := D) (ci := 1) (v := .ref p6) (C := RX1) (T := TX1) (N := 7) hx hb hts hiX1 hown hK hP 0 rfl rfl 5 (by decide) hf19 (fun _ h9 => h9) rfl dX1_fillSure_15 ?_
        refine lv_iload_n hx hb dX1_fillSure_18 rfl (lv_at hl 0 rfl) ?_
        refine lv_iconst (v := nI 0) hx hb dX1_fillSure_19 (by decide) ?_
        refine va_iast hx hb hK hP hD hS 2 0 rfl rfl (i := nI k) (vp_in_nI (by omega) (by omega)) dX1_fillSure_20 (fun H locs hP hD hS => ?_)
        have hP : va_P D vwCl [(h0, .inr (1, [.ref h4, .ref s2, .ref s3, .ref p4, .ref p5, .ref p6, .int fr])), (p5, .inl (cJ, len, .inr (.inl (vp_updL ub k (lN 0))))), (p6, .inl (cI, len, .inl (upd uw (nI k).toNatClampNeg (nI 0))))] H := hP
        have hD : va_D (aA as) [(h0, .inr (1, [.ref h4, .ref s2, .ref s3, .ref p4, .ref p5, .ref p6, .int fr])), (p5, .inl (cJ, len, .inr (.inl (vp_updL ub k (lN 0))))), (p6, .inl (cI, len, .inl (upd uw (nI k).toNatClampNeg (nI 0))))] := hD
        rw [nI_clamp (n := k) (by omega)] at hP hD
        refine lv_iinc (v := nI (k + 1)) (lv' := [(3, .int (nI (k + 1))), (0, .ref h0), (1, .int (nI fa)), (2, .int (nI tb))]) hx hb dX1_fillSure_21 hl (k := 0) rfl (nI_1 k) (by decide) rfl (fun ls hl => ?_)
        refine lv_goto (tgt := 2) hx hb dX1_fillSure_24 (by decide) ?_
        exact ih1 (k + 1) (vp_updL ub k (lN 0)) (upd uw k (nI 0)) _ _ _ (by omega) hP hD hS (lv_sub hl [0, 1, 2, 3] rfl)
  exact loop1 (tb + 1) fa eb ew _ _ _ (by omega) hP hD hS (lv_sub hl [0, 1, 2, 3] rfl)
def rm_c_X1_nextOfBest : Room := { frames := 1, cells := 0, slots := 0, locals := 24 }
set_option maxHeartbeats 400000 in
set_option maxRecDepth 100000 in
theorem c_X1_nextOfBest (l : Launch) (D : va_G) (cI cJ cZ : ClassId) (z3 t3 : Nat) (h0 : Nat) (h4 : Nat) (s2 : Nat) (s3 : Nat) (p4 : Nat) (p5 : Nat) (p6 : Nat) (a1 : Nat) (a2 : Nat) (a3 : Nat) (n : Nat) (sx : Nat) (un : Nat) (len : Nat) (sn : Int32) (sg : Int32) (fr : Int32) (le : Int64) (fp : Nat → Int32) (eb : Nat → Int64) (hn : n ≤ 9) (hun : un < 512) (hsx : sx < len) (hub : ∀ z, z < n → un / 2 ^ z % 2 = 1 → sx + 2 * 3 ^ z < len) (hlen : len ≤ 19683) : Met l yX1_nextOfBest wsX1_nextOfBest rm_c_X1_nextOfBest (pcT_ D cI cJ cZ z3 t3 [.ref h0, .int (nI sx), .int (nI un), .long le] [(h0, .inr (1, [.ref h4, .ref s2, .ref s3, .ref p4, .ref p5, .ref p6, .int fr])), (h4, .inr (4, [.ref a1, .ref a2, .ref a3, .int (nI n), .int sn, .int sg])), (a3, .inl (cI, 9, .inl fp)), (p5, .inl (cJ, len, .inr (.inl eb)))]) (va_Qi (fun (r : Int32) (_ : Unit) => r = -1 ∨ ∃ x, x < n ∧ r = nI x ∧ un / 2 ^ x % 2 = 1) (fun _ _ => True) aN) 0 0 aN := by
  refine Met.ofW (cc := cX1_nextOfBest) (maxL := 6) (ret := (some .int)) (by decide) rfl ?_
  intro p e s m args below meth c s₁ B hml hv
  obtain ⟨rfl, hP, hKN, hT0⟩ := hv
  have hK := hKN.1
  have hx := B.exec
  have hb := B.bytes
  have hr := B.returns
  have hts := atoms_spec (ws := wsX1_nextOfBest) B.pre
  have hown : s.vm.findClass RX1 = some m.cls := findClass_of_methodNamed B.named
  have hlocks := B.notSynchronized
  have hiX1 : ∀ w ∈ wsX10, w ∈ wsX1_nextOfBest := by decide +kernel
  have hiX4 : ∀ w ∈ wsX40, w ∈ wsX1_nextOfBest := by decide +kernel
  have hf15 := hts (.fieldLink RX1 15 "LookBench$Plans" "best" "[J") (by decide +kernel)
  have hf22 := hts (.fieldLink RX1 22 "LookBench$Plans" "shelf" "LLookBench$Shelf;") (by decide +kernel)
  have hf57 := va_Nw.use (A := [.ref h0, .int (nI sx), .int (nI un), .long le].toArray) rfl (hKN.2 (.fieldLinkNest RX1 57 RX4 "count" "I" RX6) (by decide +kernel))
  have hS : va_S aN s.heap s.heap [] := va_S.rf
  have hzA : ¬ aN z3 := fun h => h
  have htA : ¬ aN t3 := fun h => h
  have hZ3 := hT0.Z hzA
  have hT3 := hT0.T htA
  have hl := lv_entry ([.ref h0, .int (nI sx), .int (nI un), .long le]) (n := 6) (Nat.le_of_ble_eq_true rfl)
  rw [lg_entry_eq]
  generalize (lg_sl ([.ref h0, .int (nI sx), .int (nI un), .long le]) ++ List.replicate (6 - (lg_sl ([.ref h0, .int (nI sx), .int (nI un), .long le])).length) Slot.unset).toArray = ls at hl ⊢
  have hl : lv_has ls 6 [(0, .ref h0), (1, .int (nI sx)), (2, .int (nI un)), (3, .long le)] := hl
  generalize hQ : MQ below _ _ s _ _ _ = Q
  obtain ⟨H, hH⟩ : ∃ z, z = s.heap := ⟨_, rfl⟩
  have hP : va_P D vwCl [(h0, .inr (1, [.ref h4, .ref s2, .ref s3, .ref p4, .ref p5, .ref p6, .int fr])), (h4, .inr (4, [.ref a1, .ref a2, .ref a3, .int (nI n), .int sn, .int sg])), (a3, .inl (cI, 9, .inl fp)), (p5, .inl (cJ, len, .inr (.inl eb)))] H := by rw [hH]; exact hP
  have hS : va_S aN s.heap H [] := by rw [hH]; exact hS
  refine m_heap hH ?_
  clear hH
  refine lv_iconst (v := nI 0) hx hb dX1_nextOfBest_0 (by decide) ?_
  refine lv_istore (lv' := [(5, .int (nI 0)), (0, .ref h0), (1, .int (nI sx)), (2, .int (nI un)), (3, .long le)]) hx hb dX1_nextOfBest_1 hl (by decide) rfl (fun ls hl => ?_)
  have loop1 : ∀ (fu : Nat) (k : Nat) (H : Heap) (locs : List Loc) (ls : Array Slot), (k ≤ n ∧ n < k + fu) → va_P D vwCl [(h0, .inr (1, [.ref h4, .ref s2, .ref s3, .ref p4, .ref p5, .ref p6, .int fr])), (h4, .inr (4, [.ref a1, .ref a2, .ref a3, .int (nI n), .int sn, .int sg])), (a3, .inl (cI, 9, .inl fp)), (p5, .inl (cJ, len, .inr (.inl eb)))] H → va_S aN s.heap H locs → lv_has ls 6 [(5, .int (nI k)), (0, .ref h0), (1, .int (nI sx)), (2, .int (nI un)), (3, .long le)] → W p l e (headSpec wsX1_nextOfBest rm_c_X1_nextOfBest).room s m ([.ref h0, .int (nI sx), .int (nI un), .long le] : List Value).toArray below meth c H locs 0 0 Q (F0 m 3 ls []) := by
    intro fu
    induction fu with
    | zero => intro k H locs ls hk; exact absurd hk (by omega)
    | succ fu ih1 =>
      intro k H locs ls hk hP hS hl
      refine lv_iload hx hb dX1_nextOfBest_3 (lv_at hl 0 rfl) ?_
      refine lv_aload_n hx hb dX1_nextOfBest_5 rfl (lv_at hl 1 rfl) ?_
      refine va_get (D := D) (ci := 1) (v := .ref h4) (C := RX1) (T := TX1) (N := 7) hx hb hts hiX1 hown hK hP 0 rfl rfl 0 (by decide) hf22 (fun _ h9 => h9) rfl dX1_nextOfBest_6 ?_
      refine va_getN (D := D) (ci := 4) (v := .int (nI n)) (C := RX4) (T := TX4) (N := 6) hx hb hts hiX4 hown hK hP 1 rfl rfl 3 (by decide) hf57 (fun _ h9 => h9) rfl dX1_nextOfBest_9 ?_
      refine lv_icmp_ge (tgt := 52) hx hb dX1_nextOfBest_12 (by decide) (fun c2 => ?_) (fun c2 => ?_)
      · skip
        have d2 := c2
        rw [nI_leI (by omega) (by omega)] at d2
        refine lv_iconst (v := (-1 : Int32)) hx hb dX1_nextOfBest_52 (by decide) ?_
        rw [← hQ]
        exact W.iret (v := (-1 : Int32)) hx hb hr (fun tS htS hWS => ⟨⟨(-1 : Int32), (), rfl, Or.inl rfl, trivial⟩, hS.F htS⟩) hS.2.2 dX1_nextOfBest_53
      · skip
        have d2 := c2
        rw [nI_leI (by omega) (by omega)] at d2
        refine lv_iload_n hx hb dX1_nextOfBest_15 rfl (lv_at hl 3 rfl) ?_
        refine lv_iload hx hb dX1_nextOfBest_16 (lv_at hl 0 rfl) ?_
        refine lv_ishr hx hb dX1_nextOfBest_18 ?_
        refine cn_i (y := nI (un / 2 ^ k)) (m_shr (by omega) (by omega)) ?_
        refine lv_iconst (v := nI 1) hx hb dX1_nextOfBest_19 (by decide) ?_
        refine lv_iand hx hb dX1_nextOfBest_20 ?_
        refine cn_i (y := nI ((un / 2 ^ k) % 2)) (m_andn1 (by first | omega | exact Nat.lt_of_le_of_lt (Nat.div_le_self _ _) (by omega))) ?_
        refine lv_iconst (v := nI 1) hx hb dX1_nextOfBest_21 (by decide) ?_
        refine lv_icmp_ne (tgt := 46) hx hb dX1_nextOfBest_22 (by decide) (fun c3 => ?_) (fun c3 => ?_)
        · skip
          have d3 := c3
          rw [nI_eq (by omega) (by omega)] at d3
          refine lv_iinc (v := nI (k + 1)) (lv' := [(5, .int (nI (k + 1))), (0, .ref h0), (1, .int (nI sx)), (2, .int (nI un)), (3, .long le)]) hx hb dX1_nextOfBest_46 hl (k := 0) rfl (nI_1 k) (by decide) rfl (fun ls hl => ?_)
          refine lv_goto (tgt := 3) hx hb dX1_nextOfBest_49 (by decide) ?_
          exact ih1 (k + 1) _ _ _ (by omega) hP hS (lv_sub hl [0, 1, 2, 3, 4] rfl)
        · skip
          have d3 := c3
          rw [nI_eq (by omega) (by omega)] at d3
          refine lv_aload_n hx hb dX1_nextOfBest_25 rfl (lv_at hl 1 rfl) ?_
          refine lv_iload hx hb dX1_nextOfBest_26 (lv_at hl 0 rfl) ?_
          refine lv_iload_n hx hb dX1_nextOfBest_28 rfl (lv_at hl 2 rfl) ?_
          refine lv_lload_n hx hb dX1_nextOfBest_29 rfl (lv_at hl 4 rfl) ?_
          refine pu_l (va_runV (As := [.int (nI k), .int (nI sx), .long le]) (rest := []) ⟨hx, hb, hml, hown, hts⟩ (c_X1_meanFrom l D cI cJ cZ z3 t3 h0 h4 s2 s3 p4 p5 p6 a1 a2 a3 n k sx len sn sg fr le fp eb (by first | assumption | omega) (by exact hub k (by omega) (by omega)) (by first | assumption | omega)) (cwV 3 hts gX1_nextOfBest_X1_meanFrom rfl rfl rfl (by decide +kernel) ⟨Nat.le_of_ble_eq_true rfl, Nat.le_of_ble_eq_true rfl⟩) ⟨pcT_blind, va_recv hK hP (ci := 1) (q0 := 0) rfl rfl, fun U hU hW => ⟨rfl, by rw [hU]; exact hP.sub (ws' := [(h0, .inr (1, [.ref h4, .ref s2, .ref s3, .ref p4, .ref p5, .ref p6, .int fr])), (h4, .inr (4, [.ref a1, .ref a2, .ref a3, .int (nI n), .int sn, .int sg])), (a3, .inl (cI, 9, .inl fp)), (p5, .inl (cJ, len, .inr (.inl eb)))]) [0, 1, 2, 3] rfl, hKN.warm hW, hT0.go hS hzA htA hW hU⟩⟩ rfl rfl hl.1 rfl (lv_room (Nat.le_of_ble_eq_true rfl)) dX1_nextOfBest_30 ⟨Nat.le_of_ble_eq_true rfl, Nat.le_of_ble_eq_true rfl⟩) hS hP (fun r4 H locs w4r hP hS => ?_)
          have w4 : r4 = (fp k).toInt64 * le + eb (sx + 3 ^ k) + eb (sx + 2 * 3 ^ k) := w4r
          clear w4r
          refine lv_aload_n hx hb dX1_nextOfBest_33 rfl (lv_at hl 1 rfl) ?_
          refine va_get (D := D) (ci := 1) (v := .ref p5) (C := RX1) (T := TX1) (N := 7) hx hb hts hiX1 hown hK hP 0 rfl rfl 4 (by decide) hf15 (fun _ h9 => h9) rfl dX1_nextOfBest_34 ?_
          refine lv_iload_n hx hb dX1_nextOfBest_37 rfl (lv_at hl 2 rfl) ?_
          refine va_lald hx hb hK hP 3 1 rfl rfl (i := nI sx) (vp_in_nI (by omega) (by omega)) dX1_nextOfBest_38 ?_
          refine cn_l (y := eb sx) (congrArg eb (nI_clamp (by omega))) ?_
          refine W.lcmp hx hb dX1_nextOfBest_39 ?_
          refine lv_if_ne (tgt := 46) hx hb dX1_nextOfBest_40 (by decide) (fun c5 => ?_) (fun c5 => ?_)
          · skip
            refine lv_iinc (v := nI (k + 1)) (lv' := [(5, .int (nI (k + 1))), (0, .ref h0), (1, .int (nI sx)), (2, .int (nI un)), (3, .long le)]) hx hb dX1_nextOfBest_46 hl (k := 0) rfl (nI_1 k) (by decide) rfl (fun ls hl => ?_)
            refine lv_goto (tgt := 3) hx hb dX1_nextOfBest_49 (by decide) ?_
            exact ih1 (k + 1) _ _ _ (by omega) hP hS (lv_sub hl [0, 1, 2, 3, 4] rfl)
          · skip
            refine lv_iload hx hb dX1_nextOfBest_43 (lv_at hl 0 rfl) ?_
            rw [← hQ]
            exact W.iret (v := nI k) hx hb hr (fun tS htS hWS => ⟨⟨(nI k), (), rfl, Or.inr ⟨k, by omega, rfl, by omega⟩, trivial⟩, hS.F htS⟩) hS.2.2 dX1_nextOfBest_45
  exact loop1 (n + 1) 0 _ _ _ (by omega) hP hS (lv_sub hl [0, 1, 2, 3, 4] rfl)
def rm_c_X1_nextOfWorst : Room := { frames := 2, cells := 0, slots := 0, locals := 52 }
set_option maxHeartbeats 400000 in
set_option maxRecDepth 100000 in
theorem c_X1_nextOfWorst (l : Launch) (D : va_G) (cI cJ cZ : ClassId) (z3 t3 : Nat) (h0 : Nat) (h4 : Nat) (s2 : Nat) (s3 : Nat) (p4 : Nat) (p5 : Nat) (p6 : Nat) (a1 : Nat) (a2 : Nat) (a3 : Nat) (n : Nat) (sx : Nat) (un : Nat) (len : Nat) (sn : Int32) (sg : Int32) (fr : Int32) (fp : Nat → Int32) (ew : Nat → Int32) (hn : n ≤ 9) (hun : un < 512) (hsx : sx < len) (hub : ∀ z, z < n → un / 2 ^ z % 2 = 1 → sx + 2 * 3 ^ z < len) (hlen : len ≤ 19683) : Met l yX1_nextOfWorst wsX1_nextOfWorst rm_c_X1_nextOfWorst (pcT_ D cI cJ cZ z3 t3 [.ref h0, .int (nI sx), .int (nI un)] [(h0, .inr (1, [.ref h4, .ref s2, .ref s3, .ref p4, .ref p5, .ref p6, .int fr])), (h4, .inr (4, [.ref a1, .ref a2, .ref a3, .int (nI n), .int sn, .int sg])), (a3, .inl (cI, 9, .inl fp)), (p6, .inl (cI, len, .inl ew))]) (va_Qi (fun (r : Int32) (_ : Unit) => r = -1 ∨ ∃ x, x < n ∧ r = nI x ∧ un / 2 ^ x % 2 = 1) (fun _ _ => True) aN) 0 0 aN := by
  refine Met.ofW (cc := cX1_nextOfWorst) (maxL := 4) (ret := (some .int)) (by decide) rfl ?_
  intro p e s m args below meth c s₁ B hml hv
  obtain ⟨rfl, hP, hKN, hT0⟩ := hv
  have hK := hKN.1
  have hx := B.exec
  have hb := B.bytes
  have hr := B.returns
  have hts := atoms_spec (ws := wsX1_nextOfWorst) B.pre
  have hown : s.vm.findClass RX1 = some m.cls := findClass_of_methodNamed B.named
  have hlocks := B.notSynchronized
  have hiX1 : ∀ w ∈ wsX10, w ∈ wsX1_nextOfWorst := by decide +kernel
  have hiX4 : ∀ w ∈ wsX40, w ∈ wsX1_nextOfWorst := by decide +kernel
  have hf19 := hts (.fieldLink RX1 19 "LookBench$Plans" "worst" "[I") (by decide +kernel)
  have hf22 := hts (.fieldLink RX1 22 "LookBench$Plans" "shelf" "LLookBench$Shelf;") (by decide +kernel)
  have hf57 := va_Nw.use (A := [.ref h0, .int (nI sx), .int (nI un)].toArray) rfl (hKN.2 (.fieldLinkNest RX1 57 RX4 "count" "I" RX6) (by decide +kernel))
  have hS : va_S aN s.heap s.heap [] := va_S.rf
  have hzA : ¬ aN z3 := fun h => h
  have htA : ¬ aN t3 := fun h => h
  have hZ3 := hT0.Z hzA
  have hT3 := hT0.T htA
  have hl := lv_entry ([.ref h0, .int (nI sx), .int (nI un)]) (n := 4) (Nat.le_of_ble_eq_true rfl)
  rw [lg_entry_eq]
  generalize (lg_sl ([.ref h0, .int (nI sx), .int (nI un)]) ++ List.replicate (4 - (lg_sl ([.ref h0, .int (nI sx), .int (nI un)])).length) Slot.unset).toArray = ls at hl ⊢
  have hl : lv_has ls 4 [(0, .ref h0), (1, .int (nI sx)), (2, .int (nI un))] := hl
  generalize hQ : MQ below _ _ s _ _ _ = Q
  obtain ⟨H, hH⟩ : ∃ z, z = s.heap := ⟨_, rfl⟩
  have hP : va_P D vwCl [(h0, .inr (1, [.ref h4, .ref s2, .ref s3, .ref p4, .ref p5, .ref p6, .int fr])), (h4, .inr (4, [.ref a1, .ref a2, .ref a3, .int (nI n), .int sn, .int sg])), (a3, .inl (cI, 9, .inl fp)), (p6, .inl (cI, len, .inl ew))] H := by rw [hH]; exact hP
  have hS : va_S aN s.heap H [] := by rw [hH]; exact hS
  refine m_heap hH ?_
  clear hH
  refine lv_iconst (v := nI 0) hx hb dX1_nextOfWorst_0 (by decide) ?_
  refine lv_istore_n (lv' := [(3, .int (nI 0)), (0, .ref h0), (1, .int (nI sx)), (2, .int (nI un))]) hx hb dX1_nextOfWorst_1 rfl hl (by decide) rfl (fun ls hl => ?_)
  have loop1 : ∀ (fu : Nat) (k : Nat) (H : Heap) (locs : List Loc) (ls : Array Slot), (k ≤ n ∧ n < k + fu) → va_P D vwCl [(h0, .inr (1, [.ref h4, .ref s2, .ref s3, .ref p4, .ref p5, .ref p6, .int fr])), (h4, .inr (4, [.ref a1, .ref a2, .ref a3, .int (nI n), .int sn, .int sg])), (a3, .inl (cI, 9, .inl fp)), (p6, .inl (cI, len, .inl ew))] H → va_S aN s.heap H locs → lv_has ls 4 [(3, .int (nI k)), (0, .ref h0), (1, .int (nI sx)), (2, .int (nI un))] → W p l e (headSpec wsX1_nextOfWorst rm_c_X1_nextOfWorst).room s m ([.ref h0, .int (nI sx), .int (nI un)] : List Value).toArray below meth c H locs 0 0 Q (F0 m 2 ls []) := by
    intro fu
    induction fu with
    | zero => intro k H locs ls hk; exact absurd hk (by omega)
    | succ fu ih1 =>
      intro k H locs ls hk hP hS hl
      refine lv_iload_n hx hb dX1_nextOfWorst_2 rfl (lv_at hl 0 rfl) ?_
      refine lv_aload_n hx hb dX1_nextOfWorst_3 rfl (lv_at hl 1 rfl) ?_
      refine va_get (D := D) (ci := 1) (v := .ref h4) (C := RX1) (T := TX1) (N := 7) hx hb hts hiX1 hown hK hP 0 rfl rfl 0 (by decide) hf22 (fun _ h9 => h9) rfl dX1_nextOfWorst_4 ?_
      refine va_getN (D := D) (ci := 4) (v := .int (nI n)) (C := RX4) (T := TX4) (N := 6) hx hb hts hiX4 hown hK hP 1 rfl rfl 3 (by decide) hf57 (fun _ h9 => h9) rfl dX1_nextOfWorst_7 ?_
      refine lv_icmp_ge (tgt := 45) hx hb dX1_nextOfWorst_10 (by decide) (fun c2 => ?_) (fun c2 => ?_)
      · skip
        have d2 := c2
        rw [nI_leI (by omega) (by omega)] at d2
        refine lv_iconst (v := (-1 : Int32)) hx hb dX1_nextOfWorst_45 (by decide) ?_
        rw [← hQ]
        exact W.iret (v := (-1 : Int32)) hx hb hr (fun tS htS hWS => ⟨⟨(-1 : Int32), (), rfl, Or.inl rfl, trivial⟩, hS.F htS⟩) hS.2.2 dX1_nextOfWorst_46
      · skip
        have d2 := c2
        rw [nI_leI (by omega) (by omega)] at d2
        refine lv_iload_n hx hb dX1_nextOfWorst_13 rfl (lv_at hl 3 rfl) ?_
        refine lv_iload_n hx hb dX1_nextOfWorst_14 rfl (lv_at hl 0 rfl) ?_
        refine lv_ishr hx hb dX1_nextOfWorst_15 ?_
        refine cn_i (y := nI (un / 2 ^ k)) (m_shr (by omega) (by omega)) ?_
        refine lv_iconst (v := nI 1) hx hb dX1_nextOfWorst_16 (by decide) ?_
        refine lv_iand hx hb dX1_nextOfWorst_17 ?_
        refine cn_i (y := nI ((un / 2 ^ k) % 2)) (m_andn1 (by first | omega | exact Nat.lt_of_le_of_lt (Nat.div_le_self _ _) (by omega))) ?_
        refine lv_iconst (v := nI 1) hx hb dX1_nextOfWorst_18 (by decide) ?_
        refine lv_icmp_ne (tgt := 39) hx hb dX1_nextOfWorst_19 (by decide) (fun c3 => ?_) (fun c3 => ?_)
        · skip
          have d3 := c3
          rw [nI_eq (by omega) (by omega)] at d3
          refine lv_iinc (v := nI (k + 1)) (lv' := [(3, .int (nI (k + 1))), (0, .ref h0), (1, .int (nI sx)), (2, .int (nI un))]) hx hb dX1_nextOfWorst_39 hl (k := 0) rfl (nI_1 k) (by decide) rfl (fun ls hl => ?_)
          refine lv_goto (tgt := 2) hx hb dX1_nextOfWorst_42 (by decide) ?_
          exact ih1 (k + 1) _ _ _ (by omega) hP hS (lv_sub hl [0, 1, 2, 3] rfl)
        · skip
          have d3 := c3
          rw [nI_eq (by omega) (by omega)] at d3
          refine lv_aload_n hx hb dX1_nextOfWorst_22 rfl (lv_at hl 1 rfl) ?_
          refine lv_iload_n hx hb dX1_nextOfWorst_23 rfl (lv_at hl 0 rfl) ?_
          refine lv_iload_n hx hb dX1_nextOfWorst_24 rfl (lv_at hl 2 rfl) ?_
          refine pu_i (va_runV (As := [.int (nI k), .int (nI sx)]) (rest := []) ⟨hx, hb, hml, hown, hts⟩ (c_X1_worstFrom l D cI cJ cZ z3 t3 h0 h4 s2 s3 p4 p5 p6 a1 a2 a3 n k sx len sn sg fr fp ew (by first | assumption | omega) (by exact hub k (by omega) (by omega)) (by first | assumption | omega)) (cwV 2 hts gX1_nextOfWorst_X1_worstFrom rfl rfl rfl (by decide +kernel) ⟨Nat.le_of_ble_eq_true rfl, Nat.le_of_ble_eq_true rfl⟩) ⟨pcT_blind, va_recv hK hP (ci := 1) (q0 := 0) rfl rfl, fun U hU hW => ⟨rfl, by rw [hU]; exact hP.sub (ws' := [(h0, .inr (1, [.ref h4, .ref s2, .ref s3, .ref p4, .ref p5, .ref p6, .int fr])), (h4, .inr (4, [.ref a1, .ref a2, .ref a3, .int (nI n), .int sn, .int sg])), (a3, .inl (cI, 9, .inl fp)), (p6, .inl (cI, len, .inl ew))]) [0, 1, 2, 3] rfl, hKN.warm hW, hT0.go hS hzA htA hW hU⟩⟩ rfl rfl hl.1 rfl (lv_room (Nat.le_of_ble_eq_true rfl)) dX1_nextOfWorst_25 ⟨Nat.le_of_ble_eq_true rfl, Nat.le_of_ble_eq_true rfl⟩) hS hP (fun r4 H locs w4r hP hS => ?_)
          have w4 : r4 = fp k + (if ew (sx + 3 ^ k) < ew (sx + 2 * 3 ^ k) then ew (sx + 2 * 3 ^ k) else ew (sx + 3 ^ k)) := w4r
          clear w4r
          refine lv_aload_n hx hb dX1_nextOfWorst_28 rfl (lv_at hl 1 rfl) ?_
          refine va_get (D := D) (ci := 1) (v := .ref p6) (C := RX1) (T := TX1) (N := 7) hx hb hts hiX1 hown hK hP 0 rfl rfl 5 (by decide) hf19 (fun _ h9 => h9) rfl dX1_nextOfWorst_29 ?_
          refine lv_iload_n hx hb dX1_nextOfWorst_32 rfl (lv_at hl 2 rfl) ?_
          refine va_iald hx hb hK hP 3 0 rfl rfl (i := nI sx) (vp_in_nI (by omega) (by omega)) dX1_nextOfWorst_33 ?_
          refine cn_i (y := ew sx) (congrArg ew (nI_clamp (by omega))) ?_
          refine lv_icmp_ne (tgt := 39) hx hb dX1_nextOfWorst_34 (by decide) (fun c5 => ?_) (fun c5 => ?_)
          · skip
            refine lv_iinc (v := nI (k + 1)) (lv' := [(3, .int (nI (k + 1))), (0, .ref h0), (1, .int (nI sx)), (2, .int (nI un))]) hx hb dX1_nextOfWorst_39 hl (k := 0) rfl (nI_1 k) (by decide) rfl (fun ls hl => ?_)
            refine lv_goto (tgt := 2) hx hb dX1_nextOfWorst_42 (by decide) ?_
            exact ih1 (k + 1) _ _ _ (by omega) hP hS (lv_sub hl [0, 1, 2, 3] rfl)
          · skip
            refine lv_iload_n hx hb dX1_nextOfWorst_37 rfl (lv_at hl 0 rfl) ?_
            rw [← hQ]
            exact W.iret (v := nI k) hx hb hr (fun tS htS hWS => ⟨⟨(nI k), (), rfl, Or.inr ⟨k, by omega, rfl, by omega⟩, trivial⟩, hS.F htS⟩) hS.2.2 dX1_nextOfWorst_38
  exact loop1 (n + 1) 0 _ _ _ (by omega) hP hS (lv_sub hl [0, 1, 2, 3] rfl)
def rm_c_X1_settle : Room := { frames := 0, cells := 0, slots := 0, locals := 0 }
set_option maxHeartbeats 400000 in
set_option maxRecDepth 100000 in
theorem c_X1_settle (l : Launch) (D : va_G) (cI cJ cZ : ClassId) (z3 t3 : Nat) (h0 : Nat) (h4 : Nat) (s2 : Nat) (s3 : Nat) (p4 : Nat) (p5 : Nat) (p6 : Nat) (a1 : Nat) (a2 : Nat) (a3 : Nat) (n : Nat) (sx : Nat) (op : Nat) (len : Nat) (sn : Int32) (sg : Int32) (fr : Int32) (le : Int64) (fp : Nat → Int32) (fq : Nat → Int32) (eb : Nat → Int64) (ew : Nat → Int32) (hop : op ≤ 9) (hsx : sx < len) (hfq : ∀ z, z < op → ∃ x, x < 9 ∧ fq z = nI x ∧ sx + 2 * 3 ^ x < len) (hlen : len ≤ 19683) (hz3 : nz3 z3 t3 [h0, h4, a3, p4, p5, p6]) : Met l yX1_settle wsX1_settle rm_c_X1_settle (pmT_ D cI cJ cZ z3 t3 [.ref h0, .int (nI sx), .long le, .int (nI op)] [(h0, .inr (1, [.ref h4, .ref s2, .ref s3, .ref p4, .ref p5, .ref p6, .int fr])), (h4, .inr (4, [.ref a1, .ref a2, .ref a3, .int (nI n), .int sn, .int sg])), (a3, .inl (cI, 9, .inl fp)), (p4, .inl (cI, 9, .inl fq)), (p5, .inl (cJ, len, .inr (.inl eb))), (p6, .inl (cI, len, .inl ew))]) (va_Qv (fun (u : (Nat → Int64) × (Nat → Int32)) => True) (fun (u : (Nat → Int64) × (Nat → Int32)) tS => va_P D vwCl [(h0, .inr (1, [.ref h4, .ref s2, .ref s3, .ref p4, .ref p5, .ref p6, .int fr])), (h4, .inr (4, [.ref a1, .ref a2, .ref a3, .int (nI n), .int sn, .int sg])), (a3, .inl (cI, 9, .inl fp)), (p4, .inl (cI, 9, .inl fq)), (p5, .inl (cJ, len, .inr (.inl u.1))), (p6, .inl (cI, len, .inl u.2))] tS.heap) (aA [h0, h4, a3, p4, p5, p6])) 0 0 (aA [h0, h4, a3, p4, p5, p6]) := by
  refine Met.ofW (cc := cX1_settle) (maxL := 18) (ret := none) (by decide) rfl ?_
  intro p e s m args below meth c s₁ B hml hv
  obtain ⟨rfl, hP, hKN, hT0, hD0⟩ := hv
  have hK := hKN.1
  have hx := B.exec
  have hb := B.bytes
  have hr := B.returns
  have hts := atoms_spec (ws := wsX1_settle) B.pre
  have hown : s.vm.findClass RX1 = some m.cls := findClass_of_methodNamed B.named
  have hlocks := B.notSynchronized
  have hiX1 : ∀ w ∈ wsX10, w ∈ wsX1_settle := by decide +kernel
  have hiX4 : ∀ w ∈ wsX40, w ∈ wsX1_settle := by decide +kernel
  have hf9 := hts (.fieldLink RX1 9 "LookBench$Plans" "open" "[I") (by decide +kernel)
  have hf15 := hts (.fieldLink RX1 15 "LookBench$Plans" "best" "[J") (by decide +kernel)
  have hf19 := hts (.fieldLink RX1 19 "LookBench$Plans" "worst" "[I") (by decide +kernel)
  have hf22 := hts (.fieldLink RX1 22 "LookBench$Plans" "shelf" "LLookBench$Shelf;") (by decide +kernel)
  have hf92 := va_Nw.use (A := [.ref h0, .int (nI sx), .long le, .int (nI op)].toArray) rfl (hKN.2 (.fieldLinkNest RX1 92 RX4 "prices" "[I" RX6) (by decide +kernel))
  obtain ⟨as, has⟩ : ∃ z : List Nat, z = [h0, h4, a3, p4, p5, p6] := ⟨_, rfl⟩
  have hD := hD0.addr (as := as) (by rw [has]; rfl)
  have hS : va_S (aA as) s.heap s.heap [] := va_S.rf
  have hzA : ¬ aA as z3 := by rw [has]; exact hz3.z
  have htA : ¬ aA as t3 := by rw [has]; exact hz3.t
  have hZ3 := hT0.Z hzA
  have hT3 := hT0.T htA
  have hfs := hts (.fieldLink RX1 54 "LookBench$Plans" "THREES" "[I") (by decide +kernel)
  have hl := lv_entry ([.ref h0, .int (nI sx), .long le, .int (nI op)]) (n := 18) (Nat.le_of_ble_eq_true rfl)
  rw [lg_entry_eq]
  generalize (lg_sl ([.ref h0, .int (nI sx), .long le, .int (nI op)]) ++ List.replicate (18 - (lg_sl ([.ref h0, .int (nI sx), .long le, .int (nI op)])).length) Slot.unset).toArray = ls at hl ⊢
  have hl : lv_has ls 18 [(0, .ref h0), (1, .int (nI sx)), (2, .long le), (4, .int (nI op))] := hl
  generalize hQ : MQ below _ _ s _ _ _ = Q
  obtain ⟨H, hH⟩ : ∃ z, z = s.heap := ⟨_, rfl⟩
  have hP : va_P D vwCl [(h0, .inr (1, [.ref h4, .ref s2, .ref s3, .ref p4, .ref p5, .ref p6, .int fr])), (h4, .inr (4, [.ref a1, .ref a2, .ref a3, .int (nI n), .int sn, .int sg])), (a3, .inl (cI, 9, .inl fp)), (p4, .inl (cI, 9, .inl fq)), (p5, .inl (cJ, len, .inr (.inl eb))), (p6, .inl (cI, len, .inl ew))] H := by rw [hH]; exact hP
  have hS : va_S (aA as) s.heap H [] := by rw [hH]; exact hS
  refine m_heap hH ?_
  clear hH
  refine lv_aload_n hx hb dX1_settle_0 rfl (lv_at hl 0 rfl) ?_
  refine va_get (D := D) (ci := 1) (v := .ref p5) (C := RX1) (T := TX1) (N := 7) hx hb hts hiX1 hown hK hP 0 rfl rfl 4 (by decide) hf15 (fun _ h9 => h9) rfl dX1_settle_1 ?_
  refine lv_astore (lv' := [(5, .ref p5), (0, .ref h0), (1, .int (nI sx)), (2, .long le), (4, .int (nI op))]) hx hb dX1_settle_4 hl (by decide) rfl (fun ls hl => ?_)
  refine lv_aload_n hx hb dX1_settle_6 rfl (lv_at hl 1 rfl) ?_
  refine va_get (D := D) (ci := 1) (v := .ref p6) (C := RX1) (T := TX1) (N := 7) hx hb hts hiX1 hown hK hP 0 rfl rfl 5 (by decide) hf19 (fun _ h9 => h9) rfl dX1_settle_7 ?_
  refine lv_astore (lv' := [(6, .ref p6), (5, .ref p5), (0, .ref h0), (1, .int (nI sx)), (2, .long le), (4, .int (nI op))]) hx hb dX1_settle_10 hl (by decide) rfl (fun ls hl => ?_)
  refine lv_aload_n hx hb dX1_settle_12 rfl (lv_at hl 2 rfl) ?_
  refine va_get (D := D) (ci := 1) (v := .ref h4) (C := RX1) (T := TX1) (N := 7) hx hb hts hiX1 hown hK hP 0 rfl rfl 0 (by decide) hf22 (fun _ h9 => h9) rfl dX1_settle_13 ?_
  refine va_getN (D := D) (ci := 4) (v := .ref a3) (C := RX4) (T := TX4) (N := 6) hx hb hts hiX4 hown hK hP 1 rfl rfl 2 (by decide) hf92 (fun _ h9 => h9) rfl dX1_settle_16 ?_
  refine lv_astore (lv' := [(7, .ref a3), (6, .ref p6), (5, .ref p5), (0, .ref h0), (1, .int (nI sx)), (2, .long le), (4, .int (nI op))]) hx hb dX1_settle_19 hl (by decide) rfl (fun ls hl => ?_)
  refine lv_ldc2 (v := lN 9223372036854775807) hx hb hown (hts (.constantLong RX1 131 (lN 9223372036854775807)) (by decide +kernel)) dX1_settle_21 ?_
  refine lv_lstore (lv' := [(8, .long (lN 9223372036854775807)), (7, .ref a3), (6, .ref p6), (5, .ref p5), (0, .ref h0), (1, .int (nI sx)), (2, .long le), (4, .int (nI op))]) hx hb dX1_settle_24 hl (by decide) rfl (fun ls hl => ?_)
  refine lv_ldc (v := 2147483647) hx hb hown (hts (.constant RX1 135 (2147483647)) (by decide +kernel)) dX1_settle_26 ?_
  refine lv_istore (lv' := [(10, .int 2147483647), (8, .long (lN 9223372036854775807)), (7, .ref a3), (6, .ref p6), (5, .ref p5), (0, .ref h0), (1, .int (nI sx)), (2, .long le), (4, .int (nI op))]) hx hb dX1_settle_28 hl (by decide) rfl (fun ls hl => ?_)
  refine lv_iconst (v := nI 0) hx hb dX1_settle_30 (by decide) ?_
  refine lv_istore (lv' := [(11, .int (nI 0)), (10, .int 2147483647), (8, .long (lN 9223372036854775807)), (7, .ref a3), (6, .ref p6), (5, .ref p5), (0, .ref h0), (1, .int (nI sx)), (2, .long le), (4, .int (nI op))]) hx hb dX1_settle_31 hl (by decide) rfl (fun ls hl => ?_)
  have loop1 : ∀ (fu : Nat) (k : Nat) (v8 : Int64) (v10 : Int32) (H : Heap) (locs : List Loc) (ls : Array Slot), (k ≤ op ∧ op < k + fu) → va_P D vwCl [(h0, .inr (1, [.ref h4, .ref s2, .ref s3, .ref p4, .ref p5, .ref p6, .int fr])), (h4, .inr (4, [.ref a1, .ref a2, .ref a3, .int (nI n), .int sn, .int sg])), (a3, .inl (cI, 9, .inl fp)), (p4, .inl (cI, 9, .inl fq)), (p5, .inl (cJ, len, .inr (.inl eb))), (p6, .inl (cI, len, .inl ew))] H → va_D (aA as) [(h0, .inr (1, [.ref h4, .ref s2, .ref s3, .ref p4, .ref p5, .ref p6, .int fr])), (h4, .inr (4, [.ref a1, .ref a2, .ref a3, .int (nI n), .int sn, .int sg])), (a3, .inl (cI, 9, .inl fp)), (p4, .inl (cI, 9, .inl fq)), (p5, .inl (cJ, len, .inr (.inl eb))), (p6, .inl (cI, len, .inl ew))] → va_S (aA as) s.heap H locs → lv_has ls 18 [(11, .int (nI k)), (10, .int v10), (8, .long v8), (7, .ref a3), (6, .ref p6), (5, .ref p5), (0, .ref h0), (1, .int (nI sx)), (2, .long le), (4, .int (nI op))] → W p l e (headSpec wsX1_settle rm_c_X1_settle).room s m ([.ref h0, .int (nI sx), .long le, .int (nI op)] : List Value).toArray below meth c H locs 0 0 Q (F0 m 33 ls []) := by
    intro fu
    induction fu with
    | zero => intro k v8 v10 H locs ls hk; exact absurd hk (by omega)
    | succ fu ih1 =>
      intro k v8 v10 H locs ls hk hP hD hS hl
      refine lv_iload hx hb dX1_settle_33 (lv_at hl 0 rfl) ?_
      refine lv_iload hx hb dX1_settle_35 (lv_at hl 9 rfl) ?_
      refine lv_icmp_ge (tgt := 165) hx hb dX1_settle_37 (by decide) (fun c2 => ?_) (fun c2 => ?_)
      · skip
        have d2 := c2
        rw [nI_leI (by omega) (by omega)] at d2
        refine lv_aload hx hb dX1_settle_165 (lv_at hl 5 rfl) ?_
        refine lv_iload_n hx hb dX1_settle_167 rfl (lv_at hl 7 rfl) ?_
        refine lv_lload hx hb dX1_settle_168 (lv_at hl 2 rfl) ?_
        refine va_last hx hb hK hP hD hS 4 1 rfl rfl (i := nI sx) (vp_in_nI (by omega) (by omega)) dX1_settle_170 (fun H locs hP hD hS => ?_)
        have hP : va_P D vwCl [(h0, .inr (1, [.ref h4, .ref s2, .ref s3, .ref p4, .ref p5, .ref p6, .int fr])), (h4, .inr (4, [.ref a1, .ref a2, .ref a3, .int (nI n), .int sn, .int sg])), (a3, .inl (cI, 9, .inl fp)), (p4, .inl (cI, 9, .inl fq)), (p5, .inl (cJ, len, .inr (.inl (vp_updL eb (nI sx).toNatClampNeg v8)))), (p6, .inl (cI, len, .inl ew))] H := hP
        have hD : va_D (aA as) [(h0, .inr (1, [.ref h4, .ref s2, .ref s3, .ref p4, .ref p5, .ref p6, .int fr])), (h4, .inr (4, [.ref a1, .ref a2, .ref a3, .int (nI n), .int sn, .int sg])), (a3, .inl (cI, 9, .inl fp)), (p4, .inl (cI, 9, .inl fq)), (p5, .inl (cJ, len, .inr (.inl (vp_updL eb (nI sx).toNatClampNeg v8)))), (p6, .inl (cI, len, .inl ew))] := hD
        rw [nI_clamp (n := sx) (by omega)] at hP hD
        refine lv_aload hx hb dX1_settle_171 (lv_at hl 4 rfl) ?_
        refine lv_iload_n hx hb dX1_settle_173 rfl (lv_at hl 7 rfl) ?_
        refine lv_iload hx hb dX1_settle_174 (lv_at hl 1 rfl) ?_
        refine va_iast hx hb hK hP hD hS 5 0 rfl rfl (i := nI sx) (vp_in_nI (by omega) (by omega)) dX1_settle_176 (fun H locs hP hD hS => ?_)
        have hP : va_P D vwCl [(h0, .inr (1, [.ref h4, .ref s2, .ref s3, .ref p4, .ref p5, .ref p6, .int fr])), (h4, .inr (4, [.ref a1, .ref a2, .ref a3, .int (nI n), .int sn, .int sg])), (a3, .inl (cI, 9, .inl fp)), (p4, .inl (cI, 9, .inl fq)), (p5, .inl (cJ, len, .inr (.inl (vp_updL eb sx v8)))), (p6, .inl (cI, len, .inl (upd ew (nI sx).toNatClampNeg v10)))] H := hP
        have hD : va_D (aA as) [(h0, .inr (1, [.ref h4, .ref s2, .ref s3, .ref p4, .ref p5, .ref p6, .int fr])), (h4, .inr (4, [.ref a1, .ref a2, .ref a3, .int (nI n), .int sn, .int sg])), (a3, .inl (cI, 9, .inl fp)), (p4, .inl (cI, 9, .inl fq)), (p5, .inl (cJ, len, .inr (.inl (vp_updL eb sx v8)))), (p6, .inl (cI, len, .inl (upd ew (nI sx).toNatClampNeg v10)))] := hD
        rw [nI_clamp (n := sx) (by omega)] at hP hD
        rw [← hQ]
        exact W.vret hx hb hr (fun tS htS hWS => ⟨⟨(vp_updL eb sx v8, upd ew sx v10), rfl, trivial, m_at htS hP⟩, by rw [← has]; exact hS.F htS⟩) (by rw [← has]; exact hS.2.2) dX1_settle_177
      · skip
        have d2 := c2
        rw [nI_leI (by omega) (by omega)] at d2
        refine lv_aload_n hx hb dX1_settle_40 rfl (lv_at hl 6 rfl) ?_
        refine va_get (D := D) (ci := 1) (v := .ref p4) (C := RX1) (T := TX1) (N := 7) hx hb hts hiX1 hown hK hP 0 rfl rfl 3 (by decide) hf9 (fun _ h9 => h9) rfl dX1_settle_41 ?_
        refine lv_iload hx hb dX1_settle_44 (lv_at hl 0 rfl) ?_
        obtain ⟨x9, hx9, ex9, hs9⟩ := hfq k (by omega)
        refine va_iald hx hb hK hP 3 0 rfl rfl (i := nI k) (vp_in_nI (by omega) (by omega)) dX1_settle_46 ?_
        refine cn_i (y := nI x9) ((congrArg fq (nI_clamp (by omega))).trans ex9) ?_
        refine lv_istore (lv' := [(12, .int (nI x9)), (11, .int (nI k)), (10, .int v10), (8, .long v8), (7, .ref a3), (6, .ref p6), (5, .ref p5), (0, .ref h0), (1, .int (nI sx)), (2, .long le), (4, .int (nI op))]) hx hb dX1_settle_47 hl (by decide) rfl (fun ls hl => ?_)
        refine lv_iload_n hx hb dX1_settle_49 rfl (lv_at hl 8 rfl) ?_
        refine va_gets hx hb hZ3 hS hown hfs (fun _ h9 => h9) dX1_settle_50 ?_
        refine lv_iload hx hb dX1_settle_53 (lv_at hl 0 rfl) ?_
        refine va_ti hx hb hT3 hS (i := nI x9) (vp_in_nI (by omega) (by omega)) (v := .int (nI (3 ^ x9))) (congrArg (fun j => Value.int (nI (3 ^ j))) (nI_clamp (n := x9) (by omega))) dX1_settle_55 ?_
        refine lv_iadd hx hb dX1_settle_56 ?_
        refine cn_i (y := nI (sx + (3 ^ x9))) (nI_add sx (3 ^ x9)) ?_
        refine lv_istore (lv' := [(13, .int (nI (sx + (3 ^ x9)))), (12, .int (nI x9)), (11, .int (nI k)), (10, .int v10), (8, .long v8), (7, .ref a3), (6, .ref p6), (5, .ref p5), (0, .ref h0), (1, .int (nI sx)), (2, .long le), (4, .int (nI op))]) hx hb dX1_settle_57 hl (by decide) rfl (fun ls hl => ?_)
        refine lv_iload hx hb dX1_settle_59 (lv_at hl 0 rfl) ?_
        refine va_gets hx hb hZ3 hS hown hfs (fun _ h9 => h9) dX1_settle_61 ?_
        refine lv_iload hx hb dX1_settle_64 (lv_at hl 1 rfl) ?_
        refine va_ti hx hb hT3 hS (i := nI x9) (vp_in_nI (by omega) (by omega)) (v := .int (nI (3 ^ x9))) (congrArg (fun j => Value.int (nI (3 ^ j))) (nI_clamp (n := x9) (by omega))) dX1_settle_66 ?_
        refine lv_iadd hx hb dX1_settle_67 ?_
        refine cn_i (y := nI ((sx + (3 ^ x9)) + (3 ^ x9))) (nI_add (sx + (3 ^ x9)) (3 ^ x9)) ?_
        refine lv_istore (lv' := [(14, .int (nI ((sx + (3 ^ x9)) + (3 ^ x9)))), (13, .int (nI (sx + (3 ^ x9)))), (12, .int (nI x9)), (11, .int (nI k)), (10, .int v10), (8, .long v8), (7, .ref a3), (6, .ref p6), (5, .ref p5), (0, .ref h0), (1, .int (nI sx)), (2, .long le), (4, .int (nI op))]) hx hb dX1_settle_68 hl (by decide) rfl (fun ls hl => ?_)
        refine lv_aload hx hb dX1_settle_70 (lv_at hl 6 rfl) ?_
        refine lv_iload hx hb dX1_settle_72 (lv_at hl 2 rfl) ?_
        refine va_iald hx hb hK hP 2 0 rfl rfl (i := nI x9) (vp_in_nI (by omega) (by omega)) dX1_settle_74 ?_
        refine cn_i (y := fp x9) (congrArg fp (nI_clamp (by omega))) ?_
        refine lv_i2l hx hb dX1_settle_75 rfl ?_
        refine lv_lload_n hx hb dX1_settle_76 rfl (lv_at hl 11 rfl) ?_
        refine lv_lmul hx hb dX1_settle_77 ?_
        refine lv_aload hx hb dX1_settle_78 (lv_at hl 8 rfl) ?_
        refine lv_iload hx hb dX1_settle_80 (lv_at hl 1 rfl) ?_
        refine va_lald hx hb hK hP 4 1 rfl rfl (i := nI (sx + (3 ^ x9))) (vp_in_nI (by omega) (by omega)) dX1_settle_82 ?_
        refine cn_l (y := eb (sx + (3 ^ x9))) (congrArg eb (nI_clamp (by omega))) ?_
        refine lv_ladd hx hb dX1_settle_83 ?_
        refine lv_aload hx hb dX1_settle_84 (lv_at hl 8 rfl) ?_
        refine lv_iload hx hb dX1_settle_86 (lv_at hl 0 rfl) ?_
        refine va_lald hx hb hK hP 4 1 rfl rfl (i := nI ((sx + (3 ^ x9)) + (3 ^ x9))) (vp_in_nI (by omega) (by omega)) dX1_settle_88 ?_
        refine cn_l (y := eb ((sx + (3 ^ x9)) + (3 ^ x9))) (congrArg eb (nI_clamp (by omega))) ?_
        refine lv_ladd hx hb dX1_settle_89 ?_
        refine lv_lstore (lv' := [(15, .long (((((fp x9).toInt64) * le) + (eb (sx + (3 ^ x9)))) + (eb ((sx + (3 ^ x9)) + (3 ^ x9))))), (14, .int (nI ((sx + (3 ^ x9)) + (3 ^ x9)))), (13, .int (nI (sx + (3 ^ x9)))), (12, .int (nI x9)), (11, .int (nI k)), (10, .int v10), (8, .long v8), (7, .ref a3), (6, .ref p6), (5, .ref p5), (0, .ref h0), (1, .int (nI sx)), (2, .long le), (4, .int (nI op))]) hx hb dX1_settle_90 hl (by decide) rfl (fun ls hl => ?_)
        refine lv_aload hx hb dX1_settle_92 (lv_at hl 7 rfl) ?_
        refine lv_iload hx hb dX1_settle_94 (lv_at hl 3 rfl) ?_
        refine va_iald hx hb hK hP 2 0 rfl rfl (i := nI x9) (vp_in_nI (by omega) (by omega)) dX1_settle_96 ?_
        refine cn_i (y := fp x9) (congrArg fp (nI_clamp (by omega))) ?_
        refine lv_aload hx hb dX1_settle_97 (lv_at hl 8 rfl) ?_
        refine lv_iload hx hb dX1_settle_99 (lv_at hl 2 rfl) ?_
        refine va_iald hx hb hK hP 5 0 rfl rfl (i := nI (sx + (3 ^ x9))) (vp_in_nI (by omega) (by omega)) dX1_settle_101 ?_
        refine cn_i (y := ew (sx + (3 ^ x9))) (congrArg ew (nI_clamp (by omega))) ?_
        refine lv_aload hx hb dX1_settle_102 (lv_at hl 8 rfl) ?_
        refine lv_iload hx hb dX1_settle_104 (lv_at hl 1 rfl) ?_
        refine va_iald hx hb hK hP 5 0 rfl rfl (i := nI ((sx + (3 ^ x9)) + (3 ^ x9))) (vp_in_nI (by omega) (by omega)) dX1_settle_106 ?_
        refine cn_i (y := ew ((sx + (3 ^ x9)) + (3 ^ x9))) (congrArg ew (nI_clamp (by omega))) ?_
        refine lv_icmp_le (tgt := 118) hx hb dX1_settle_107 (by decide) (fun c3 => ?_) (fun c3 => ?_)
        · skip
          refine lv_aload hx hb dX1_settle_118 (lv_at hl 8 rfl) ?_
          refine lv_iload hx hb dX1_settle_120 (lv_at hl 1 rfl) ?_
          refine va_iald hx hb hK hP 5 0 rfl rfl (i := nI ((sx + (3 ^ x9)) + (3 ^ x9))) (vp_in_nI (by omega) (by omega)) dX1_settle_122 ?_
          refine cn_i (y := ew ((sx + (3 ^ x9)) + (3 ^ x9))) (congrArg ew (nI_clamp (by omega))) ?_
          refine lv_iadd hx hb dX1_settle_123 ?_
          refine lv_istore (lv' := [(17, .int ((fp x9) + (ew ((sx + (3 ^ x9)) + (3 ^ x9))))), (15, .long (((((fp x9).toInt64) * le) + (eb (sx + (3 ^ x9)))) + (eb ((sx + (3 ^ x9)) + (3 ^ x9))))), (14, .int (nI ((sx + (3 ^ x9)) + (3 ^ x9)))), (13, .int (nI (sx + (3 ^ x9)))), (12, .int (nI x9)), (11, .int (nI k)), (10, .int v10), (8, .long v8), (7, .ref a3), (6, .ref p6), (5, .ref p5), (0, .ref h0), (1, .int (nI sx)), (2, .long le), (4, .int (nI op))]) hx hb dX1_settle_124 hl (by decide) rfl (fun ls hl => ?_)
          refine lv_lload hx hb dX1_settle_126 (lv_at hl 1 rfl) ?_
          refine lv_lload hx hb dX1_settle_128 (lv_at hl 7 rfl) ?_
          refine W.lcmp hx hb dX1_settle_130 ?_
          refine lv_if_ge (tgt := 139) hx hb dX1_settle_131 (by decide) (fun c4 => ?_) (fun c4 => ?_)
          · skip
            refine lv_lload hx hb dX1_settle_139 (lv_at hl 7 rfl) ?_
            refine lv_lstore (lv' := [(8, .long v8), (17, .int ((fp x9) + (ew ((sx + (3 ^ x9)) + (3 ^ x9))))), (15, .long (((((fp x9).toInt64) * le) + (eb (sx + (3 ^ x9)))) + (eb ((sx + (3 ^ x9)) + (3 ^ x9))))), (14, .int (nI ((sx + (3 ^ x9)) + (3 ^ x9)))), (13, .int (nI (sx + (3 ^ x9)))), (12, .int (nI x9)), (11, .int (nI k)), (10, .int v10), (7, .ref a3), (6, .ref p6), (5, .ref p5), (0, .ref h0), (1, .int (nI sx)), (2, .long le), (4, .int (nI op))]) hx hb dX1_settle_141 hl (by decide) rfl (fun ls hl => ?_)
            refine lv_iload hx hb dX1_settle_143 (lv_at hl 1 rfl) ?_
            refine lv_iload hx hb dX1_settle_145 (lv_at hl 7 rfl) ?_
            refine lv_icmp_ge (tgt := 155) hx hb dX1_settle_147 (by decide) (fun c5 => ?_) (fun c5 => ?_)
            · skip
              refine lv_iload hx hb dX1_settle_155 (lv_at hl 7 rfl) ?_
              refine lv_istore (lv' := [(10, .int v10), (8, .long v8), (17, .int ((fp x9) + (ew ((sx + (3 ^ x9)) + (3 ^ x9))))), (15, .long (((((fp x9).toInt64) * le) + (eb (sx + (3 ^ x9)))) + (eb ((sx + (3 ^ x9)) + (3 ^ x9))))), (14, .int (nI ((sx + (3 ^ x9)) + (3 ^ x9)))), (13, .int (nI (sx + (3 ^ x9)))), (12, .int (nI x9)), (11, .int (nI k)), (7, .ref a3), (6, .ref p6), (5, .ref p5), (0, .ref h0), (1, .int (nI sx)), (2, .long le), (4, .int (nI op))]) hx hb dX1_settle_157 hl (by decide) rfl (fun ls hl => ?_)
              refine lv_iinc (v := nI (k + 1)) (lv' := [(11, .int (nI (k + 1))), (10, .int v10), (8, .long v8), (17, .int ((fp x9) + (ew ((sx + (3 ^ x9)) + (3 ^ x9))))), (15, .long (((((fp x9).toInt64) * le) + (eb (sx + (3 ^ x9)))) + (eb ((sx + (3 ^ x9)) + (3 ^ x9))))), (14, .int (nI ((sx + (3 ^ x9)) + (3 ^ x9)))), (13, .int (nI (sx + (3 ^ x9)))), (12, .int (nI x9)), (7, .ref a3), (6, .ref p6), (5, .ref p5), (0, .ref h0), (1, .int (nI sx)), (2, .long le), (4, .int (nI op))]) hx hb dX1_settle_159 hl (k := 7) rfl (nI_1 k) (by decide) rfl (fun ls hl => ?_)
              refine lv_goto (tgt := 33) hx hb dX1_settle_162 (by decide) ?_
              exact ih1 (k + 1) v8 v10 _ _ _ (by omega) hP hD hS (lv_sub hl [0, 1, 2, 8, 9, 10, 11, 12, 13, 14] rfl)
            · skip
              refine lv_iload hx hb dX1_settle_150 (lv_at hl 1 rfl) ?_
              refine lv_goto (tgt := 157) hx hb dX1_settle_152 (by decide) ?_
              refine lv_istore (lv' := [(10, .int ((fp x9) + (ew ((sx + (3 ^ x9)) + (3 ^ x9))))), (8, .long v8), (17, .int ((fp x9) + (ew ((sx + (3 ^ x9)) + (3 ^ x9))))), (15, .long (((((fp x9).toInt64) * le) + (eb (sx + (3 ^ x9)))) + (eb ((sx + (3 ^ x9)) + (3 ^ x9))))), (14, .int (nI ((sx + (3 ^ x9)) + (3 ^ x9)))), (13, .int (nI (sx + (3 ^ x9)))), (12, .int (nI x9)), (11, .int (nI k)), (7, .ref a3), (6, .ref p6), (5, .ref p5), (0, .ref h0), (1, .int (nI sx)), (2, .long le), (4, .int (nI op))]) hx hb dX1_settle_157 hl (by decide) rfl (fun ls hl => ?_)
              refine lv_iinc (v := nI (k + 1)) (lv' := [(11, .int (nI (k + 1))), (10, .int ((fp x9) + (ew ((sx + (3 ^ x9)) + (3 ^ x9))))), (8, .long v8), (17, .int ((fp x9) + (ew ((sx + (3 ^ x9)) + (3 ^ x9))))), (15, .long (((((fp x9).toInt64) * le) + (eb (sx + (3 ^ x9)))) + (eb ((sx + (3 ^ x9)) + (3 ^ x9))))), (14, .int (nI ((sx + (3 ^ x9)) + (3 ^ x9)))), (13, .int (nI (sx + (3 ^ x9)))), (12, .int (nI x9)), (7, .ref a3), (6, .ref p6), (5, .ref p5), (0, .ref h0), (1, .int (nI sx)), (2, .long le), (4, .int (nI op))]) hx hb dX1_settle_159 hl (k := 7) rfl (nI_1 k) (by decide) rfl (fun ls hl => ?_)
              refine lv_goto (tgt := 33) hx hb dX1_settle_162 (by decide) ?_
              exact ih1 (k + 1) v8 ((fp x9) + (ew ((sx + (3 ^ x9)) + (3 ^ x9)))) _ _ _ (by omega) hP hD hS (lv_sub hl [0, 1, 2, 8, 9, 10, 11, 12, 13, 14] rfl)
          · skip
            refine lv_lload hx hb dX1_settle_134 (lv_at hl 1 rfl) ?_
            refine lv_goto (tgt := 141) hx hb dX1_settle_136 (by decide) ?_
            refine lv_lstore (lv' := [(8, .long (((((fp x9).toInt64) * le) + (eb (sx + (3 ^ x9)))) + (eb ((sx + (3 ^ x9)) + (3 ^ x9))))), (17, .int ((fp x9) + (ew ((sx + (3 ^ x9)) + (3 ^ x9))))), (15, .long (((((fp x9).toInt64) * le) + (eb (sx + (3 ^ x9)))) + (eb ((sx + (3 ^ x9)) + (3 ^ x9))))), (14, .int (nI ((sx + (3 ^ x9)) + (3 ^ x9)))), (13, .int (nI (sx + (3 ^ x9)))), (12, .int (nI x9)), (11, .int (nI k)), (10, .int v10), (7, .ref a3), (6, .ref p6), (5, .ref p5), (0, .ref h0), (1, .int (nI sx)), (2, .long le), (4, .int (nI op))]) hx hb dX1_settle_141 hl (by decide) rfl (fun ls hl => ?_)
            refine lv_iload hx hb dX1_settle_143 (lv_at hl 1 rfl) ?_
            refine lv_iload hx hb dX1_settle_145 (lv_at hl 7 rfl) ?_
            refine lv_icmp_ge (tgt := 155) hx hb dX1_settle_147 (by decide) (fun c6 => ?_) (fun c6 => ?_)
            · skip
              refine lv_iload hx hb dX1_settle_155 (lv_at hl 7 rfl) ?_
              refine lv_istore (lv' := [(10, .int v10), (8, .long (((((fp x9).toInt64) * le) + (eb (sx + (3 ^ x9)))) + (eb ((sx + (3 ^ x9)) + (3 ^ x9))))), (17, .int ((fp x9) + (ew ((sx + (3 ^ x9)) + (3 ^ x9))))), (15, .long (((((fp x9).toInt64) * le) + (eb (sx + (3 ^ x9)))) + (eb ((sx + (3 ^ x9)) + (3 ^ x9))))), (14, .int (nI ((sx + (3 ^ x9)) + (3 ^ x9)))), (13, .int (nI (sx + (3 ^ x9)))), (12, .int (nI x9)), (11, .int (nI k)), (7, .ref a3), (6, .ref p6), (5, .ref p5), (0, .ref h0), (1, .int (nI sx)), (2, .long le), (4, .int (nI op))]) hx hb dX1_settle_157 hl (by decide) rfl (fun ls hl => ?_)
              refine lv_iinc (v := nI (k + 1)) (lv' := [(11, .int (nI (k + 1))), (10, .int v10), (8, .long (((((fp x9).toInt64) * le) + (eb (sx + (3 ^ x9)))) + (eb ((sx + (3 ^ x9)) + (3 ^ x9))))), (17, .int ((fp x9) + (ew ((sx + (3 ^ x9)) + (3 ^ x9))))), (15, .long (((((fp x9).toInt64) * le) + (eb (sx + (3 ^ x9)))) + (eb ((sx + (3 ^ x9)) + (3 ^ x9))))), (14, .int (nI ((sx + (3 ^ x9)) + (3 ^ x9)))), (13, .int (nI (sx + (3 ^ x9)))), (12, .int (nI x9)), (7, .ref a3), (6, .ref p6), (5, .ref p5), (0, .ref h0), (1, .int (nI sx)), (2, .long le), (4, .int (nI op))]) hx hb dX1_settle_159 hl (k := 7) rfl (nI_1 k) (by decide) rfl (fun ls hl => ?_)
              refine lv_goto (tgt := 33) hx hb dX1_settle_162 (by decide) ?_
              exact ih1 (k + 1) (((((fp x9).toInt64) * le) + (eb (sx + (3 ^ x9)))) + (eb ((sx + (3 ^ x9)) + (3 ^ x9)))) v10 _ _ _ (by omega) hP hD hS (lv_sub hl [0, 1, 2, 8, 9, 10, 11, 12, 13, 14] rfl)
            · skip
              refine lv_iload hx hb dX1_settle_150 (lv_at hl 1 rfl) ?_
              refine lv_goto (tgt := 157) hx hb dX1_settle_152 (by decide) ?_
              refine lv_istore (lv' := [(10, .int ((fp x9) + (ew ((sx + (3 ^ x9)) + (3 ^ x9))))), (8, .long (((((fp x9).toInt64) * le) + (eb (sx + (3 ^ x9)))) + (eb ((sx + (3 ^ x9)) + (3 ^ x9))))), (17, .int ((fp x9) + (ew ((sx + (3 ^ x9)) + (3 ^ x9))))), (15, .long (((((fp x9).toInt64) * le) + (eb (sx + (3 ^ x9)))) + (eb ((sx + (3 ^ x9)) + (3 ^ x9))))), (14, .int (nI ((sx + (3 ^ x9)) + (3 ^ x9)))), (13, .int (nI (sx + (3 ^ x9)))), (12, .int (nI x9)), (11, .int (nI k)), (7, .ref a3), (6, .ref p6), (5, .ref p5), (0, .ref h0), (1, .int (nI sx)), (2, .long le), (4, .int (nI op))]) hx hb dX1_settle_157 hl (by decide) rfl (fun ls hl => ?_)
              refine lv_iinc (v := nI (k + 1)) (lv' := [(11, .int (nI (k + 1))), (10, .int ((fp x9) + (ew ((sx + (3 ^ x9)) + (3 ^ x9))))), (8, .long (((((fp x9).toInt64) * le) + (eb (sx + (3 ^ x9)))) + (eb ((sx + (3 ^ x9)) + (3 ^ x9))))), (17, .int ((fp x9) + (ew ((sx + (3 ^ x9)) + (3 ^ x9))))), (15, .long (((((fp x9).toInt64) * le) + (eb (sx + (3 ^ x9)))) + (eb ((sx + (3 ^ x9)) + (3 ^ x9))))), (14, .int (nI ((sx + (3 ^ x9)) + (3 ^ x9)))), (13, .int (nI (sx + (3 ^ x9)))), (12, .int (nI x9)), (7, .ref a3), (6, .ref p6), (5, .ref p5), (0, .ref h0), (1, .int (nI sx)), (2, .long le), (4, .int (nI op))]) hx hb dX1_settle_159 hl (k := 7) rfl (nI_1 k) (by decide) rfl (fun ls hl => ?_)
              refine lv_goto (tgt := 33) hx hb dX1_settle_162 (by decide) ?_
              exact ih1 (k + 1) (((((fp x9).toInt64) * le) + (eb (sx + (3 ^ x9)))) + (eb ((sx + (3 ^ x9)) + (3 ^ x9)))) ((fp x9) + (ew ((sx + (3 ^ x9)) + (3 ^ x9)))) _ _ _ (by omega) hP hD hS (lv_sub hl [0, 1, 2, 8, 9, 10, 11, 12, 13, 14] rfl)
        · skip
          refine lv_aload hx hb dX1_settle_110 (lv_at hl 8 rfl) ?_
          refine lv_iload hx hb dX1_settle_112 (lv_at hl 2 rfl) ?_
          refine va_iald hx hb hK hP 5 0 rfl rfl (i := nI (sx + (3 ^ x9))) (vp_in_nI (by omega) (by omega)) dX1_settle_114 ?_
          refine cn_i (y := ew (sx + (3 ^ x9))) (congrArg ew (nI_clamp (by omega))) ?_
          refine lv_goto (tgt := 123) hx hb dX1_settle_115 (by decide) ?_
          refine lv_iadd hx hb dX1_settle_123 ?_
          refine lv_istore (lv' := [(17, .int ((fp x9) + (ew (sx + (3 ^ x9))))), (15, .long (((((fp x9).toInt64) * le) + (eb (sx + (3 ^ x9)))) + (eb ((sx + (3 ^ x9)) + (3 ^ x9))))), (14, .int (nI ((sx + (3 ^ x9)) + (3 ^ x9)))), (13, .int (nI (sx + (3 ^ x9)))), (12, .int (nI x9)), (11, .int (nI k)), (10, .int v10), (8, .long v8), (7, .ref a3), (6, .ref p6), (5, .ref p5), (0, .ref h0), (1, .int (nI sx)), (2, .long le), (4, .int (nI op))]) hx hb dX1_settle_124 hl (by decide) rfl (fun ls hl => ?_)
          refine lv_lload hx hb dX1_settle_126 (lv_at hl 1 rfl) ?_
          refine lv_lload hx hb dX1_settle_128 (lv_at hl 7 rfl) ?_
          refine W.lcmp hx hb dX1_settle_130 ?_
          refine lv_if_ge (tgt := 139) hx hb dX1_settle_131 (by decide) (fun c7 => ?_) (fun c7 => ?_)
          · skip
            refine lv_lload hx hb dX1_settle_139 (lv_at hl 7 rfl) ?_
            refine lv_lstore (lv' := [(8, .long v8), (17, .int ((fp x9) + (ew (sx + (3 ^ x9))))), (15, .long (((((fp x9).toInt64) * le) + (eb (sx + (3 ^ x9)))) + (eb ((sx + (3 ^ x9)) + (3 ^ x9))))), (14, .int (nI ((sx + (3 ^ x9)) + (3 ^ x9)))), (13, .int (nI (sx + (3 ^ x9)))), (12, .int (nI x9)), (11, .int (nI k)), (10, .int v10), (7, .ref a3), (6, .ref p6), (5, .ref p5), (0, .ref h0), (1, .int (nI sx)), (2, .long le), (4, .int (nI op))]) hx hb dX1_settle_141 hl (by decide) rfl (fun ls hl => ?_)
            refine lv_iload hx hb dX1_settle_143 (lv_at hl 1 rfl) ?_
            refine lv_iload hx hb dX1_settle_145 (lv_at hl 7 rfl) ?_
            refine lv_icmp_ge (tgt := 155) hx hb dX1_settle_147 (by decide) (fun c8 => ?_) (fun c8 => ?_)
            · skip
              refine lv_iload hx hb dX1_settle_155 (lv_at hl 7 rfl) ?_
              refine lv_istore (lv' := [(10, .int v10), (8, .long v8), (17, .int ((fp x9) + (ew (sx + (3 ^ x9))))), (15, .long (((((fp x9).toInt64) * le) + (eb (sx + (3 ^ x9)))) + (eb ((sx + (3 ^ x9)) + (3 ^ x9))))), (14, .int (nI ((sx + (3 ^ x9)) + (3 ^ x9)))), (13, .int (nI (sx + (3 ^ x9)))), (12, .int (nI x9)), (11, .int (nI k)), (7, .ref a3), (6, .ref p6), (5, .ref p5), (0, .ref h0), (1, .int (nI sx)), (2, .long le), (4, .int (nI op))]) hx hb dX1_settle_157 hl (by decide) rfl (fun ls hl => ?_)
              refine lv_iinc (v := nI (k + 1)) (lv' := [(11, .int (nI (k + 1))), (10, .int v10), (8, .long v8), (17, .int ((fp x9) + (ew (sx + (3 ^ x9))))), (15, .long (((((fp x9).toInt64) * le) + (eb (sx + (3 ^ x9)))) + (eb ((sx + (3 ^ x9)) + (3 ^ x9))))), (14, .int (nI ((sx + (3 ^ x9)) + (3 ^ x9)))), (13, .int (nI (sx + (3 ^ x9)))), (12, .int (nI x9)), (7, .ref a3), (6, .ref p6), (5, .ref p5), (0, .ref h0), (1, .int (nI sx)), (2, .long le), (4, .int (nI op))]) hx hb dX1_settle_159 hl (k := 7) rfl (nI_1 k) (by decide) rfl (fun ls hl => ?_)
              refine lv_goto (tgt := 33) hx hb dX1_settle_162 (by decide) ?_
              exact ih1 (k + 1) v8 v10 _ _ _ (by omega) hP hD hS (lv_sub hl [0, 1, 2, 8, 9, 10, 11, 12, 13, 14] rfl)
            · skip
              refine lv_iload hx hb dX1_settle_150 (lv_at hl 1 rfl) ?_
              refine lv_goto (tgt := 157) hx hb dX1_settle_152 (by decide) ?_
              refine lv_istore (lv' := [(10, .int ((fp x9) + (ew (sx + (3 ^ x9))))), (8, .long v8), (17, .int ((fp x9) + (ew (sx + (3 ^ x9))))), (15, .long (((((fp x9).toInt64) * le) + (eb (sx + (3 ^ x9)))) + (eb ((sx + (3 ^ x9)) + (3 ^ x9))))), (14, .int (nI ((sx + (3 ^ x9)) + (3 ^ x9)))), (13, .int (nI (sx + (3 ^ x9)))), (12, .int (nI x9)), (11, .int (nI k)), (7, .ref a3), (6, .ref p6), (5, .ref p5), (0, .ref h0), (1, .int (nI sx)), (2, .long le), (4, .int (nI op))]) hx hb dX1_settle_157 hl (by decide) rfl (fun ls hl => ?_)
              refine lv_iinc (v := nI (k + 1)) (lv' := [(11, .int (nI (k + 1))), (10, .int ((fp x9) + (ew (sx + (3 ^ x9))))), (8, .long v8), (17, .int ((fp x9) + (ew (sx + (3 ^ x9))))), (15, .long (((((fp x9).toInt64) * le) + (eb (sx + (3 ^ x9)))) + (eb ((sx + (3 ^ x9)) + (3 ^ x9))))), (14, .int (nI ((sx + (3 ^ x9)) + (3 ^ x9)))), (13, .int (nI (sx + (3 ^ x9)))), (12, .int (nI x9)), (7, .ref a3), (6, .ref p6), (5, .ref p5), (0, .ref h0), (1, .int (nI sx)), (2, .long le), (4, .int (nI op))]) hx hb dX1_settle_159 hl (k := 7) rfl (nI_1 k) (by decide) rfl (fun ls hl => ?_)
              refine lv_goto (tgt := 33) hx hb dX1_settle_162 (by decide) ?_
              exact ih1 (k + 1) v8 ((fp x9) + (ew (sx + (3 ^ x9)))) _ _ _ (by omega) hP hD hS (lv_sub hl [0, 1, 2, 8, 9, 10, 11, 12, 13, 14] rfl)
          · skip
            refine lv_lload hx hb dX1_settle_134 (lv_at hl 1 rfl) ?_
            refine lv_goto (tgt := 141) hx hb dX1_settle_136 (by decide) ?_
            refine lv_lstore (lv' := [(8, .long (((((fp x9).toInt64) * le) + (eb (sx + (3 ^ x9)))) + (eb ((sx + (3 ^ x9)) + (3 ^ x9))))), (17, .int ((fp x9) + (ew (sx + (3 ^ x9))))), (15, .long (((((fp x9).toInt64) * le) + (eb (sx + (3 ^ x9)))) + (eb ((sx + (3 ^ x9)) + (3 ^ x9))))), (14, .int (nI ((sx + (3 ^ x9)) + (3 ^ x9)))), (13, .int (nI (sx + (3 ^ x9)))), (12, .int (nI x9)), (11, .int (nI k)), (10, .int v10), (7, .ref a3), (6, .ref p6), (5, .ref p5), (0, .ref h0), (1, .int (nI sx)), (2, .long le), (4, .int (nI op))]) hx hb dX1_settle_141 hl (by decide) rfl (fun ls hl => ?_)
            refine lv_iload hx hb dX1_settle_143 (lv_at hl 1 rfl) ?_
            refine lv_iload hx hb dX1_settle_145 (lv_at hl 7 rfl) ?_
            refine lv_icmp_ge (tgt := 155) hx hb dX1_settle_147 (by decide) (fun c9 => ?_) (fun c9 => ?_)
            · skip
              refine lv_iload hx hb dX1_settle_155 (lv_at hl 7 rfl) ?_
              refine lv_istore (lv' := [(10, .int v10), (8, .long (((((fp x9).toInt64) * le) + (eb (sx + (3 ^ x9)))) + (eb ((sx + (3 ^ x9)) + (3 ^ x9))))), (17, .int ((fp x9) + (ew (sx + (3 ^ x9))))), (15, .long (((((fp x9).toInt64) * le) + (eb (sx + (3 ^ x9)))) + (eb ((sx + (3 ^ x9)) + (3 ^ x9))))), (14, .int (nI ((sx + (3 ^ x9)) + (3 ^ x9)))), (13, .int (nI (sx + (3 ^ x9)))), (12, .int (nI x9)), (11, .int (nI k)), (7, .ref a3), (6, .ref p6), (5, .ref p5), (0, .ref h0), (1, .int (nI sx)), (2, .long le), (4, .int (nI op))]) hx hb dX1_settle_157 hl (by decide) rfl (fun ls hl => ?_)
              refine lv_iinc (v := nI (k + 1)) (lv' := [(11, .int (nI (k + 1))), (10, .int v10), (8, .long (((((fp x9).toInt64) * le) + (eb (sx + (3 ^ x9)))) + (eb ((sx + (3 ^ x9)) + (3 ^ x9))))), (17, .int ((fp x9) + (ew (sx + (3 ^ x9))))), (15, .long (((((fp x9).toInt64) * le) + (eb (sx + (3 ^ x9)))) + (eb ((sx + (3 ^ x9)) + (3 ^ x9))))), (14, .int (nI ((sx + (3 ^ x9)) + (3 ^ x9)))), (13, .int (nI (sx + (3 ^ x9)))), (12, .int (nI x9)), (7, .ref a3), (6, .ref p6), (5, .ref p5), (0, .ref h0), (1, .int (nI sx)), (2, .long le), (4, .int (nI op))]) hx hb dX1_settle_159 hl (k := 7) rfl (nI_1 k) (by decide) rfl (fun ls hl => ?_)
              refine lv_goto (tgt := 33) hx hb dX1_settle_162 (by decide) ?_
              exact ih1 (k + 1) (((((fp x9).toInt64) * le) + (eb (sx + (3 ^ x9)))) + (eb ((sx + (3 ^ x9)) + (3 ^ x9)))) v10 _ _ _ (by omega) hP hD hS (lv_sub hl [0, 1, 2, 8, 9, 10, 11, 12, 13, 14] rfl)
            · skip
              refine lv_iload hx hb dX1_settle_150 (lv_at hl 1 rfl) ?_
              refine lv_goto (tgt := 157) hx hb dX1_settle_152 (by decide) ?_
              refine lv_istore (lv' := [(10, .int ((fp x9) + (ew (sx + (3 ^ x9))))), (8, .long (((((fp x9).toInt64) * le) + (eb (sx + (3 ^ x9)))) + (eb ((sx + (3 ^ x9)) + (3 ^ x9))))), (17, .int ((fp x9) + (ew (sx + (3 ^ x9))))), (15, .long (((((fp x9).toInt64) * le) + (eb (sx + (3 ^ x9)))) + (eb ((sx + (3 ^ x9)) + (3 ^ x9))))), (14, .int (nI ((sx + (3 ^ x9)) + (3 ^ x9)))), (13, .int (nI (sx + (3 ^ x9)))), (12, .int (nI x9)), (11, .int (nI k)), (7, .ref a3), (6, .ref p6), (5, .ref p5), (0, .ref h0), (1, .int (nI sx)), (2, .long le), (4, .int (nI op))]) hx hb dX1_settle_157 hl (by decide) rfl (fun ls hl => ?_)
              refine lv_iinc (v := nI (k + 1)) (lv' := [(11, .int (nI (k + 1))), (10, .int ((fp x9) + (ew (sx + (3 ^ x9))))), (8, .long (((((fp x9).toInt64) * le) + (eb (sx + (3 ^ x9)))) + (eb ((sx + (3 ^ x9)) + (3 ^ x9))))), (17, .int ((fp x9) + (ew (sx + (3 ^ x9))))), (15, .long (((((fp x9).toInt64) * le) + (eb (sx + (3 ^ x9)))) + (eb ((sx + (3 ^ x9)) + (3 ^ x9))))), (14, .int (nI ((sx + (3 ^ x9)) + (3 ^ x9)))), (13, .int (nI (sx + (3 ^ x9)))), (12, .int (nI x9)), (7, .ref a3), (6, .ref p6), (5, .ref p5), (0, .ref h0), (1, .int (nI sx)), (2, .long le), (4, .int (nI op))]) hx hb dX1_settle_159 hl (k := 7) rfl (nI_1 k) (by decide) rfl (fun ls hl => ?_)
              refine lv_goto (tgt := 33) hx hb dX1_settle_162 (by decide) ?_
              exact ih1 (k + 1) (((((fp x9).toInt64) * le) + (eb (sx + (3 ^ x9)))) + (eb ((sx + (3 ^ x9)) + (3 ^ x9)))) ((fp x9) + (ew (sx + (3 ^ x9)))) _ _ _ (by omega) hP hD hS (lv_sub hl [0, 1, 2, 8, 9, 10, 11, 12, 13, 14] rfl)
  exact loop1 (op + 1) 0 (lN 9223372036854775807) 2147483647 _ _ _ (by omega) hP hD hS (lv_sub hl [0, 1, 2, 3, 4, 5, 6, 7, 8, 9] rfl)
