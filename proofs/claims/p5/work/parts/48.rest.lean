def rm_c_X2_firstOutside : Room := { frames := 0, cells := 0, slots := 0, locals := 0 }
set_option maxHeartbeats 400000 in
set_option maxRecDepth 100000 in
theorem c_X2_firstOutside (l : Launch) (D : va_G) (cI cJ cZ : ClassId) (h0 : Nat) (r1 : Nat) (q : Nat) (n : Nat) (lk : Nat) (fr : Nat → Int32) (hn : n ≤ 9) (hq : q ≤ 9) (hlk : lk < 512) (hrow : ∀ z, z < q → ∃ x, x < n ∧ fr z = nI x) : Met l yX2_firstOutside wsX2_firstOutside rm_c_X2_firstOutside (pc_ D cI cJ cZ [.ref h0, .int (nI lk), .int (nI n)] [(h0, .inr (2, [.ref r1, .int (nI q)])), (r1, .inl (cI, 9, .inl fr))]) (va_Qi (fun (r : Int32) (_ : Unit) => (r = -1 ∧ ∀ z, z < n → ¬ lk / 2 ^ z % 2 = 0) ∨ (∃ x, x < n ∧ r = nI x ∧ lk / 2 ^ x % 2 = 0)) (fun _ _ => True) aN) 0 0 aN := by
  refine Met.ofW (cc := cX2_firstOutside) (maxL := 4) (ret := (some .int)) (by decide) rfl ?_
  intro p e s m args below meth c s₁ B hml hv
  obtain ⟨rfl, hP, hKN⟩ := hv
  have hK := hKN.1
  have hx := B.exec
  have hb := B.bytes
  have hr := B.returns
  have hts := atoms_spec (ws := wsX2_firstOutside) B.pre
  have hown : s.vm.findClass RX2 = some m.cls := findClass_of_methodNamed B.named
  have hlocks := B.notSynchronized
  have hiX2 : ∀ w ∈ wsX20, w ∈ wsX2_firstOutside := by decide +kernel
  have hf9 := hts (.fieldLink RX2 9 "LookBench$Queue" "row" "[I") (by decide +kernel)
  have hf15 := hts (.fieldLink RX2 15 "LookBench$Queue" "count" "I") (by decide +kernel)
  have hS : va_S aN s.heap s.heap [] := va_S.rf
  have hl := lv_entry ([.ref h0, .int (nI lk), .int (nI n)]) (n := 4) (Nat.le_of_ble_eq_true rfl)
  rw [lg_entry_eq]
  generalize (lg_sl ([.ref h0, .int (nI lk), .int (nI n)]) ++ List.replicate (4 - (lg_sl ([.ref h0, .int (nI lk), .int (nI n)])).length) Slot.unset).toArray = ls at hl ⊢
  have hl : lv_has ls 4 [(0, .ref h0), (1, .int (nI lk)), (2, .int (nI n))] := hl
  generalize hQ : MQ below _ _ s _ _ _ = Q
  obtain ⟨H, hH⟩ : ∃ z, z = s.heap := ⟨_, rfl⟩
  have hP : va_P D vwCl [(h0, .inr (2, [.ref r1, .int (nI q)])), (r1, .inl (cI, 9, .inl fr))] H := by rw [hH]; exact hP
  have hS : va_S aN s.heap H [] := by rw [hH]; exact hS
  refine m_heap hH ?_
  clear hH
  refine lv_iconst (v := nI 0) hx hb dX2_firstOutside_0 (by decide) ?_
  refine lv_istore_n (lv' := [(3, .int (nI 0)), (0, .ref h0), (1, .int (nI lk)), (2, .int (nI n))]) hx hb dX2_firstOutside_1 rfl hl (by decide) rfl (fun ls hl => ?_)
  have loop1 : ∀ (fu : Nat) (k : Nat) (H : Heap) (locs : List Loc) (ls : Array Slot), (k ≤ q ∧ q < k + fu) → va_P D vwCl [(h0, .inr (2, [.ref r1, .int (nI q)])), (r1, .inl (cI, 9, .inl fr))] H → va_S aN s.heap H locs → lv_has ls 4 [(3, .int (nI k)), (0, .ref h0), (1, .int (nI lk)), (2, .int (nI n))] → W p l e (headSpec wsX2_firstOutside rm_c_X2_firstOutside).room s m ([.ref h0, .int (nI lk), .int (nI n)] : List Value).toArray below meth c H locs 0 0 Q (F0 m 2 ls []) := by
    intro fu
    induction fu with
    | zero => intro k H locs ls hk; exact absurd hk (by omega)
    | succ fu ih1 =>
      intro k H locs ls hk hP hS hl
      refine lv_iload_n hx hb dX2_firstOutside_2 rfl (lv_at hl 0 rfl) ?_
      refine lv_aload_n hx hb dX2_firstOutside_3 rfl (lv_at hl 1 rfl) ?_
      refine va_get (D := D) (ci := 2) (v := .int (nI q)) (C := RX2) (T := TX2) (N := 2) hx hb hts hiX2 hown hK hP 0 rfl rfl 1 (by decide) hf15 (fun _ h9 => h9) rfl dX2_firstOutside_4 ?_
      refine lv_icmp_ge (tgt := 36) hx hb dX2_firstOutside_7 (by decide) (fun c2 => ?_) (fun c2 => ?_)
      · skip
        have d2 := c2
        rw [nI_leI (by omega) (by omega)] at d2
        refine lv_iconst (v := nI 0) hx hb dX2_firstOutside_36 (by decide) ?_
        refine lv_istore_n (lv' := [(3, .int (nI 0)), (0, .ref h0), (1, .int (nI lk)), (2, .int (nI n))]) hx hb dX2_firstOutside_37 rfl hl (by decide) rfl (fun ls hl => ?_)
        have loop3 : ∀ (fu : Nat) (t : Nat) (H : Heap) (locs : List Loc) (ls : Array Slot), (t ≤ n ∧ n < t + fu) → (∀ z, z < t → ¬ lk / 2 ^ z % 2 = 0) → va_P D vwCl [(h0, .inr (2, [.ref r1, .int (nI q)])), (r1, .inl (cI, 9, .inl fr))] H → va_S aN s.heap H locs → lv_has ls 4 [(3, .int (nI t)), (0, .ref h0), (1, .int (nI lk)), (2, .int (nI n))] → W p l e (headSpec wsX2_firstOutside rm_c_X2_firstOutside).room s m ([.ref h0, .int (nI lk), .int (nI n)] : List Value).toArray below meth c H locs 0 0 Q (F0 m 38 ls []) := by
          intro fu
          induction fu with
          | zero => intro t H locs ls ht hi; exact absurd ht (by omega)
          | succ fu ih3 =>
            intro t H locs ls ht hi hP hS hl
            refine lv_iload_n hx hb dX2_firstOutside_38 rfl (lv_at hl 0 rfl) ?_
            refine lv_iload_n hx hb dX2_firstOutside_39 rfl (lv_at hl 3 rfl) ?_
            refine lv_icmp_ge (tgt := 59) hx hb dX2_firstOutside_40 (by decide) (fun c4 => ?_) (fun c4 => ?_)
            · skip
              have d4 := c4
              rw [nI_leI (by omega) (by omega)] at d4
              refine lv_iconst (v := (-1 : Int32)) hx hb dX2_firstOutside_59 (by decide) ?_
              rw [← hQ]
              exact W.iret (v := (-1 : Int32)) hx hb hr (fun tS htS hWS => ⟨⟨(-1 : Int32), (), rfl, Or.inl ⟨rfl, fun z hz => hi z (by omega)⟩, trivial⟩, hS.F htS⟩) hS.2.2 dX2_firstOutside_60
            · skip
              have d4 := c4
              rw [nI_leI (by omega) (by omega)] at d4
              refine lv_iload_n hx hb dX2_firstOutside_43 rfl (lv_at hl 2 rfl) ?_
              refine lv_iload_n hx hb dX2_firstOutside_44 rfl (lv_at hl 0 rfl) ?_
              refine lv_ishr hx hb dX2_firstOutside_45 ?_
              refine cn_i (y := nI (lk / 2 ^ t)) (m_shr (by omega) (by omega)) ?_
              refine lv_iconst (v := nI 1) hx hb dX2_firstOutside_46 (by decide) ?_
              refine lv_iand hx hb dX2_firstOutside_47 ?_
              refine cn_i (y := nI ((lk / 2 ^ t) % 2)) (m_andn1 (by first | omega | exact Nat.lt_of_le_of_lt (Nat.div_le_self _ _) (by omega))) ?_
              refine lv_if_ne (tgt := 53) hx hb dX2_firstOutside_48 (by decide) (fun c5 => ?_) (fun c5 => ?_)
              · skip
                have d5 := c5
                rw [nz_eq (by omega)] at d5
                refine lv_iinc (v := nI (t + 1)) (lv' := [(3, .int (nI (t + 1))), (0, .ref h0), (1, .int (nI lk)), (2, .int (nI n))]) hx hb dX2_firstOutside_53 hl (k := 0) rfl (nI_1 t) (by decide) rfl (fun ls hl => ?_)
                refine lv_goto (tgt := 38) hx hb dX2_firstOutside_56 (by decide) ?_
                exact ih3 (t + 1) _ _ _ (by omega) (fun z hz => by rcases Nat.lt_or_ge z t with h | h; exact hi z h; exact (by have e9 : z = t := (by omega); subst e9; assumption)) hP hS (lv_sub hl [0, 1, 2, 3] rfl)
              · skip
                have d5 := c5
                rw [nz_eq (by omega)] at d5
                refine lv_iload_n hx hb dX2_firstOutside_51 rfl (lv_at hl 0 rfl) ?_
                rw [← hQ]
                exact W.iret (v := nI t) hx hb hr (fun tS htS hWS => ⟨⟨(nI t), (), rfl, Or.inr ⟨t, by omega, rfl, by omega⟩, trivial⟩, hS.F htS⟩) hS.2.2 dX2_firstOutside_52
        exact loop3 (n + 1) 0 _ _ _ (by omega) (fun z hz => absurd hz (by omega)) hP hS (lv_sub hl [0, 1, 2, 3] rfl)
      · skip
        have d2 := c2
        rw [nI_leI (by omega) (by omega)] at d2
        refine lv_iload_n hx hb dX2_firstOutside_10 rfl (lv_at hl 2 rfl) ?_
        refine lv_aload_n hx hb dX2_firstOutside_11 rfl (lv_at hl 1 rfl) ?_
        refine va_get (D := D) (ci := 2) (v := .ref r1) (C := RX2) (T := TX2) (N := 2) hx hb hts hiX2 hown hK hP 0 rfl rfl 0 (by decide) hf9 (fun _ h9 => h9) rfl dX2_firstOutside_12 ?_
        refine lv_iload_n hx hb dX2_firstOutside_15 rfl (lv_at hl 0 rfl) ?_
        obtain ⟨x9, hx9, ex9⟩ := hrow k (by omega)
        refine va_iald hx hb hK hP 1 0 rfl rfl (i := nI k) (vp_in_nI (by omega) (by omega)) dX2_firstOutside_16 ?_
        refine cn_i (y := nI x9) ((congrArg fr (nI_clamp (by omega))).trans ex9) ?_
        refine lv_ishr hx hb dX2_firstOutside_17 ?_
        refine cn_i (y := nI (lk / 2 ^ x9)) (m_shr (by omega) (by omega)) ?_
        refine lv_iconst (v := nI 1) hx hb dX2_firstOutside_18 (by decide) ?_
        refine lv_iand hx hb dX2_firstOutside_19 ?_
        refine cn_i (y := nI ((lk / 2 ^ x9) % 2)) (m_andn1 (by first | omega | exact Nat.lt_of_le_of_lt (Nat.div_le_self _ _) (by omega))) ?_
        refine lv_if_ne (tgt := 30) hx hb dX2_firstOutside_20 (by decide) (fun c6 => ?_) (fun c6 => ?_)
        · skip
          have d6 := c6
          rw [nz_eq (by omega)] at d6
          refine lv_iinc (v := nI (k + 1)) (lv' := [(3, .int (nI (k + 1))), (0, .ref h0), (1, .int (nI lk)), (2, .int (nI n))]) hx hb dX2_firstOutside_30 hl (k := 0) rfl (nI_1 k) (by decide) rfl (fun ls hl => ?_)
          refine lv_goto (tgt := 2) hx hb dX2_firstOutside_33 (by decide) ?_
          exact ih1 (k + 1) _ _ _ (by omega) hP hS (lv_sub hl [0, 1, 2, 3] rfl)
        · skip
          have d6 := c6
          rw [nz_eq (by omega)] at d6
          refine lv_aload_n hx hb dX2_firstOutside_23 rfl (lv_at hl 1 rfl) ?_
          refine va_get (D := D) (ci := 2) (v := .ref r1) (C := RX2) (T := TX2) (N := 2) hx hb hts hiX2 hown hK hP 0 rfl rfl 0 (by decide) hf9 (fun _ h9 => h9) rfl dX2_firstOutside_24 ?_
          refine lv_iload_n hx hb dX2_firstOutside_27 rfl (lv_at hl 0 rfl) ?_
          refine va_iald hx hb hK hP 1 0 rfl rfl (i := nI k) (vp_in_nI (by omega) (by omega)) dX2_firstOutside_28 ?_
          refine cn_i (y := nI x9) ((congrArg fr (nI_clamp (by omega))).trans ex9) ?_
          rw [← hQ]
          exact W.iret (v := nI x9) hx hb hr (fun tS htS hWS => ⟨⟨(nI x9), (), rfl, Or.inr ⟨x9, hx9, rfl, by omega⟩, trivial⟩, hS.F htS⟩) hS.2.2 dX2_firstOutside_29
  exact loop1 (q + 1) 0 _ _ _ (by omega) hP hS (lv_sub hl [0, 1, 2, 3] rfl)
def rm_c_X5_append : Room := { frames := 0, cells := 0, slots := 0, locals := 0 }
set_option maxHeartbeats 400000 in
set_option maxRecDepth 100000 in
theorem c_X5_append (l : Launch) (D : va_G) (cI cJ cZ : ClassId) (h0 : Nat) (l1 : Nat) (q : Nat) (p0 : Int32) (fl : Nat → Int32) (hq : q < 9) : Met l yX5_append wsX5_append rm_c_X5_append (pm_ D cI cJ cZ [.ref h0, .int p0] [(h0, .inr (5, [.ref l1, .int (nI q)])), (l1, .inl (cI, 9, .inl fl))]) (va_Qv (fun (u : Unit) => True) (fun (u : Unit) tS => va_P D vwCl [(h0, .inr (5, [.ref l1, .int (nI (q + 1))])), (l1, .inl (cI, 9, .inl (upd fl q p0)))] tS.heap) (aA [h0, l1])) 0 0 (aA [h0, l1]) := by
  refine Met.ofW (cc := cX5_append) (maxL := 2) (ret := none) (by decide) rfl ?_
  intro p e s m args below meth c s₁ B hml hv
  obtain ⟨rfl, hP, hKN, hD0⟩ := hv
  have hK := hKN.1
  have hx := B.exec
  have hb := B.bytes
  have hr := B.returns
  have hts := atoms_spec (ws := wsX5_append) B.pre
  have hown : s.vm.findClass RX5 = some m.cls := findClass_of_methodNamed B.named
  have hlocks := B.notSynchronized
  have hiX5 : ∀ w ∈ wsX50, w ∈ wsX5_append := by decide +kernel
  have hf9 := hts (.fieldLink RX5 9 "LookBench$Trail" "looks" "[I") (by decide +kernel)
  have hf15 := hts (.fieldLink RX5 15 "LookBench$Trail" "count" "I") (by decide +kernel)
  obtain ⟨as, has⟩ : ∃ z : List Nat, z = [h0, l1] := ⟨_, rfl⟩
  have hD := hD0.addr (as := as) (by rw [has]; rfl)
  have hS : va_S (aA as) s.heap s.heap [] := va_S.rf
  have hl := lv_entry ([.ref h0, .int p0]) (n := 2) (Nat.le_of_ble_eq_true rfl)
  rw [lg_entry_eq]
  generalize (lg_sl ([.ref h0, .int p0]) ++ List.replicate (2 - (lg_sl ([.ref h0, .int p0])).length) Slot.unset).toArray = ls at hl ⊢
  have hl : lv_has ls 2 [(0, .ref h0), (1, .int p0)] := hl
  generalize hQ : MQ below _ _ s _ _ _ = Q
  obtain ⟨H, hH⟩ : ∃ z, z = s.heap := ⟨_, rfl⟩
  have hP : va_P D vwCl [(h0, .inr (5, [.ref l1, .int (nI q)])), (l1, .inl (cI, 9, .inl fl))] H := by rw [hH]; exact hP
  have hS : va_S (aA as) s.heap H [] := by rw [hH]; exact hS
  refine m_heap hH ?_
  clear hH
  refine lv_aload_n hx hb dX5_append_0 rfl (lv_at hl 0 rfl) ?_
  refine va_get (D := D) (ci := 5) (v := .int (nI q)) (C := RX5) (T := TX5) (N := 2) hx hb hts hiX5 hown hK hP 0 rfl rfl 1 (by decide) hf15 (fun _ h9 => h9) rfl dX5_append_1 ?_
  refine lv_bipush (v := nI 9) hx hb dX5_append_4 (by decide) ?_
  refine lv_icmp_ge (tgt := 26) hx hb dX5_append_6 (by decide) (fun c1 => ?_) (fun c1 => ?_)
  · skip
    have d1 := c1
    rw [nI_leI (by omega) (by omega)] at d1
    exact absurd d1 (by omega)
  · skip
    have d1 := c1
    rw [nI_leI (by omega) (by omega)] at d1
    refine lv_aload_n hx hb dX5_append_9 rfl (lv_at hl 0 rfl) ?_
    refine va_get (D := D) (ci := 5) (v := .ref l1) (C := RX5) (T := TX5) (N := 2) hx hb hts hiX5 hown hK hP 0 rfl rfl 0 (by decide) hf9 (fun _ h9 => h9) rfl dX5_append_10 ?_
    refine lv_aload_n hx hb dX5_append_13 rfl (lv_at hl 0 rfl) ?_
    refine lv_dup hx hb dX5_append_14 rfl ?_
    refine va_get (D := D) (ci := 5) (v := .int (nI q)) (C := RX5) (T := TX5) (N := 2) hx hb hts hiX5 hown hK hP 0 rfl rfl 1 (by decide) hf15 (fun _ h9 => h9) rfl dX5_append_15 ?_
    refine lv_dup_x1 hx hb dX5_append_18 rfl rfl ?_
    refine lv_iconst (v := nI 1) hx hb dX5_append_19 (by decide) ?_
    refine lv_iadd hx hb dX5_append_20 ?_
    refine cn_i (y := nI (q + 1)) (nI_add q 1) ?_
    refine va_put (D := D) (ci := 5) (v := .int (nI (q + 1))) (ty := tyX5 1) (C := RX5) (T := TX5) (N := 2) hx hb hts hiX5 tyX5 tyX5_ok nmX5 hown hK hP hD hS 0 rfl rfl 1 (by decide) hf15 (fun _ h9 => h9) rfl (by decide +kernel) rfl rfl (Nat.le_of_ble_eq_true rfl) dX5_append_21 (fun H locs hP hD hS => ?_)
    have hP : va_P D vwCl [(h0, .inr (5, [.ref l1, .int (nI (q + 1))])), (l1, .inl (cI, 9, .inl fl))] H := hP
    have hD : va_D (aA as) [(h0, .inr (5, [.ref l1, .int (nI (q + 1))])), (l1, .inl (cI, 9, .inl fl))] := hD
    refine lv_iload_n hx hb dX5_append_24 rfl (lv_at hl 1 rfl) ?_
    refine va_iast hx hb hK hP hD hS 1 0 rfl rfl (i := nI q) (vp_in_nI (by omega) (by omega)) dX5_append_25 (fun H locs hP hD hS => ?_)
    have hP : va_P D vwCl [(h0, .inr (5, [.ref l1, .int (nI (q + 1))])), (l1, .inl (cI, 9, .inl (upd fl (nI q).toNatClampNeg p0)))] H := hP
    have hD : va_D (aA as) [(h0, .inr (5, [.ref l1, .int (nI (q + 1))])), (l1, .inl (cI, 9, .inl (upd fl (nI q).toNatClampNeg p0)))] := hD
    rw [nI_clamp (n := q) (by omega)] at hP hD
    rw [← hQ]
    exact W.vret hx hb hr (fun tS htS hWS => ⟨⟨(), rfl, trivial, m_at htS hP⟩, by rw [← has]; exact hS.F htS⟩) (by rw [← has]; exact hS.2.2) dX5_append_26
def rm_c_X6_partOf : Room := { frames := 1, cells := 0, slots := 0, locals := 21 }
set_option maxHeartbeats 400000 in
set_option maxRecDepth 100000 in
theorem c_X6_partOf (l : Launch) (D : va_G) (cI cJ cZ : ClassId) (x0 : Nat) (h4 : Nat) (h3 : Nat) (h2 : Nat) (h1 : Nat) (hB : Nat) (h5 : Nat) (a1 : Nat) (a2 : Nat) (a3 : Nat) (n : Nat) (sn : Int32) (sg : Int32) (p0 : Int32) (wh : Int32) (fg : Nat → Int32) (fb : Nat → Int32) (fp : Nat → Int32) (hn : n ≤ 9) : Met l yX6_partOf wsX6_partOf rm_c_X6_partOf (pc_ D cI cJ cZ [.ref x0, .int p0, .int wh] [(x0, .inr (6, [.ref h4, .ref h3, .ref h2, .ref h1, .ref hB, .ref h5])), (h4, .inr (4, [.ref a1, .ref a2, .ref a3, .int (nI n), .int sn, .int sg])), (a1, .inl (cI, 9, .inl fg)), (a2, .inl (cI, 9, .inl fb)), (a3, .inl (cI, 9, .inl fp))]) (va_Qi (fun (r : Int32) (_ : Unit) => r = pO fg fb fp (nF sn sg) n p0 wh) (fun _ _ => True) aN) 0 0 aN := by
  refine Met.ofW (cc := cX6_partOf) (maxL := 3) (ret := (some .int)) (by decide) rfl ?_
  intro p e s m args below meth c s₁ B hml hv
  obtain ⟨rfl, hP, hKN⟩ := hv
  have hK := hKN.1
  have hx := B.exec
  have hb := B.bytes
  have hr := B.returns
  have hts := atoms_spec (ws := wsX6_partOf) B.pre
  have hown : s.vm.findClass RX6 = some m.cls := findClass_of_methodNamed B.named
  have hlocks := B.notSynchronized
  have hiX4 : ∀ w ∈ wsX40, w ∈ wsX6_partOf := by decide +kernel
  have hiX6 : ∀ w ∈ wsX60, w ∈ wsX6_partOf := by decide +kernel
  have hf10 := hts (.fieldLink RX6 10 "LookBench" "shelf" "LLookBench$Shelf;") (by decide +kernel)
  have hf128 := va_Nw.use (A := [.ref x0, .int p0, .int wh].toArray) rfl (hKN.2 (.fieldLinkNest RX6 128 RX4 "goods" "[I" RX6) (by decide +kernel))
  have hf132 := va_Nw.use (A := [.ref x0, .int p0, .int wh].toArray) rfl (hKN.2 (.fieldLinkNest RX6 132 RX4 "bads" "[I" RX6) (by decide +kernel))
  have hf135 := va_Nw.use (A := [.ref x0, .int p0, .int wh].toArray) rfl (hKN.2 (.fieldLinkNest RX6 135 RX4 "prices" "[I" RX6) (by decide +kernel))
  have hS : va_S aN s.heap s.heap [] := va_S.rf
  have hl := lv_entry ([.ref x0, .int p0, .int wh]) (n := 3) (Nat.le_of_ble_eq_true rfl)
  rw [lg_entry_eq]
  generalize (lg_sl ([.ref x0, .int p0, .int wh]) ++ List.replicate (3 - (lg_sl ([.ref x0, .int p0, .int wh])).length) Slot.unset).toArray = ls at hl ⊢
  have hl : lv_has ls 3 [(0, .ref x0), (1, .int p0), (2, .int wh)] := hl
  generalize hQ : MQ below _ _ s _ _ _ = Q
  obtain ⟨H, hH⟩ : ∃ z, z = s.heap := ⟨_, rfl⟩
  have hP : va_P D vwCl [(x0, .inr (6, [.ref h4, .ref h3, .ref h2, .ref h1, .ref hB, .ref h5])), (h4, .inr (4, [.ref a1, .ref a2, .ref a3, .int (nI n), .int sn, .int sg])), (a1, .inl (cI, 9, .inl fg)), (a2, .inl (cI, 9, .inl fb)), (a3, .inl (cI, 9, .inl fp))] H := by rw [hH]; exact hP
  have hS : va_S aN s.heap H [] := by rw [hH]; exact hS
  refine m_heap hH ?_
  clear hH
  refine lv_aload_n hx hb dX6_partOf_0 rfl (lv_at hl 0 rfl) ?_
  refine va_get (D := D) (ci := 6) (v := .ref h4) (C := RX6) (T := TX6) (N := 6) hx hb hts hiX6 hown hK hP 0 rfl rfl 0 (by decide) hf10 (fun _ h9 => h9) rfl dX6_partOf_1 ?_
  refine lv_iload_n hx hb dX6_partOf_4 rfl (lv_at hl 1 rfl) ?_
  refine pu_i (va_runV (As := [.int p0]) (rest := []) ⟨hx, hb, hml, hown, hts⟩ (c_X4_has l D cI cJ cZ h4 a1 a2 a3 n sn sg p0 (by first | assumption | omega)) (cwV 1 hts gX6_partOf_X4_has rfl rfl rfl (by decide +kernel) ⟨Nat.le_of_ble_eq_true rfl, Nat.le_of_ble_eq_true rfl⟩) ⟨pc_blind, va_recv hK hP (ci := 4) (q0 := 1) rfl rfl, fun U hU hW => ⟨rfl, by rw [hU]; exact hP.sub (ws' := [(h4, .inr (4, [.ref a1, .ref a2, .ref a3, .int (nI n), .int sn, .int sg]))]) [1] rfl, hKN.warm hW⟩⟩ rfl rfl hl.1 rfl (lv_room (Nat.le_of_ble_eq_true rfl)) dX6_partOf_5 ⟨Nat.le_of_ble_eq_true rfl, Nat.le_of_ble_eq_true rfl⟩) hS hP (fun r1 H locs w1r hP hS => ?_)
  have w1 : B01 r1 (0 ≤ p0.toInt ∧ p0.toInt < n) := w1r
  clear w1r
  rcases w1 with ⟨rfl, w1⟩ | ⟨rfl, w1⟩
  · skip
    obtain ⟨j9, hj9, rfl⟩ := m_nat w1
    have t9 : (nI j9).toInt = (j9 : Int) := nI_toInt (by omega)
    refine lv_if_ne (tgt := 14) hx hb dX6_partOf_8 (by decide) (fun c2 => ?_) (fun c2 => ?_)
    · skip
      refine lv_iload_n hx hb dX6_partOf_14 rfl (lv_at hl 2 rfl) ?_
      by_cases c3 : wh.toInt < (0) ∨ (3) < wh.toInt
      · refine lv_tableOut (tgt := 83) hx hb dX6_partOf_15 c3 (by decide) ?_
        refine lv_bipush (v := (-2 : Int32)) hx hb dX6_partOf_83 (by decide) ?_
        rw [← hQ]
        exact W.iret (v := (-2 : Int32)) hx hb hr (fun tS htS hWS => ⟨⟨(-2 : Int32), (), rfl, by rw [pO_in hj9 hn]; exact (qO_out c3).symm, trivial⟩, hS.F htS⟩) hS.2.2 dX6_partOf_85
      · have h3 : wh = nI 0 ∨ wh = nI 1 ∨ wh = nI 2 ∨ wh = nI 3 := m_sw_0_3 c3
        rcases h3 with e3 | e3 | e3 | e3
        · refine cn_i (y := nI 0) e3 ?_
          refine lv_tableIn (tgt := 44) (off := 29) hx hb dX6_partOf_15 (by decide) (by decide) (by decide) (by decide) ?_
          refine lv_aload_n hx hb dX6_partOf_44 rfl (lv_at hl 0 rfl) ?_
          refine va_get (D := D) (ci := 6) (v := .ref h4) (C := RX6) (T := TX6) (N := 6) hx hb hts hiX6 hown hK hP 0 rfl rfl 0 (by decide) hf10 (fun _ h9 => h9) rfl dX6_partOf_45 ?_
          refine va_getN (D := D) (ci := 4) (v := .ref a1) (C := RX4) (T := TX4) (N := 6) hx hb hts hiX4 hown hK hP 1 rfl rfl 0 (by decide) hf128 (fun _ h9 => h9) rfl dX6_partOf_48 ?_
          refine lv_iload_n hx hb dX6_partOf_51 rfl (lv_at hl 1 rfl) ?_
          refine va_iald hx hb hK hP 2 0 rfl rfl (i := nI j9) (vp_in_nI (by omega) (by omega)) dX6_partOf_52 ?_
          refine cn_i (y := fg j9) (congrArg fg (nI_clamp (by omega))) ?_
          rw [← hQ]
          exact W.iret (v := fg j9) hx hb hr (fun tS htS hWS => ⟨⟨(fg j9), (), rfl, by rw [pO_in hj9 hn, e3]; rfl, trivial⟩, hS.F htS⟩) hS.2.2 dX6_partOf_53
        · refine cn_i (y := nI 1) e3 ?_
          refine lv_tableIn (tgt := 54) (off := 39) hx hb dX6_partOf_15 (by decide) (by decide) (by decide) (by decide) ?_
          refine lv_aload_n hx hb dX6_partOf_54 rfl (lv_at hl 0 rfl) ?_
          refine va_get (D := D) (ci := 6) (v := .ref h4) (C := RX6) (T := TX6) (N := 6) hx hb hts hiX6 hown hK hP 0 rfl rfl 0 (by decide) hf10 (fun _ h9 => h9) rfl dX6_partOf_55 ?_
          refine va_getN (D := D) (ci := 4) (v := .ref a2) (C := RX4) (T := TX4) (N := 6) hx hb hts hiX4 hown hK hP 1 rfl rfl 1 (by decide) hf132 (fun _ h9 => h9) rfl dX6_partOf_58 ?_
          refine lv_iload_n hx hb dX6_partOf_61 rfl (lv_at hl 1 rfl) ?_
          refine va_iald hx hb hK hP 3 0 rfl rfl (i := nI j9) (vp_in_nI (by omega) (by omega)) dX6_partOf_62 ?_
          refine cn_i (y := fb j9) (congrArg fb (nI_clamp (by omega))) ?_
          rw [← hQ]
          exact W.iret (v := fb j9) hx hb hr (fun tS htS hWS => ⟨⟨(fb j9), (), rfl, by rw [pO_in hj9 hn, e3]; rfl, trivial⟩, hS.F htS⟩) hS.2.2 dX6_partOf_63
        · refine cn_i (y := nI 2) e3 ?_
          refine lv_tableIn (tgt := 64) (off := 49) hx hb dX6_partOf_15 (by decide) (by decide) (by decide) (by decide) ?_
          refine lv_aload_n hx hb dX6_partOf_64 rfl (lv_at hl 0 rfl) ?_
          refine va_get (D := D) (ci := 6) (v := .ref h4) (C := RX6) (T := TX6) (N := 6) hx hb hts hiX6 hown hK hP 0 rfl rfl 0 (by decide) hf10 (fun _ h9 => h9) rfl dX6_partOf_65 ?_
          refine va_getN (D := D) (ci := 4) (v := .ref a3) (C := RX4) (T := TX4) (N := 6) hx hb hts hiX4 hown hK hP 1 rfl rfl 2 (by decide) hf135 (fun _ h9 => h9) rfl dX6_partOf_68 ?_
          refine lv_iload_n hx hb dX6_partOf_71 rfl (lv_at hl 1 rfl) ?_
          refine va_iald hx hb hK hP 4 0 rfl rfl (i := nI j9) (vp_in_nI (by omega) (by omega)) dX6_partOf_72 ?_
          refine cn_i (y := fp j9) (congrArg fp (nI_clamp (by omega))) ?_
          rw [← hQ]
          exact W.iret (v := fp j9) hx hb hr (fun tS htS hWS => ⟨⟨(fp j9), (), rfl, by rw [pO_in hj9 hn, e3]; rfl, trivial⟩, hS.F htS⟩) hS.2.2 dX6_partOf_73
        · refine cn_i (y := nI 3) e3 ?_
          refine lv_tableIn (tgt := 74) (off := 59) hx hb dX6_partOf_15 (by decide) (by decide) (by decide) (by decide) ?_
          refine lv_aload_n hx hb dX6_partOf_74 rfl (lv_at hl 0 rfl) ?_
          refine va_get (D := D) (ci := 6) (v := .ref h4) (C := RX6) (T := TX6) (N := 6) hx hb hts hiX6 hown hK hP 0 rfl rfl 0 (by decide) hf10 (fun _ h9 => h9) rfl dX6_partOf_75 ?_
          refine lv_iload_n hx hb dX6_partOf_78 rfl (lv_at hl 1 rfl) ?_
          refine pu_i (va_runV (As := [.int (nI j9)]) (rest := []) ⟨hx, hb, hml, hown, hts⟩ (c_X4_noted l D cI cJ cZ h4 a1 a2 a3 j9 (nI n) sn sg) (cwV 1 hts gX6_partOf_X4_noted rfl rfl rfl (by decide +kernel) ⟨Nat.le_of_ble_eq_true rfl, Nat.le_of_ble_eq_true rfl⟩) ⟨pc_blind, va_recv hK hP (ci := 4) (q0 := 1) rfl rfl, fun U hU hW => ⟨rfl, by rw [hU]; exact hP.sub (ws' := [(h4, .inr (4, [.ref a1, .ref a2, .ref a3, .int (nI n), .int sn, .int sg]))]) [1] rfl, hKN.warm hW⟩⟩ rfl rfl hl.1 rfl (lv_room (Nat.le_of_ble_eq_true rfl)) dX6_partOf_79 ⟨Nat.le_of_ble_eq_true rfl, Nat.le_of_ble_eq_true rfl⟩) hS hP (fun r4 H locs w4r hP hS => ?_)
          have w4 : r4 = if sb sn j9 = 0 then -1 else nI (sb sg j9) := w4r
          clear w4r
          rw [← hQ]
          exact W.iret (v := r4) hx hb hr (fun tS htS hWS => ⟨⟨r4, (), rfl, by rw [pO_in hj9 hn, e3]; exact w4, trivial⟩, hS.F htS⟩) hS.2.2 dX6_partOf_82
    · exact absurd c2 (by first | decide | exact nz_lt (by omega) | exact fun h => h (nz_ge (by omega)))
  · skip
    refine lv_if_ne (tgt := 14) hx hb dX6_partOf_8 (by decide) (fun c5 => ?_) (fun c5 => ?_)
    · exact absurd c5 (by first | decide | exact nz_lt (by omega) | exact fun h => h (nz_ge (by omega)))
    · skip
      refine lv_bipush (v := (-2 : Int32)) hx hb dX6_partOf_11 (by decide) ?_
      rw [← hQ]
      exact W.iret (v := (-2 : Int32)) hx hb hr (fun tS htS hWS => ⟨⟨(-2 : Int32), (), rfl, (pO_no w1).symm, trivial⟩, hS.F htS⟩) hS.2.2 dX6_partOf_13
def rm_c_X6_ordered : Room := { frames := 0, cells := 0, slots := 0, locals := 0 }
set_option maxHeartbeats 400000 in
set_option maxRecDepth 100000 in
theorem c_X6_ordered (l : Launch) (D : va_G) (cI cJ cZ : ClassId) (x0 : Nat) (h4 : Nat) (h3 : Nat) (h2 : Nat) (h1 : Nat) (hB : Nat) (h5 : Nat) (r1 : Nat) (q : Nat) (p0 : Int32) (fr : Nat → Int32) (hq : q ≤ 9) : Met l yX6_ordered wsX6_ordered rm_c_X6_ordered (pc_ D cI cJ cZ [.ref x0, .int p0] [(x0, .inr (6, [.ref h4, .ref h3, .ref h2, .ref h1, .ref hB, .ref h5])), (h2, .inr (2, [.ref r1, .int (nI q)])), (r1, .inl (cI, 9, .inl fr))]) (va_Qi (fun (r : Int32) (_ : Unit) => r = oF fr q p0) (fun _ _ => True) aN) 0 0 aN := by
  refine Met.ofW (cc := cX6_ordered) (maxL := 2) (ret := (some .int)) (by decide) rfl ?_
  intro p e s m args below meth c s₁ B hml hv
  obtain ⟨rfl, hP, hKN⟩ := hv
  have hK := hKN.1
  have hx := B.exec
  have hb := B.bytes
  have hr := B.returns
  have hts := atoms_spec (ws := wsX6_ordered) B.pre
  have hown : s.vm.findClass RX6 = some m.cls := findClass_of_methodNamed B.named
  have hlocks := B.notSynchronized
  have hiX2 : ∀ w ∈ wsX20, w ∈ wsX6_ordered := by decide +kernel
  have hiX6 : ∀ w ∈ wsX60, w ∈ wsX6_ordered := by decide +kernel
  have hf26 := hts (.fieldLink RX6 26 "LookBench" "queue" "LLookBench$Queue;") (by decide +kernel)
  have hf196 := va_Nw.use (A := [.ref x0, .int p0].toArray) rfl (hKN.2 (.fieldLinkNest RX6 196 RX2 "count" "I" RX6) (by decide +kernel))
  have hf203 := va_Nw.use (A := [.ref x0, .int p0].toArray) rfl (hKN.2 (.fieldLinkNest RX6 203 RX2 "row" "[I" RX6) (by decide +kernel))
  have hS : va_S aN s.heap s.heap [] := va_S.rf
  have hl := lv_entry ([.ref x0, .int p0]) (n := 2) (Nat.le_of_ble_eq_true rfl)
  rw [lg_entry_eq]
  generalize (lg_sl ([.ref x0, .int p0]) ++ List.replicate (2 - (lg_sl ([.ref x0, .int p0])).length) Slot.unset).toArray = ls at hl ⊢
  have hl : lv_has ls 2 [(0, .ref x0), (1, .int p0)] := hl
  generalize hQ : MQ below _ _ s _ _ _ = Q
  obtain ⟨H, hH⟩ : ∃ z, z = s.heap := ⟨_, rfl⟩
  have hP : va_P D vwCl [(x0, .inr (6, [.ref h4, .ref h3, .ref h2, .ref h1, .ref hB, .ref h5])), (h2, .inr (2, [.ref r1, .int (nI q)])), (r1, .inl (cI, 9, .inl fr))] H := by rw [hH]; exact hP
  have hS : va_S aN s.heap H [] := by rw [hH]; exact hS
  refine m_heap hH ?_
  clear hH
  refine lv_iload_n hx hb dX6_ordered_0 rfl (lv_at hl 1 rfl) ?_
  refine lv_if_lt (tgt := 27) hx hb dX6_ordered_1 (by decide) (fun c1 => ?_) (fun c1 => ?_)
  · skip
    have d1 := c1
    rw [i_lt, i_z] at d1
    refine lv_iconst (v := (-1 : Int32)) hx hb dX6_ordered_27 (by decide) ?_
    rw [← hQ]
    exact W.iret (v := (-1 : Int32)) hx hb hr (fun tS htS hWS => ⟨⟨(-1 : Int32), (), rfl, by first | exact (oF_in hj9 hq).symm | exact (oF_no (by omega)).symm, trivial⟩, hS.F htS⟩) hS.2.2 dX6_ordered_28
  · skip
    have d1 := c1
    rw [i_lt, i_z] at d1
    refine lv_iload_n hx hb dX6_ordered_4 rfl (lv_at hl 1 rfl) ?_
    refine lv_aload_n hx hb dX6_ordered_5 rfl (lv_at hl 0 rfl) ?_
    refine va_get (D := D) (ci := 6) (v := .ref h2) (C := RX6) (T := TX6) (N := 6) hx hb hts hiX6 hown hK hP 0 rfl rfl 2 (by decide) hf26 (fun _ h9 => h9) rfl dX6_ordered_6 ?_
    refine va_getN (D := D) (ci := 2) (v := .int (nI q)) (C := RX2) (T := TX2) (N := 2) hx hb hts hiX2 hown hK hP 1 rfl rfl 1 (by decide) hf196 (fun _ h9 => h9) rfl dX6_ordered_9 ?_
    refine lv_icmp_ge (tgt := 27) hx hb dX6_ordered_12 (by decide) (fun c2 => ?_) (fun c2 => ?_)
    · skip
      have d2 := c2
      rw [i_le, nI_toInt (n := q) (by omega)] at d2
      refine lv_iconst (v := (-1 : Int32)) hx hb dX6_ordered_27 (by decide) ?_
      rw [← hQ]
      exact W.iret (v := (-1 : Int32)) hx hb hr (fun tS htS hWS => ⟨⟨(-1 : Int32), (), rfl, by first | exact (oF_in hj9 hq).symm | exact (oF_no (by omega)).symm, trivial⟩, hS.F htS⟩) hS.2.2 dX6_ordered_28
    · skip
      have d2 := c2
      rw [i_le, nI_toInt (n := q) (by omega)] at d2
      obtain ⟨j9, hj9, rfl⟩ := m_nat (x := p0) (n := q) (by omega)
      refine lv_aload_n hx hb dX6_ordered_15 rfl (lv_at hl 0 rfl) ?_
      refine va_get (D := D) (ci := 6) (v := .ref h2) (C := RX6) (T := TX6) (N := 6) hx hb hts hiX6 hown hK hP 0 rfl rfl 2 (by decide) hf26 (fun _ h9 => h9) rfl dX6_ordered_16 ?_
      refine va_getN (D := D) (ci := 2) (v := .ref r1) (C := RX2) (T := TX2) (N := 2) hx hb hts hiX2 hown hK hP 1 rfl rfl 0 (by decide) hf203 (fun _ h9 => h9) rfl dX6_ordered_19 ?_
      refine lv_iload_n hx hb dX6_ordered_22 rfl (lv_at hl 1 rfl) ?_
      refine va_iald hx hb hK hP 2 0 rfl rfl (i := nI j9) (vp_in_nI (by omega) (by omega)) dX6_ordered_23 ?_
      refine cn_i (y := fr j9) (congrArg fr (nI_clamp (by omega))) ?_
      refine lv_goto (tgt := 28) hx hb dX6_ordered_24 (by decide) ?_
      rw [← hQ]
      exact W.iret (v := fr j9) hx hb hr (fun tS htS hWS => ⟨⟨(fr j9), (), rfl, by first | exact (oF_in hj9 hq).symm | exact (oF_no (by omega)).symm, trivial⟩, hS.F htS⟩) hS.2.2 dX6_ordered_28
def rm_c_X6_looked : Room := { frames := 0, cells := 0, slots := 0, locals := 0 }
set_option maxHeartbeats 400000 in
set_option maxRecDepth 100000 in
theorem c_X6_looked (l : Launch) (D : va_G) (cI cJ cZ : ClassId) (x0 : Nat) (h4 : Nat) (h3 : Nat) (h2 : Nat) (h1 : Nat) (hB : Nat) (h5 : Nat) (lk1 : Nat) (q : Nat) (p0 : Int32) (fr : Nat → Int32) (hq : q ≤ 9) : Met l yX6_looked wsX6_looked rm_c_X6_looked (pc_ D cI cJ cZ [.ref x0, .int p0] [(x0, .inr (6, [.ref h4, .ref h3, .ref h2, .ref h1, .ref hB, .ref h5])), (h5, .inr (5, [.ref lk1, .int (nI q)])), (lk1, .inl (cI, 9, .inl fr))]) (va_Qi (fun (r : Int32) (_ : Unit) => r = oF fr q p0) (fun _ _ => True) aN) 0 0 aN := by
  refine Met.ofW (cc := cX6_looked) (maxL := 2) (ret := (some .int)) (by decide) rfl ?_
  intro p e s m args below meth c s₁ B hml hv
  obtain ⟨rfl, hP, hKN⟩ := hv
  have hK := hKN.1
  have hx := B.exec
  have hb := B.bytes
  have hr := B.returns
  have hts := atoms_spec (ws := wsX6_looked) B.pre
  have hown : s.vm.findClass RX6 = some m.cls := findClass_of_methodNamed B.named
  have hlocks := B.notSynchronized
  have hiX5 : ∀ w ∈ wsX50, w ∈ wsX6_looked := by decide +kernel
  have hiX6 : ∀ w ∈ wsX60, w ∈ wsX6_looked := by decide +kernel
  have hf51 := hts (.fieldLink RX6 51 "LookBench" "trail" "LLookBench$Trail;") (by decide +kernel)
  have hf212 := va_Nw.use (A := [.ref x0, .int p0].toArray) rfl (hKN.2 (.fieldLinkNest RX6 212 RX5 "count" "I" RX6) (by decide +kernel))
  have hf213 := va_Nw.use (A := [.ref x0, .int p0].toArray) rfl (hKN.2 (.fieldLinkNest RX6 213 RX5 "looks" "[I" RX6) (by decide +kernel))
  have hS : va_S aN s.heap s.heap [] := va_S.rf
  have hl := lv_entry ([.ref x0, .int p0]) (n := 2) (Nat.le_of_ble_eq_true rfl)
  rw [lg_entry_eq]
  generalize (lg_sl ([.ref x0, .int p0]) ++ List.replicate (2 - (lg_sl ([.ref x0, .int p0])).length) Slot.unset).toArray = ls at hl ⊢
  have hl : lv_has ls 2 [(0, .ref x0), (1, .int p0)] := hl
  generalize hQ : MQ below _ _ s _ _ _ = Q
  obtain ⟨H, hH⟩ : ∃ z, z = s.heap := ⟨_, rfl⟩
  have hP : va_P D vwCl [(x0, .inr (6, [.ref h4, .ref h3, .ref h2, .ref h1, .ref hB, .ref h5])), (h5, .inr (5, [.ref lk1, .int (nI q)])), (lk1, .inl (cI, 9, .inl fr))] H := by rw [hH]; exact hP
  have hS : va_S aN s.heap H [] := by rw [hH]; exact hS
  refine m_heap hH ?_
  clear hH
  refine lv_iload_n hx hb dX6_looked_0 rfl (lv_at hl 1 rfl) ?_
  refine lv_if_lt (tgt := 27) hx hb dX6_looked_1 (by decide) (fun c1 => ?_) (fun c1 => ?_)
  · skip
    have d1 := c1
    rw [i_lt, i_z] at d1
    refine lv_iconst (v := (-1 : Int32)) hx hb dX6_looked_27 (by decide) ?_
    rw [← hQ]
    exact W.iret (v := (-1 : Int32)) hx hb hr (fun tS htS hWS => ⟨⟨(-1 : Int32), (), rfl, by first | exact (oF_in hj9 hq).symm | exact (oF_no (by omega)).symm, trivial⟩, hS.F htS⟩) hS.2.2 dX6_looked_28
  · skip
    have d1 := c1
    rw [i_lt, i_z] at d1
    refine lv_iload_n hx hb dX6_looked_4 rfl (lv_at hl 1 rfl) ?_
    refine lv_aload_n hx hb dX6_looked_5 rfl (lv_at hl 0 rfl) ?_
    refine va_get (D := D) (ci := 6) (v := .ref h5) (C := RX6) (T := TX6) (N := 6) hx hb hts hiX6 hown hK hP 0 rfl rfl 5 (by decide) hf51 (fun _ h9 => h9) rfl dX6_looked_6 ?_
    refine va_getN (D := D) (ci := 5) (v := .int (nI q)) (C := RX5) (T := TX5) (N := 2) hx hb hts hiX5 hown hK hP 1 rfl rfl 1 (by decide) hf212 (fun _ h9 => h9) rfl dX6_looked_9 ?_
    refine lv_icmp_ge (tgt := 27) hx hb dX6_looked_12 (by decide) (fun c2 => ?_) (fun c2 => ?_)
    · skip
      have d2 := c2
      rw [i_le, nI_toInt (n := q) (by omega)] at d2
      refine lv_iconst (v := (-1 : Int32)) hx hb dX6_looked_27 (by decide) ?_
      rw [← hQ]
      exact W.iret (v := (-1 : Int32)) hx hb hr (fun tS htS hWS => ⟨⟨(-1 : Int32), (), rfl, by first | exact (oF_in hj9 hq).symm | exact (oF_no (by omega)).symm, trivial⟩, hS.F htS⟩) hS.2.2 dX6_looked_28
    · skip
      have d2 := c2
      rw [i_le, nI_toInt (n := q) (by omega)] at d2
      obtain ⟨j9, hj9, rfl⟩ := m_nat (x := p0) (n := q) (by omega)
      refine lv_aload_n hx hb dX6_looked_15 rfl (lv_at hl 0 rfl) ?_
      refine va_get (D := D) (ci := 6) (v := .ref h5) (C := RX6) (T := TX6) (N := 6) hx hb hts hiX6 hown hK hP 0 rfl rfl 5 (by decide) hf51 (fun _ h9 => h9) rfl dX6_looked_16 ?_
      refine va_getN (D := D) (ci := 5) (v := .ref lk1) (C := RX5) (T := TX5) (N := 2) hx hb hts hiX5 hown hK hP 1 rfl rfl 0 (by decide) hf213 (fun _ h9 => h9) rfl dX6_looked_19 ?_
      refine lv_iload_n hx hb dX6_looked_22 rfl (lv_at hl 1 rfl) ?_
      refine va_iald hx hb hK hP 2 0 rfl rfl (i := nI j9) (vp_in_nI (by omega) (by omega)) dX6_looked_23 ?_
      refine cn_i (y := fr j9) (congrArg fr (nI_clamp (by omega))) ?_
      refine lv_goto (tgt := 28) hx hb dX6_looked_24 (by decide) ?_
      rw [← hQ]
      exact W.iret (v := fr j9) hx hb hr (fun tS htS hWS => ⟨⟨(fr j9), (), rfl, by first | exact (oF_in hj9 hq).symm | exact (oF_no (by omega)).symm, trivial⟩, hS.F htS⟩) hS.2.2 dX6_looked_28
def rm_c_X6_about : Room := { frames := 0, cells := 0, slots := 0, locals := 0 }
set_option maxHeartbeats 400000 in
set_option maxRecDepth 100000 in
theorem c_X6_about (l : Launch) (D : va_G) (cI cJ cZ : ClassId) (x0 : Nat) (h4 : Nat) (h3 : Nat) (h2 : Nat) (h1 : Nat) (hB : Nat) (h5 : Nat) (a1 : Nat) (a2 : Nat) (a3 : Nat) (b1 : Nat) (b2 : Nat) (r1 : Nat) (lk1 : Nat) (cn : Int32) (sn : Int32) (sg : Int32) (pt : Int32) (rc : Int32) (ry : Int32) (qc : Int32) (tc : Int32) (wh : Int32)  : Met l yX6_about wsX6_about rm_c_X6_about (pc_ D cI cJ cZ [.ref x0, .int wh] [(x0, .inr (6, [.ref h4, .ref h3, .ref h2, .ref h1, .ref hB, .ref h5])), (h4, .inr (4, [.ref a1, .ref a2, .ref a3, .int cn, .int sn, .int sg])), (h3, .inr (3, [.ref b1, .ref b2, .int pt, .int rc, .int ry])), (h2, .inr (2, [.ref r1, .int qc])), (h5, .inr (5, [.ref lk1, .int tc]))]) (va_Qi (fun (r : Int32) (_ : Unit) => r = abF cn rc ry qc tc wh) (fun _ _ => True) aN) 0 0 aN := by
  refine Met.ofW (cc := cX6_about) (maxL := 2) (ret := (some .int)) (by decide) rfl ?_
  intro p e s m args below meth c s₁ B hml hv
  obtain ⟨rfl, hP, hKN⟩ := hv
  have hK := hKN.1
  have hx := B.exec
  have hb := B.bytes
  have hr := B.returns
  have hts := atoms_spec (ws := wsX6_about) B.pre
  have hown : s.vm.findClass RX6 = some m.cls := findClass_of_methodNamed B.named
  have hlocks := B.notSynchronized
  have hiX2 : ∀ w ∈ wsX20, w ∈ wsX6_about := by decide +kernel
  have hiX3 : ∀ w ∈ wsX30, w ∈ wsX6_about := by decide +kernel
  have hiX4 : ∀ w ∈ wsX40, w ∈ wsX6_about := by decide +kernel
  have hiX5 : ∀ w ∈ wsX50, w ∈ wsX6_about := by decide +kernel
  have hiX6 : ∀ w ∈ wsX60, w ∈ wsX6_about := by decide +kernel
  have hf10 := hts (.fieldLink RX6 10 "LookBench" "shelf" "LLookBench$Shelf;") (by decide +kernel)
  have hf19 := hts (.fieldLink RX6 19 "LookBench" "rules" "LLookBench$Rules;") (by decide +kernel)
  have hf26 := hts (.fieldLink RX6 26 "LookBench" "queue" "LLookBench$Queue;") (by decide +kernel)
  have hf51 := hts (.fieldLink RX6 51 "LookBench" "trail" "LLookBench$Trail;") (by decide +kernel)
  have hf102 := va_Nw.use (A := [.ref x0, .int wh].toArray) rfl (hKN.2 (.fieldLinkNest RX6 102 RX3 "system" "I" RX6) (by decide +kernel))
  have hf196 := va_Nw.use (A := [.ref x0, .int wh].toArray) rfl (hKN.2 (.fieldLinkNest RX6 196 RX2 "count" "I" RX6) (by decide +kernel))
  have hf212 := va_Nw.use (A := [.ref x0, .int wh].toArray) rfl (hKN.2 (.fieldLinkNest RX6 212 RX5 "count" "I" RX6) (by decide +kernel))
  have hf216 := va_Nw.use (A := [.ref x0, .int wh].toArray) rfl (hKN.2 (.fieldLinkNest RX6 216 RX4 "count" "I" RX6) (by decide +kernel))
  have hf217 := va_Nw.use (A := [.ref x0, .int wh].toArray) rfl (hKN.2 (.fieldLinkNest RX6 217 RX3 "count" "I" RX6) (by decide +kernel))
  have hS : va_S aN s.heap s.heap [] := va_S.rf
  have hl := lv_entry ([.ref x0, .int wh]) (n := 2) (Nat.le_of_ble_eq_true rfl)
  rw [lg_entry_eq]
  generalize (lg_sl ([.ref x0, .int wh]) ++ List.replicate (2 - (lg_sl ([.ref x0, .int wh])).length) Slot.unset).toArray = ls at hl ⊢
  have hl : lv_has ls 2 [(0, .ref x0), (1, .int wh)] := hl
  generalize hQ : MQ below _ _ s _ _ _ = Q
  obtain ⟨H, hH⟩ : ∃ z, z = s.heap := ⟨_, rfl⟩
  have hP : va_P D vwCl [(x0, .inr (6, [.ref h4, .ref h3, .ref h2, .ref h1, .ref hB, .ref h5])), (h4, .inr (4, [.ref a1, .ref a2, .ref a3, .int cn, .int sn, .int sg])), (h3, .inr (3, [.ref b1, .ref b2, .int pt, .int rc, .int ry])), (h2, .inr (2, [.ref r1, .int qc])), (h5, .inr (5, [.ref lk1, .int tc]))] H := by rw [hH]; exact hP
  have hS : va_S aN s.heap H [] := by rw [hH]; exact hS
  refine m_heap hH ?_
  clear hH
  refine lv_iload_n hx hb dX6_about_0 rfl (lv_at hl 1 rfl) ?_
  by_cases c1 : wh.toInt < (0) ∨ (4) < wh.toInt
  · refine lv_tableOut (tgt := 76) hx hb dX6_about_1 c1 (by decide) ?_
    refine lv_iconst (v := (-1 : Int32)) hx hb dX6_about_76 (by decide) ?_
    rw [← hQ]
    exact W.iret (v := (-1 : Int32)) hx hb hr (fun tS htS hWS => ⟨⟨(-1 : Int32), (), rfl, (abF_out c1).symm, trivial⟩, hS.F htS⟩) hS.2.2 dX6_about_77
  · have h1 : wh = nI 0 ∨ wh = nI 1 ∨ wh = nI 2 ∨ wh = nI 3 ∨ wh = nI 4 := m_sw_0_4 c1
    rcases h1 with e1 | e1 | e1 | e1 | e1
    · refine cn_i (y := nI 0) e1 ?_
      refine lv_tableIn (tgt := 36) (off := 35) hx hb dX6_about_1 (by decide) (by decide) (by decide) (by decide) ?_
      refine lv_aload_n hx hb dX6_about_36 rfl (lv_at hl 0 rfl) ?_
      refine va_get (D := D) (ci := 6) (v := .ref h4) (C := RX6) (T := TX6) (N := 6) hx hb hts hiX6 hown hK hP 0 rfl rfl 0 (by decide) hf10 (fun _ h9 => h9) rfl dX6_about_37 ?_
      refine va_getN (D := D) (ci := 4) (v := .int cn) (C := RX4) (T := TX4) (N := 6) hx hb hts hiX4 hown hK hP 1 rfl rfl 3 (by decide) hf216 (fun _ h9 => h9) rfl dX6_about_40 ?_
      rw [← hQ]
      exact W.iret (v := cn) hx hb hr (fun tS htS hWS => ⟨⟨cn, (), rfl, by rw [e1]; rfl, trivial⟩, hS.F htS⟩) hS.2.2 dX6_about_43
    · refine cn_i (y := nI 1) e1 ?_
      refine lv_tableIn (tgt := 44) (off := 43) hx hb dX6_about_1 (by decide) (by decide) (by decide) (by decide) ?_
      refine lv_aload_n hx hb dX6_about_44 rfl (lv_at hl 0 rfl) ?_
      refine va_get (D := D) (ci := 6) (v := .ref h3) (C := RX6) (T := TX6) (N := 6) hx hb hts hiX6 hown hK hP 0 rfl rfl 1 (by decide) hf19 (fun _ h9 => h9) rfl dX6_about_45 ?_
      refine va_getN (D := D) (ci := 3) (v := .int rc) (C := RX3) (T := TX3) (N := 5) hx hb hts hiX3 hown hK hP 2 rfl rfl 3 (by decide) hf217 (fun _ h9 => h9) rfl dX6_about_48 ?_
      rw [← hQ]
      exact W.iret (v := rc) hx hb hr (fun tS htS hWS => ⟨⟨rc, (), rfl, by rw [e1]; rfl, trivial⟩, hS.F htS⟩) hS.2.2 dX6_about_51
    · refine cn_i (y := nI 2) e1 ?_
      refine lv_tableIn (tgt := 52) (off := 51) hx hb dX6_about_1 (by decide) (by decide) (by decide) (by decide) ?_
      refine lv_aload_n hx hb dX6_about_52 rfl (lv_at hl 0 rfl) ?_
      refine va_get (D := D) (ci := 6) (v := .ref h3) (C := RX6) (T := TX6) (N := 6) hx hb hts hiX6 hown hK hP 0 rfl rfl 1 (by decide) hf19 (fun _ h9 => h9) rfl dX6_about_53 ?_
      refine va_getN (D := D) (ci := 3) (v := .int ry) (C := RX3) (T := TX3) (N := 5) hx hb hts hiX3 hown hK hP 2 rfl rfl 4 (by decide) hf102 (fun _ h9 => h9) rfl dX6_about_56 ?_
      rw [← hQ]
      exact W.iret (v := ry) hx hb hr (fun tS htS hWS => ⟨⟨ry, (), rfl, by rw [e1]; rfl, trivial⟩, hS.F htS⟩) hS.2.2 dX6_about_59
    · refine cn_i (y := nI 3) e1 ?_
      refine lv_tableIn (tgt := 60) (off := 59) hx hb dX6_about_1 (by decide) (by decide) (by decide) (by decide) ?_
      refine lv_aload_n hx hb dX6_about_60 rfl (lv_at hl 0 rfl) ?_
      refine va_get (D := D) (ci := 6) (v := .ref h2) (C := RX6) (T := TX6) (N := 6) hx hb hts hiX6 hown hK hP 0 rfl rfl 2 (by decide) hf26 (fun _ h9 => h9) rfl dX6_about_61 ?_
      refine va_getN (D := D) (ci := 2) (v := .int qc) (C := RX2) (T := TX2) (N := 2) hx hb hts hiX2 hown hK hP 3 rfl rfl 1 (by decide) hf196 (fun _ h9 => h9) rfl dX6_about_64 ?_
      rw [← hQ]
      exact W.iret (v := qc) hx hb hr (fun tS htS hWS => ⟨⟨qc, (), rfl, by rw [e1]; rfl, trivial⟩, hS.F htS⟩) hS.2.2 dX6_about_67
    · refine cn_i (y := nI 4) e1 ?_
      refine lv_tableIn (tgt := 68) (off := 67) hx hb dX6_about_1 (by decide) (by decide) (by decide) (by decide) ?_
      refine lv_aload_n hx hb dX6_about_68 rfl (lv_at hl 0 rfl) ?_
      refine va_get (D := D) (ci := 6) (v := .ref h5) (C := RX6) (T := TX6) (N := 6) hx hb hts hiX6 hown hK hP 0 rfl rfl 5 (by decide) hf51 (fun _ h9 => h9) rfl dX6_about_69 ?_
      refine va_getN (D := D) (ci := 5) (v := .int tc) (C := RX5) (T := TX5) (N := 2) hx hb hts hiX5 hown hK hP 4 rfl rfl 1 (by decide) hf212 (fun _ h9 => h9) rfl dX6_about_72 ?_
      rw [← hQ]
      exact W.iret (v := tc) hx hb hr (fun tS htS hWS => ⟨⟨tc, (), rfl, by rw [e1]; rfl, trivial⟩, hS.F htS⟩) hS.2.2 dX6_about_75
def rm_c_X7_partOf : Room := { frames := 2, cells := 0, slots := 0, locals := 46 }
set_option maxHeartbeats 400000 in
set_option maxRecDepth 100000 in
theorem c_X7_partOf (l : Launch) (D : va_G) (cI cJ cZ : ClassId) (m0 : Nat) (g1 : Nat) (g2 : Nat) (g3 : Nat) (g4 : Nat) (g5 : Nat) (g6 : Nat) (g7 : Nat) (g8 : Nat) (g9 : Nat) (g10 : Nat) (g11 : Nat) (g12 : Nat) (n : Nat) (mr : Int32) (my : Int32) (mo : Int32) (ml : Int32) (p0 : Int32) (wh : Int32) (fg : Nat → Int32) (fb : Nat → Int32) (fp : Nat → Int32) (fn : Nat → Int32) (hn : n ≤ 9) (h1n : 1 ≤ n) : Met l yX7_partOf wsX7_partOf rm_c_X7_partOf (pc_ D cI cJ cZ [.ref m0, .int p0, .int wh] [(m0, .inr (7, [.int (nI n), .ref g1, .ref g2, .ref g3, .int mr, .ref g4, .int my, .ref g5, .int mo, .ref g6, .int ml, .ref g7, .ref g8, .ref g9, .ref g10, .ref g11, .ref g12])), (g1, .inl (cI, 9, .inl fg)), (g2, .inl (cI, 9, .inl fb)), (g3, .inl (cI, 9, .inl fp)), (g5, .inl (cI, 9, .inl fn))]) (va_Qi (fun (r : Int32) (_ : Unit) => r = pO fg fb fp fn n p0 wh) (fun _ _ => True) aN) 0 0 aN := by
  refine Met.ofW (cc := cX7_partOf) (maxL := 3) (ret := (some .int)) (by decide) rfl ?_
  intro p e s m args below meth c s₁ B hml hv
  obtain ⟨rfl, hP, hKN⟩ := hv
  have hK := hKN.1
  have hx := B.exec
  have hb := B.bytes
  have hr := B.returns
  have hts := atoms_spec (ws := wsX7_partOf) B.pre
  have hown : s.vm.findClass RX7 = some m.cls := findClass_of_methodNamed B.named
  have hlocks := B.notSynchronized
  have hiX7 : ∀ w ∈ wsX70, w ∈ wsX7_partOf := by decide +kernel
  have hf13 := hts (.fieldLink RX7 13 "LookBenchModel" "good" "[I") (by decide +kernel)
  have hf17 := hts (.fieldLink RX7 17 "LookBenchModel" "bad" "[I") (by decide +kernel)
  have hf20 := hts (.fieldLink RX7 20 "LookBenchModel" "price" "[I") (by decide +kernel)
  have hf30 := hts (.fieldLink RX7 30 "LookBenchModel" "seen" "[I") (by decide +kernel)
  have hS : va_S aN s.heap s.heap [] := va_S.rf
  have hl := lv_entry ([.ref m0, .int p0, .int wh]) (n := 3) (Nat.le_of_ble_eq_true rfl)
  rw [lg_entry_eq]
  generalize (lg_sl ([.ref m0, .int p0, .int wh]) ++ List.replicate (3 - (lg_sl ([.ref m0, .int p0, .int wh])).length) Slot.unset).toArray = ls at hl ⊢
  have hl : lv_has ls 3 [(0, .ref m0), (1, .int p0), (2, .int wh)] := hl
  generalize hQ : MQ below _ _ s _ _ _ = Q
  obtain ⟨H, hH⟩ : ∃ z, z = s.heap := ⟨_, rfl⟩
  have hP : va_P D vwCl [(m0, .inr (7, [.int (nI n), .ref g1, .ref g2, .ref g3, .int mr, .ref g4, .int my, .ref g5, .int mo, .ref g6, .int ml, .ref g7, .ref g8, .ref g9, .ref g10, .ref g11, .ref g12])), (g1, .inl (cI, 9, .inl fg)), (g2, .inl (cI, 9, .inl fb)), (g3, .inl (cI, 9, .inl fp)), (g5, .inl (cI, 9, .inl fn))] H := by rw [hH]; exact hP
  have hS : va_S aN s.heap H [] := by rw [hH]; exact hS
  refine m_heap hH ?_
  clear hH
  refine lv_aload_n hx hb dX7_partOf_0 rfl (lv_at hl 0 rfl) ?_
  refine lv_iload_n hx hb dX7_partOf_1 rfl (lv_at hl 1 rfl) ?_
  refine pu_i (va_runV (As := [.int p0]) (rest := []) ⟨hx, hb, hml, hown, hts⟩ (c_X7_isPart l D cI cJ cZ m0 g1 g2 g3 g4 g5 g6 g7 g8 g9 g10 g11 g12 n mr my mo ml p0 (by first | assumption | omega) (by first | assumption | omega)) (cwV 1 hts gX7_partOf_X7_isPart rfl rfl rfl (by decide +kernel) ⟨Nat.le_of_ble_eq_true rfl, Nat.le_of_ble_eq_true rfl⟩) ⟨pc_blind, va_recv hK hP (ci := 7) (q0 := 0) rfl rfl, fun U hU hW => ⟨rfl, by rw [hU]; exact hP.sub (ws' := [(m0, .inr (7, [.int (nI n), .ref g1, .ref g2, .ref g3, .int mr, .ref g4, .int my, .ref g5, .int mo, .ref g6, .int ml, .ref g7, .ref g8, .ref g9, .ref g10, .ref g11, .ref g12]))]) [0] rfl, hKN.warm hW⟩⟩ rfl rfl hl.1 rfl (lv_room (Nat.le_of_ble_eq_true rfl)) dX7_partOf_2 ⟨Nat.le_of_ble_eq_true rfl, Nat.le_of_ble_eq_true rfl⟩) hS hP (fun r1 H locs w1r hP hS => ?_)
  have w1 : B01 r1 (0 ≤ p0.toInt ∧ p0.toInt < n) := w1r
  clear w1r
  rcases w1 with ⟨rfl, w1⟩ | ⟨rfl, w1⟩
  · skip
    obtain ⟨j9, hj9, rfl⟩ := m_nat w1
    have t9 : (nI j9).toInt = (j9 : Int) := nI_toInt (by omega)
    refine lv_if_ne (tgt := 11) hx hb dX7_partOf_5 (by decide) (fun c2 => ?_) (fun c2 => ?_)
    · skip
      refine lv_iload_n hx hb dX7_partOf_11 rfl (lv_at hl 2 rfl) ?_
      refine lv_if_ne (tgt := 24) hx hb dX7_partOf_12 (by decide) (fun c3 => ?_) (fun c3 => ?_)
      · skip
        refine lv_iload_n hx hb dX7_partOf_24 rfl (lv_at hl 2 rfl) ?_
        refine lv_iconst (v := nI 1) hx hb dX7_partOf_25 (by decide) ?_
        refine lv_icmp_ne (tgt := 38) hx hb dX7_partOf_26 (by decide) (fun c4 => ?_) (fun c4 => ?_)
        · skip
          refine lv_iload_n hx hb dX7_partOf_38 rfl (lv_at hl 2 rfl) ?_
          refine lv_iconst (v := nI 2) hx hb dX7_partOf_39 (by decide) ?_
          refine lv_icmp_ne (tgt := 52) hx hb dX7_partOf_40 (by decide) (fun c5 => ?_) (fun c5 => ?_)
          · skip
            refine lv_iload_n hx hb dX7_partOf_52 rfl (lv_at hl 2 rfl) ?_
            refine lv_iconst (v := nI 3) hx hb dX7_partOf_53 (by decide) ?_
            refine lv_icmp_ne (tgt := 66) hx hb dX7_partOf_54 (by decide) (fun c6 => ?_) (fun c6 => ?_)
            · skip
              refine lv_bipush (v := (-2 : Int32)) hx hb dX7_partOf_66 (by decide) ?_
              rw [← hQ]
              exact W.iret (v := (-2 : Int32)) hx hb hr (fun tS htS hWS => ⟨⟨(-2 : Int32), (), rfl, by rw [pO_in hj9 hn]; unfold qO; first | rw [if_pos (show wh = nI 0 from c3)] | rw [if_neg (show ¬ wh = nI 0 from c3), if_pos c4] | rw [if_neg (show ¬ wh = nI 0 from c3), if_neg c4, if_pos c5] | rw [if_neg (show ¬ wh = nI 0 from c3), if_neg c4, if_neg c5, if_pos c6] | rw [if_neg (show ¬ wh = nI 0 from c3), if_neg c4, if_neg c5, if_neg c6], trivial⟩, hS.F htS⟩) hS.2.2 dX7_partOf_68
            · skip
              refine lv_aload_n hx hb dX7_partOf_57 rfl (lv_at hl 0 rfl) ?_
              refine va_get (D := D) (ci := 7) (v := .ref g5) (C := RX7) (T := TX7) (N := 17) hx hb hts hiX7 hown hK hP 0 rfl rfl 7 (by decide) hf30 (fun _ h9 => h9) rfl dX7_partOf_58 ?_
              refine lv_iload_n hx hb dX7_partOf_61 rfl (lv_at hl 1 rfl) ?_
              refine va_iald hx hb hK hP 4 0 rfl rfl (i := nI j9) (vp_in_nI (by omega) (by omega)) dX7_partOf_62 ?_
              refine cn_i (y := fn j9) (congrArg fn (nI_clamp (by omega))) ?_
              refine lv_goto (tgt := 68) hx hb dX7_partOf_63 (by decide) ?_
              rw [← hQ]
              exact W.iret (v := fn j9) hx hb hr (fun tS htS hWS => ⟨⟨(fn j9), (), rfl, by rw [pO_in hj9 hn]; unfold qO; first | rw [if_pos (show wh = nI 0 from c3)] | rw [if_neg (show ¬ wh = nI 0 from c3), if_pos c4] | rw [if_neg (show ¬ wh = nI 0 from c3), if_neg c4, if_pos c5] | rw [if_neg (show ¬ wh = nI 0 from c3), if_neg c4, if_neg c5, if_pos c6] | rw [if_neg (show ¬ wh = nI 0 from c3), if_neg c4, if_neg c5, if_neg c6], trivial⟩, hS.F htS⟩) hS.2.2 dX7_partOf_68
          · skip
            refine lv_aload_n hx hb dX7_partOf_43 rfl (lv_at hl 0 rfl) ?_
            refine va_get (D := D) (ci := 7) (v := .ref g3) (C := RX7) (T := TX7) (N := 17) hx hb hts hiX7 hown hK hP 0 rfl rfl 3 (by decide) hf20 (fun _ h9 => h9) rfl dX7_partOf_44 ?_
            refine lv_iload_n hx hb dX7_partOf_47 rfl (lv_at hl 1 rfl) ?_
            refine va_iald hx hb hK hP 3 0 rfl rfl (i := nI j9) (vp_in_nI (by omega) (by omega)) dX7_partOf_48 ?_
            refine cn_i (y := fp j9) (congrArg fp (nI_clamp (by omega))) ?_
            refine lv_goto (tgt := 68) hx hb dX7_partOf_49 (by decide) ?_
            rw [← hQ]
            exact W.iret (v := fp j9) hx hb hr (fun tS htS hWS => ⟨⟨(fp j9), (), rfl, by rw [pO_in hj9 hn]; unfold qO; first | rw [if_pos (show wh = nI 0 from c3)] | rw [if_neg (show ¬ wh = nI 0 from c3), if_pos c4] | rw [if_neg (show ¬ wh = nI 0 from c3), if_neg c4, if_pos c5] | rw [if_neg (show ¬ wh = nI 0 from c3), if_neg c4, if_neg c5, if_pos c6] | rw [if_neg (show ¬ wh = nI 0 from c3), if_neg c4, if_neg c5, if_neg c6], trivial⟩, hS.F htS⟩) hS.2.2 dX7_partOf_68
        · skip
          refine lv_aload_n hx hb dX7_partOf_29 rfl (lv_at hl 0 rfl) ?_
          refine va_get (D := D) (ci := 7) (v := .ref g2) (C := RX7) (T := TX7) (N := 17) hx hb hts hiX7 hown hK hP 0 rfl rfl 2 (by decide) hf17 (fun _ h9 => h9) rfl dX7_partOf_30 ?_
          refine lv_iload_n hx hb dX7_partOf_33 rfl (lv_at hl 1 rfl) ?_
          refine va_iald hx hb hK hP 2 0 rfl rfl (i := nI j9) (vp_in_nI (by omega) (by omega)) dX7_partOf_34 ?_
          refine cn_i (y := fb j9) (congrArg fb (nI_clamp (by omega))) ?_
          refine lv_goto (tgt := 68) hx hb dX7_partOf_35 (by decide) ?_
          rw [← hQ]
          exact W.iret (v := fb j9) hx hb hr (fun tS htS hWS => ⟨⟨(fb j9), (), rfl, by rw [pO_in hj9 hn]; unfold qO; first | rw [if_pos (show wh = nI 0 from c3)] | rw [if_neg (show ¬ wh = nI 0 from c3), if_pos c4] | rw [if_neg (show ¬ wh = nI 0 from c3), if_neg c4, if_pos c5] | rw [if_neg (show ¬ wh = nI 0 from c3), if_neg c4, if_neg c5, if_pos c6] | rw [if_neg (show ¬ wh = nI 0 from c3), if_neg c4, if_neg c5, if_neg c6], trivial⟩, hS.F htS⟩) hS.2.2 dX7_partOf_68
      · skip
        refine lv_aload_n hx hb dX7_partOf_15 rfl (lv_at hl 0 rfl) ?_
        refine va_get (D := D) (ci := 7) (v := .ref g1) (C := RX7) (T := TX7) (N := 17) hx hb hts hiX7 hown hK hP 0 rfl rfl 1 (by decide) hf13 (fun _ h9 => h9) rfl dX7_partOf_16 ?_
        refine lv_iload_n hx hb dX7_partOf_19 rfl (lv_at hl 1 rfl) ?_
        refine va_iald hx hb hK hP 1 0 rfl rfl (i := nI j9) (vp_in_nI (by omega) (by omega)) dX7_partOf_20 ?_
        refine cn_i (y := fg j9) (congrArg fg (nI_clamp (by omega))) ?_
        refine lv_goto (tgt := 68) hx hb dX7_partOf_21 (by decide) ?_
        rw [← hQ]
        exact W.iret (v := fg j9) hx hb hr (fun tS htS hWS => ⟨⟨(fg j9), (), rfl, by rw [pO_in hj9 hn]; unfold qO; first | rw [if_pos (show wh = nI 0 from c3)] | rw [if_neg (show ¬ wh = nI 0 from c3), if_pos c4] | rw [if_neg (show ¬ wh = nI 0 from c3), if_neg c4, if_pos c5] | rw [if_neg (show ¬ wh = nI 0 from c3), if_neg c4, if_neg c5, if_pos c6] | rw [if_neg (show ¬ wh = nI 0 from c3), if_neg c4, if_neg c5, if_neg c6], trivial⟩, hS.F htS⟩) hS.2.2 dX7_partOf_68
    · exact absurd c2 (by first | decide | exact nz_lt (by omega) | exact fun h => h (nz_ge (by omega)))
  · skip
    refine lv_if_ne (tgt := 11) hx hb dX7_partOf_5 (by decide) (fun c7 => ?_) (fun c7 => ?_)
    · exact absurd c7 (by first | decide | exact nz_lt (by omega) | exact fun h => h (nz_ge (by omega)))
    · skip
      refine lv_bipush (v := (-2 : Int32)) hx hb dX7_partOf_8 (by decide) ?_
      rw [← hQ]
      exact W.iret (v := (-2 : Int32)) hx hb hr (fun tS htS hWS => ⟨⟨(-2 : Int32), (), rfl, (pO_no w1).symm, trivial⟩, hS.F htS⟩) hS.2.2 dX7_partOf_10
def rm_c_X7_ordered : Room := { frames := 1, cells := 0, slots := 0, locals := 25 }
set_option maxHeartbeats 400000 in
set_option maxRecDepth 100000 in
theorem c_X7_ordered (l : Launch) (D : va_G) (cI cJ cZ : ClassId) (m0 : Nat) (g1 : Nat) (g2 : Nat) (g3 : Nat) (g4 : Nat) (g5 : Nat) (g6 : Nat) (g7 : Nat) (g8 : Nat) (g9 : Nat) (g10 : Nat) (g11 : Nat) (g12 : Nat) (q : Nat) (mp : Int32) (mr : Int32) (my : Int32) (ml : Int32) (p0 : Int32) (fo : Nat → Int32) (hq : q ≤ 9) : Met l yX7_ordered wsX7_ordered rm_c_X7_ordered (pc_ D cI cJ cZ [.ref m0, .int p0] [(m0, .inr (7, [.int mp, .ref g1, .ref g2, .ref g3, .int mr, .ref g4, .int my, .ref g5, .int (nI q), .ref g6, .int ml, .ref g7, .ref g8, .ref g9, .ref g10, .ref g11, .ref g12])), (g6, .inl (cI, 9, .inl fo))]) (va_Qi (fun (r : Int32) (_ : Unit) => r = oF fo q p0) (fun _ _ => True) aN) 0 0 aN := by
  refine Met.ofW (cc := cX7_ordered) (maxL := 2) (ret := (some .int)) (by decide) rfl ?_
  intro p e s m args below meth c s₁ B hml hv
  obtain ⟨rfl, hP, hKN⟩ := hv
  have hK := hKN.1
  have hx := B.exec
  have hb := B.bytes
  have hr := B.returns
  have hts := atoms_spec (ws := wsX7_ordered) B.pre
  have hown : s.vm.findClass RX7 = some m.cls := findClass_of_methodNamed B.named
  have hlocks := B.notSynchronized
  have hiX7 : ∀ w ∈ wsX70, w ∈ wsX7_ordered := by decide +kernel
  have hf33 := hts (.fieldLink RX7 33 "LookBenchModel" "order" "[I") (by decide +kernel)
  have hf64 := hts (.fieldLink RX7 64 "LookBenchModel" "ordered" "I") (by decide +kernel)
  have hS : va_S aN s.heap s.heap [] := va_S.rf
  have hl := lv_entry ([.ref m0, .int p0]) (n := 2) (Nat.le_of_ble_eq_true rfl)
  rw [lg_entry_eq]
  generalize (lg_sl ([.ref m0, .int p0]) ++ List.replicate (2 - (lg_sl ([.ref m0, .int p0])).length) Slot.unset).toArray = ls at hl ⊢
  have hl : lv_has ls 2 [(0, .ref m0), (1, .int p0)] := hl
  generalize hQ : MQ below _ _ s _ _ _ = Q
  obtain ⟨H, hH⟩ : ∃ z, z = s.heap := ⟨_, rfl⟩
  have hP : va_P D vwCl [(m0, .inr (7, [.int mp, .ref g1, .ref g2, .ref g3, .int mr, .ref g4, .int my, .ref g5, .int (nI q), .ref g6, .int ml, .ref g7, .ref g8, .ref g9, .ref g10, .ref g11, .ref g12])), (g6, .inl (cI, 9, .inl fo))] H := by rw [hH]; exact hP
  have hS : va_S aN s.heap H [] := by rw [hH]; exact hS
  refine m_heap hH ?_
  clear hH
  refine lv_iload_n hx hb dX7_ordered_0 rfl (lv_at hl 1 rfl) ?_
  refine lv_i2l hx hb dX7_ordered_1 rfl ?_
  refine lv_lconst (v := lN 0) hx hb dX7_ordered_2 (by decide) ?_
  refine lv_aload_n hx hb dX7_ordered_3 rfl (lv_at hl 0 rfl) ?_
  refine va_get (D := D) (ci := 7) (v := .int (nI q)) (C := RX7) (T := TX7) (N := 17) hx hb hts hiX7 hown hK hP 0 rfl rfl 8 (by decide) hf64 (fun _ h9 => h9) rfl dX7_ordered_4 ?_
  refine lv_iconst (v := nI 1) hx hb dX7_ordered_7 (by decide) ?_
  refine lv_isub hx hb dX7_ordered_8 ?_
  refine cn_i (y := nI q - nI 1) (rfl) ?_
  refine lv_i2l hx hb dX7_ordered_9 rfl ?_
  refine pu_i (va_runS (As := [.long p0.toInt64, .long (lN 0), .long ((nI q - nI 1).toInt64)]) (rest := []) ⟨hx, hb, hml, hown, hts⟩ (c_X7_in l D cI cJ cZ p0.toInt64 (lN 0) ((nI q - nI 1).toInt64)) (va_cwS 3 hts gX7_ordered_X7_in rfl rfl rfl (by decide +kernel) ⟨Nat.le_of_ble_eq_true rfl, Nat.le_of_ble_eq_true rfl⟩) ⟨pc_blind, fun U hU hW => ⟨rfl, by rw [hU]; exact hP.sub (ws' := []) [] rfl, hKN.warm hW⟩⟩ rfl rfl hl.1 rfl (lv_room (Nat.le_of_ble_eq_true rfl)) dX7_ordered_10 ⟨Nat.le_of_ble_eq_true rfl, Nat.le_of_ble_eq_true rfl⟩) hS hP (fun r1 H locs w1r hP hS => ?_)
  have w1 : B01 r1 ((lN 0).toInt ≤ p0.toInt64.toInt ∧ p0.toInt64.toInt ≤ ((nI q - nI 1).toInt64).toInt) := w1r
  clear w1r
  rw [lN_toInt (n := 0) (by omega), j2 p0, j2 (nI q - nI 1), pk_sub_toInt (a := q) (b := 1) (by omega) (by omega)] at w1
  rcases w1 with ⟨rfl, w1⟩ | ⟨rfl, w1⟩
  · skip
    obtain ⟨j9, hj9, rfl⟩ := m_nat (x := p0) (n := q) (by omega)
    refine lv_if_eq (tgt := 25) hx hb dX7_ordered_13 (by decide) (fun c2 => ?_) (fun c2 => ?_)
    · exact absurd c2 (by first | decide | exact nz_lt (by omega) | exact fun h => h (nz_ge (by omega)))
    · skip
      refine lv_aload_n hx hb dX7_ordered_16 rfl (lv_at hl 0 rfl) ?_
      refine va_get (D := D) (ci := 7) (v := .ref g6) (C := RX7) (T := TX7) (N := 17) hx hb hts hiX7 hown hK hP 0 rfl rfl 9 (by decide) hf33 (fun _ h9 => h9) rfl dX7_ordered_17 ?_
      refine lv_iload_n hx hb dX7_ordered_20 rfl (lv_at hl 1 rfl) ?_
      refine va_iald hx hb hK hP 1 0 rfl rfl (i := nI j9) (vp_in_nI (by omega) (by omega)) dX7_ordered_21 ?_
      refine cn_i (y := fo j9) (congrArg fo (nI_clamp (by omega))) ?_
      refine lv_goto (tgt := 26) hx hb dX7_ordered_22 (by decide) ?_
      rw [← hQ]
      exact W.iret (v := fo j9) hx hb hr (fun tS htS hWS => ⟨⟨(fo j9), (), rfl, by first | exact (oF_in hj9 hq).symm | exact (oF_no (by omega)).symm, trivial⟩, hS.F htS⟩) hS.2.2 dX7_ordered_26
  · skip
    refine lv_if_eq (tgt := 25) hx hb dX7_ordered_13 (by decide) (fun c3 => ?_) (fun c3 => ?_)
    · skip
      refine lv_iconst (v := (-1 : Int32)) hx hb dX7_ordered_25 (by decide) ?_
      rw [← hQ]
      exact W.iret (v := (-1 : Int32)) hx hb hr (fun tS htS hWS => ⟨⟨(-1 : Int32), (), rfl, by first | exact (oF_in hj9 hq).symm | exact (oF_no (by omega)).symm, trivial⟩, hS.F htS⟩) hS.2.2 dX7_ordered_26
    · exact absurd c3 (by first | decide | exact nz_lt (by omega) | exact fun h => h (nz_ge (by omega)))
def rm_c_X7_looked : Room := { frames := 1, cells := 0, slots := 0, locals := 25 }
set_option maxHeartbeats 400000 in
set_option maxRecDepth 100000 in
theorem c_X7_looked (l : Launch) (D : va_G) (cI cJ cZ : ClassId) (m0 : Nat) (g1 : Nat) (g2 : Nat) (g3 : Nat) (g4 : Nat) (g5 : Nat) (g6 : Nat) (g7 : Nat) (g8 : Nat) (g9 : Nat) (g10 : Nat) (g11 : Nat) (g12 : Nat) (q : Nat) (mp : Int32) (mr : Int32) (my : Int32) (mo : Int32) (p0 : Int32) (fl : Nat → Int32) (hq : q ≤ 9) : Met l yX7_looked wsX7_looked rm_c_X7_looked (pc_ D cI cJ cZ [.ref m0, .int p0] [(m0, .inr (7, [.int mp, .ref g1, .ref g2, .ref g3, .int mr, .ref g4, .int my, .ref g5, .int mo, .ref g6, .int (nI q), .ref g7, .ref g8, .ref g9, .ref g10, .ref g11, .ref g12])), (g7, .inl (cI, 9, .inl fl))]) (va_Qi (fun (r : Int32) (_ : Unit) => r = oF fl q p0) (fun _ _ => True) aN) 0 0 aN := by
  refine Met.ofW (cc := cX7_looked) (maxL := 2) (ret := (some .int)) (by decide) rfl ?_
  intro p e s m args below meth c s₁ B hml hv
  obtain ⟨rfl, hP, hKN⟩ := hv
  have hK := hKN.1
  have hx := B.exec
  have hb := B.bytes
  have hr := B.returns
  have hts := atoms_spec (ws := wsX7_looked) B.pre
  have hown : s.vm.findClass RX7 = some m.cls := findClass_of_methodNamed B.named
  have hlocks := B.notSynchronized
  have hiX7 : ∀ w ∈ wsX70, w ∈ wsX7_looked := by decide +kernel
  have hf36 := hts (.fieldLink RX7 36 "LookBenchModel" "looked" "[I") (by decide +kernel)
  have hf67 := hts (.fieldLink RX7 67 "LookBenchModel" "looks" "I") (by decide +kernel)
  have hS : va_S aN s.heap s.heap [] := va_S.rf
  have hl := lv_entry ([.ref m0, .int p0]) (n := 2) (Nat.le_of_ble_eq_true rfl)
  rw [lg_entry_eq]
  generalize (lg_sl ([.ref m0, .int p0]) ++ List.replicate (2 - (lg_sl ([.ref m0, .int p0])).length) Slot.unset).toArray = ls at hl ⊢
  have hl : lv_has ls 2 [(0, .ref m0), (1, .int p0)] := hl
  generalize hQ : MQ below _ _ s _ _ _ = Q
  obtain ⟨H, hH⟩ : ∃ z, z = s.heap := ⟨_, rfl⟩
  have hP : va_P D vwCl [(m0, .inr (7, [.int mp, .ref g1, .ref g2, .ref g3, .int mr, .ref g4, .int my, .ref g5, .int mo, .ref g6, .int (nI q), .ref g7, .ref g8, .ref g9, .ref g10, .ref g11, .ref g12])), (g7, .inl (cI, 9, .inl fl))] H := by rw [hH]; exact hP
  have hS : va_S aN s.heap H [] := by rw [hH]; exact hS
  refine m_heap hH ?_
  clear hH
  refine lv_iload_n hx hb dX7_looked_0 rfl (lv_at hl 1 rfl) ?_
  refine lv_i2l hx hb dX7_looked_1 rfl ?_
  refine lv_lconst (v := lN 0) hx hb dX7_looked_2 (by decide) ?_
  refine lv_aload_n hx hb dX7_looked_3 rfl (lv_at hl 0 rfl) ?_
  refine va_get (D := D) (ci := 7) (v := .int (nI q)) (C := RX7) (T := TX7) (N := 17) hx hb hts hiX7 hown hK hP 0 rfl rfl 10 (by decide) hf67 (fun _ h9 => h9) rfl dX7_looked_4 ?_
  refine lv_iconst (v := nI 1) hx hb dX7_looked_7 (by decide) ?_
  refine lv_isub hx hb dX7_looked_8 ?_
  refine cn_i (y := nI q - nI 1) (rfl) ?_
  refine lv_i2l hx hb dX7_looked_9 rfl ?_
  refine pu_i (va_runS (As := [.long p0.toInt64, .long (lN 0), .long ((nI q - nI 1).toInt64)]) (rest := []) ⟨hx, hb, hml, hown, hts⟩ (c_X7_in l D cI cJ cZ p0.toInt64 (lN 0) ((nI q - nI 1).toInt64)) (va_cwS 3 hts gX7_looked_X7_in rfl rfl rfl (by decide +kernel) ⟨Nat.le_of_ble_eq_true rfl, Nat.le_of_ble_eq_true rfl⟩) ⟨pc_blind, fun U hU hW => ⟨rfl, by rw [hU]; exact hP.sub (ws' := []) [] rfl, hKN.warm hW⟩⟩ rfl rfl hl.1 rfl (lv_room (Nat.le_of_ble_eq_true rfl)) dX7_looked_10 ⟨Nat.le_of_ble_eq_true rfl, Nat.le_of_ble_eq_true rfl⟩) hS hP (fun r1 H locs w1r hP hS => ?_)
  have w1 : B01 r1 ((lN 0).toInt ≤ p0.toInt64.toInt ∧ p0.toInt64.toInt ≤ ((nI q - nI 1).toInt64).toInt) := w1r
  clear w1r
  rw [lN_toInt (n := 0) (by omega), j2 p0, j2 (nI q - nI 1), pk_sub_toInt (a := q) (b := 1) (by omega) (by omega)] at w1
  rcases w1 with ⟨rfl, w1⟩ | ⟨rfl, w1⟩
  · skip
    obtain ⟨j9, hj9, rfl⟩ := m_nat (x := p0) (n := q) (by omega)
    refine lv_if_eq (tgt := 25) hx hb dX7_looked_13 (by decide) (fun c2 => ?_) (fun c2 => ?_)
    · exact absurd c2 (by first | decide | exact nz_lt (by omega) | exact fun h => h (nz_ge (by omega)))
    · skip
      refine lv_aload_n hx hb dX7_looked_16 rfl (lv_at hl 0 rfl) ?_
      refine va_get (D := D) (ci := 7) (v := .ref g7) (C := RX7) (T := TX7) (N := 17) hx hb hts hiX7 hown hK hP 0 rfl rfl 11 (by decide) hf36 (fun _ h9 => h9) rfl dX7_looked_17 ?_
      refine lv_iload_n hx hb dX7_looked_20 rfl (lv_at hl 1 rfl) ?_
      refine va_iald hx hb hK hP 1 0 rfl rfl (i := nI j9) (vp_in_nI (by omega) (by omega)) dX7_looked_21 ?_
      refine cn_i (y := fl j9) (congrArg fl (nI_clamp (by omega))) ?_
      refine lv_goto (tgt := 26) hx hb dX7_looked_22 (by decide) ?_
      rw [← hQ]
      exact W.iret (v := fl j9) hx hb hr (fun tS htS hWS => ⟨⟨(fl j9), (), rfl, by first | exact (oF_in hj9 hq).symm | exact (oF_no (by omega)).symm, trivial⟩, hS.F htS⟩) hS.2.2 dX7_looked_26
  · skip
    refine lv_if_eq (tgt := 25) hx hb dX7_looked_13 (by decide) (fun c3 => ?_) (fun c3 => ?_)
    · skip
      refine lv_iconst (v := (-1 : Int32)) hx hb dX7_looked_25 (by decide) ?_
      rw [← hQ]
      exact W.iret (v := (-1 : Int32)) hx hb hr (fun tS htS hWS => ⟨⟨(-1 : Int32), (), rfl, by first | exact (oF_in hj9 hq).symm | exact (oF_no (by omega)).symm, trivial⟩, hS.F htS⟩) hS.2.2 dX7_looked_26
    · exact absurd c3 (by first | decide | exact nz_lt (by omega) | exact fun h => h (nz_ge (by omega)))
def rm_c_X7_about : Room := { frames := 0, cells := 0, slots := 0, locals := 0 }
set_option maxHeartbeats 400000 in
set_option maxRecDepth 100000 in
theorem c_X7_about (l : Launch) (D : va_G) (cI cJ cZ : ClassId) (m0 : Nat) (g1 : Nat) (g2 : Nat) (g3 : Nat) (g4 : Nat) (g5 : Nat) (g6 : Nat) (g7 : Nat) (g8 : Nat) (g9 : Nat) (g10 : Nat) (g11 : Nat) (g12 : Nat) (mp : Int32) (mr : Int32) (my : Int32) (mo : Int32) (ml : Int32) (wh : Int32)  : Met l yX7_about wsX7_about rm_c_X7_about (pc_ D cI cJ cZ [.ref m0, .int wh] [(m0, .inr (7, [.int mp, .ref g1, .ref g2, .ref g3, .int mr, .ref g4, .int my, .ref g5, .int mo, .ref g6, .int ml, .ref g7, .ref g8, .ref g9, .ref g10, .ref g11, .ref g12]))]) (va_Qi (fun (r : Int32) (_ : Unit) => r = abF mp mr my mo ml wh) (fun _ _ => True) aN) 0 0 aN := by
  refine Met.ofW (cc := cX7_about) (maxL := 2) (ret := (some .int)) (by decide) rfl ?_
  intro p e s m args below meth c s₁ B hml hv
  obtain ⟨rfl, hP, hKN⟩ := hv
  have hK := hKN.1
  have hx := B.exec
  have hb := B.bytes
  have hr := B.returns
  have hts := atoms_spec (ws := wsX7_about) B.pre
  have hown : s.vm.findClass RX7 = some m.cls := findClass_of_methodNamed B.named
  have hlocks := B.notSynchronized
  have hiX7 : ∀ w ∈ wsX70, w ∈ wsX7_about := by decide +kernel
  have hf7 := hts (.fieldLink RX7 7 "LookBenchModel" "parts" "I") (by decide +kernel)
  have hf27 := hts (.fieldLink RX7 27 "LookBenchModel" "system" "I") (by decide +kernel)
  have hf59 := hts (.fieldLink RX7 59 "LookBenchModel" "rules" "I") (by decide +kernel)
  have hf64 := hts (.fieldLink RX7 64 "LookBenchModel" "ordered" "I") (by decide +kernel)
  have hf67 := hts (.fieldLink RX7 67 "LookBenchModel" "looks" "I") (by decide +kernel)
  have hS : va_S aN s.heap s.heap [] := va_S.rf
  have hl := lv_entry ([.ref m0, .int wh]) (n := 2) (Nat.le_of_ble_eq_true rfl)
  rw [lg_entry_eq]
  generalize (lg_sl ([.ref m0, .int wh]) ++ List.replicate (2 - (lg_sl ([.ref m0, .int wh])).length) Slot.unset).toArray = ls at hl ⊢
  have hl : lv_has ls 2 [(0, .ref m0), (1, .int wh)] := hl
  generalize hQ : MQ below _ _ s _ _ _ = Q
  obtain ⟨H, hH⟩ : ∃ z, z = s.heap := ⟨_, rfl⟩
  have hP : va_P D vwCl [(m0, .inr (7, [.int mp, .ref g1, .ref g2, .ref g3, .int mr, .ref g4, .int my, .ref g5, .int mo, .ref g6, .int ml, .ref g7, .ref g8, .ref g9, .ref g10, .ref g11, .ref g12]))] H := by rw [hH]; exact hP
  have hS : va_S aN s.heap H [] := by rw [hH]; exact hS
  refine m_heap hH ?_
  clear hH
  refine lv_iload_n hx hb dX7_about_0 rfl (lv_at hl 1 rfl) ?_
  by_cases c1 : wh.toInt < (0) ∨ (4) < wh.toInt
  · refine lv_tableOut (tgt := 61) hx hb dX7_about_1 c1 (by decide) ?_
    refine lv_iconst (v := (-1 : Int32)) hx hb dX7_about_61 (by decide) ?_
    rw [← hQ]
    exact W.iret (v := (-1 : Int32)) hx hb hr (fun tS htS hWS => ⟨⟨(-1 : Int32), (), rfl, (abF_out c1).symm, trivial⟩, hS.F htS⟩) hS.2.2 dX7_about_62
  · have h1 : wh = nI 0 ∨ wh = nI 1 ∨ wh = nI 2 ∨ wh = nI 3 ∨ wh = nI 4 := m_sw_0_4 c1
    rcases h1 with e1 | e1 | e1 | e1 | e1
    · refine cn_i (y := nI 0) e1 ?_
      refine lv_tableIn (tgt := 36) (off := 35) hx hb dX7_about_1 (by decide) (by decide) (by decide) (by decide) ?_
      refine lv_aload_n hx hb dX7_about_36 rfl (lv_at hl 0 rfl) ?_
      refine va_get (D := D) (ci := 7) (v := .int mp) (C := RX7) (T := TX7) (N := 17) hx hb hts hiX7 hown hK hP 0 rfl rfl 0 (by decide) hf7 (fun _ h9 => h9) rfl dX7_about_37 ?_
      rw [← hQ]
      exact W.iret (v := mp) hx hb hr (fun tS htS hWS => ⟨⟨mp, (), rfl, by rw [e1]; rfl, trivial⟩, hS.F htS⟩) hS.2.2 dX7_about_40
    · refine cn_i (y := nI 1) e1 ?_
      refine lv_tableIn (tgt := 41) (off := 40) hx hb dX7_about_1 (by decide) (by decide) (by decide) (by decide) ?_
      refine lv_aload_n hx hb dX7_about_41 rfl (lv_at hl 0 rfl) ?_
      refine va_get (D := D) (ci := 7) (v := .int mr) (C := RX7) (T := TX7) (N := 17) hx hb hts hiX7 hown hK hP 0 rfl rfl 4 (by decide) hf59 (fun _ h9 => h9) rfl dX7_about_42 ?_
      rw [← hQ]
      exact W.iret (v := mr) hx hb hr (fun tS htS hWS => ⟨⟨mr, (), rfl, by rw [e1]; rfl, trivial⟩, hS.F htS⟩) hS.2.2 dX7_about_45
    · refine cn_i (y := nI 2) e1 ?_
      refine lv_tableIn (tgt := 46) (off := 45) hx hb dX7_about_1 (by decide) (by decide) (by decide) (by decide) ?_
      refine lv_aload_n hx hb dX7_about_46 rfl (lv_at hl 0 rfl) ?_
      refine va_get (D := D) (ci := 7) (v := .int my) (C := RX7) (T := TX7) (N := 17) hx hb hts hiX7 hown hK hP 0 rfl rfl 6 (by decide) hf27 (fun _ h9 => h9) rfl dX7_about_47 ?_
      rw [← hQ]
      exact W.iret (v := my) hx hb hr (fun tS htS hWS => ⟨⟨my, (), rfl, by rw [e1]; rfl, trivial⟩, hS.F htS⟩) hS.2.2 dX7_about_50
    · refine cn_i (y := nI 3) e1 ?_
      refine lv_tableIn (tgt := 51) (off := 50) hx hb dX7_about_1 (by decide) (by decide) (by decide) (by decide) ?_
      refine lv_aload_n hx hb dX7_about_51 rfl (lv_at hl 0 rfl) ?_
      refine va_get (D := D) (ci := 7) (v := .int mo) (C := RX7) (T := TX7) (N := 17) hx hb hts hiX7 hown hK hP 0 rfl rfl 8 (by decide) hf64 (fun _ h9 => h9) rfl dX7_about_52 ?_
      rw [← hQ]
      exact W.iret (v := mo) hx hb hr (fun tS htS hWS => ⟨⟨mo, (), rfl, by rw [e1]; rfl, trivial⟩, hS.F htS⟩) hS.2.2 dX7_about_55
    · refine cn_i (y := nI 4) e1 ?_
      refine lv_tableIn (tgt := 56) (off := 55) hx hb dX7_about_1 (by decide) (by decide) (by decide) (by decide) ?_
      refine lv_aload_n hx hb dX7_about_56 rfl (lv_at hl 0 rfl) ?_
      refine va_get (D := D) (ci := 7) (v := .int ml) (C := RX7) (T := TX7) (N := 17) hx hb hts hiX7 hown hK hP 0 rfl rfl 10 (by decide) hf67 (fun _ h9 => h9) rfl dX7_about_57 ?_
      rw [← hQ]
      exact W.iret (v := ml) hx hb hr (fun tS htS hWS => ⟨⟨ml, (), rfl, by rw [e1]; rfl, trivial⟩, hS.F htS⟩) hS.2.2 dX7_about_60
