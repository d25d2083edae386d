
/-- a is dearer than b, by products -/
def dear (fg fb fp : Nat → Int32) (sd : Int32) (a b : Nat) : Prop := ¬ (fp a * (fg a + fb a) * (if sd = 0 then fb b else fg b) ≤ fp b * (fg b + fb b) * (if sd = 0 then fb a else fg a))
def rm_c_X2_clear : Room := { frames := 0, cells := 0, slots := 0, locals := 0 }
set_option maxHeartbeats 400000 in
set_option maxRecDepth 100000 in
theorem c_X2_clear (l : Launch) (D : va_G) (cI cJ cZ : ClassId) (h0 : Nat) (r1 : Nat) (qc : Int32)  : Met l yX2_clear wsX2_clear rm_c_X2_clear (pm_ D cI cJ cZ [.ref h0] [(h0, .inr (2, [.ref r1, .int qc]))]) (va_Qv (fun (u : Unit) => True) (fun (u : Unit) tS => va_P D vwCl [(h0, .inr (2, [.ref r1, .int (nI 0)]))] tS.heap) (aA [h0])) 0 0 (aA [h0]) := by
  refine Met.ofW (cc := cX2_clear) (maxL := 1) (ret := none) (by decide) rfl ?_
  intro p e s m args below meth c s₁ B hml hv
  obtain ⟨rfl, hP, hKN, hD0⟩ := hv
  have hK := hKN.1
  have hx := B.exec
  have hb := B.bytes
  have hr := B.returns
  have hts := atoms_spec (ws := wsX2_clear) B.pre
  have hown : s.vm.findClass RX2 = some m.cls := findClass_of_methodNamed B.named
  have hlocks := B.notSynchronized
  have hiX2 : ∀ w ∈ wsX20, w ∈ wsX2_clear := by decide +kernel
  have hf15 := hts (.fieldLink RX2 15 "LookBench$Queue" "count" "I") (by decide +kernel)
  obtain ⟨as, has⟩ : ∃ z : List Nat, z = [h0] := ⟨_, rfl⟩
  have hD := hD0.addr (as := as) (by rw [has]; rfl)
  have hS : va_S (aA as) s.heap s.heap [] := va_S.rf
  have hl := lv_entry ([.ref h0]) (n := 1) (Nat.le_of_ble_eq_true rfl)
  rw [lg_entry_eq]
  generalize (lg_sl ([.ref h0]) ++ List.replicate (1 - (lg_sl ([.ref h0])).length) Slot.unset).toArray = ls at hl ⊢
  have hl : lv_has ls 1 [(0, .ref h0)] := hl
  generalize hQ : MQ below _ _ s _ _ _ = Q
  obtain ⟨H, hH⟩ : ∃ z, z = s.heap := ⟨_, rfl⟩
  have hP : va_P D vwCl [(h0, .inr (2, [.ref r1, .int qc]))] H := by rw [hH]; exact hP
  have hS : va_S (aA as) s.heap H [] := by rw [hH]; exact hS
  refine m_heap hH ?_
  clear hH
  refine lv_aload_n hx hb dX2_clear_0 rfl (lv_at hl 0 rfl) ?_
  refine lv_iconst (v := nI 0) hx hb dX2_clear_1 (by decide) ?_
  refine va_put (D := D) (ci := 2) (v := .int (nI 0)) (ty := tyX2 1) (C := RX2) (T := TX2) (N := 2) hx hb hts hiX2 tyX2 tyX2_ok nmX2 hown hK hP hD hS 0 rfl rfl 1 (by decide) hf15 (fun _ h9 => h9) rfl (by decide +kernel) rfl rfl (Nat.le_of_ble_eq_true rfl) dX2_clear_2 (fun H locs hP hD hS => ?_)
  have hP : va_P D vwCl [(h0, .inr (2, [.ref r1, .int (nI 0)]))] H := hP
  have hD : va_D (aA as) [(h0, .inr (2, [.ref r1, .int (nI 0)]))] := hD
  rw [← hQ]
  exact W.vret hx hb hr (fun tS htS hWS => ⟨⟨(), rfl, trivial, m_at htS hP⟩, by rw [← has]; exact hS.F htS⟩) (by rw [← has]; exact hS.2.2) dX2_clear_5
def rm_c_X2_holds : Room := { frames := 0, cells := 0, slots := 0, locals := 0 }
set_option maxHeartbeats 400000 in
set_option maxRecDepth 100000 in
theorem c_X2_holds (l : Launch) (D : va_G) (cI cJ cZ : ClassId) (h0 : Nat) (r1 : Nat) (q : Nat) (p0 : Int32) (fr : Nat → Int32) (hq : q ≤ 9) : Met l yX2_holds wsX2_holds rm_c_X2_holds (pc_ D cI cJ cZ [.ref h0, .int p0] [(h0, .inr (2, [.ref r1, .int (nI q)])), (r1, .inl (cI, 9, .inl fr))]) (va_Qi (fun (r : Int32) (_ : Unit) => B01 r (∃ z, z < q ∧ fr z = p0)) (fun _ _ => True) aN) 0 0 aN := by
  refine Met.ofW (cc := cX2_holds) (maxL := 3) (ret := (some .boolean)) (by decide) rfl ?_
  intro p e s m args below meth c s₁ B hml hv
  obtain ⟨rfl, hP, hKN⟩ := hv
  have hK := hKN.1
  have hx := B.exec
  have hb := B.bytes
  have hr := B.returns
  have hts := atoms_spec (ws := wsX2_holds) B.pre
  have hown : s.vm.findClass RX2 = some m.cls := findClass_of_methodNamed B.named
  have hlocks := B.notSynchronized
  have hiX2 : ∀ w ∈ wsX20, w ∈ wsX2_holds := by decide +kernel
  have hf9 := hts (.fieldLink RX2 9 "LookBench$Queue" "row" "[I") (by decide +kernel)
  have hf15 := hts (.fieldLink RX2 15 "LookBench$Queue" "count" "I") (by decide +kernel)
  have hS : va_S aN s.heap s.heap [] := va_S.rf
  have hl := lv_entry ([.ref h0, .int p0]) (n := 3) (Nat.le_of_ble_eq_true rfl)
  rw [lg_entry_eq]
  generalize (lg_sl ([.ref h0, .int p0]) ++ List.replicate (3 - (lg_sl ([.ref h0, .int p0])).length) Slot.unset).toArray = ls at hl ⊢
  have hl : lv_has ls 3 [(0, .ref h0), (1, .int p0)] := hl
  generalize hQ : MQ below _ _ s _ _ _ = Q
  obtain ⟨H, hH⟩ : ∃ z, z = s.heap := ⟨_, rfl⟩
  have hP : va_P D vwCl [(h0, .inr (2, [.ref r1, .int (nI q)])), (r1, .inl (cI, 9, .inl fr))] H := by rw [hH]; exact hP
  have hS : va_S aN s.heap H [] := by rw [hH]; exact hS
  refine m_heap hH ?_
  clear hH
  refine lv_iconst (v := nI 0) hx hb dX2_holds_0 (by decide) ?_
  refine lv_istore_n (lv' := [(2, .int (nI 0)), (0, .ref h0), (1, .int p0)]) hx hb dX2_holds_1 rfl hl (by decide) rfl (fun ls hl => ?_)
  have loop1 : ∀ (fu : Nat) (k : Nat) (H : Heap) (locs : List Loc) (ls : Array Slot), (k ≤ q ∧ q < k + fu) → (∀ z, z < k → ¬ fr z = p0) → va_P D vwCl [(h0, .inr (2, [.ref r1, .int (nI q)])), (r1, .inl (cI, 9, .inl fr))] H → va_S aN s.heap H locs → lv_has ls 3 [(2, .int (nI k)), (0, .ref h0), (1, .int p0)] → W p l e (headSpec wsX2_holds rm_c_X2_holds).room s m ([.ref h0, .int p0] : List Value).toArray below meth c H locs 0 0 Q (F0 m 2 ls []) := by
    intro fu
    induction fu with
    | zero => intro k H locs ls hk hi; exact absurd hk (by omega)
    | succ fu ih1 =>
      intro k H locs ls hk hi hP hS hl
      refine lv_iload_n hx hb dX2_holds_2 rfl (lv_at hl 0 rfl) ?_
      refine lv_aload_n hx hb dX2_holds_3 rfl (lv_at hl 1 rfl) ?_
      refine va_get (D := D) (ci := 2) (v := .int (nI q)) (C := RX2) (T := TX2) (N := 2) hx hb hts hiX2 hown hK hP 0 rfl rfl 1 (by decide) hf15 (fun _ h9 => h9) rfl dX2_holds_4 ?_
      refine lv_icmp_ge (tgt := 28) hx hb dX2_holds_7 (by decide) (fun c2 => ?_) (fun c2 => ?_)
      · skip
        have d2 := c2
        rw [nI_leI (by omega) (by omega)] at d2
        refine lv_iconst (v := nI 0) hx hb dX2_holds_28 (by decide) ?_
        rw [← hQ]
        exact W.zret (v := nI 0) hx hb hr (by first | decide | (rw [nar_b01])) (fun tS htS hWS => ⟨⟨(nI 0), (), rfl, Or.inr ⟨rfl, fun ⟨z, h1, h2⟩ => hi z (by omega) h2⟩, trivial⟩, hS.F htS⟩) hS.2.2 dX2_holds_29
      · skip
        have d2 := c2
        rw [nI_leI (by omega) (by omega)] at d2
        refine lv_aload_n hx hb dX2_holds_10 rfl (lv_at hl 1 rfl) ?_
        refine va_get (D := D) (ci := 2) (v := .ref r1) (C := RX2) (T := TX2) (N := 2) hx hb hts hiX2 hown hK hP 0 rfl rfl 0 (by decide) hf9 (fun _ h9 => h9) rfl dX2_holds_11 ?_
        refine lv_iload_n hx hb dX2_holds_14 rfl (lv_at hl 0 rfl) ?_
        refine va_iald hx hb hK hP 1 0 rfl rfl (i := nI k) (vp_in_nI (by omega) (by omega)) dX2_holds_15 ?_
        refine cn_i (y := fr k) (congrArg fr (nI_clamp (by omega))) ?_
        refine lv_iload_n hx hb dX2_holds_16 rfl (lv_at hl 2 rfl) ?_
        refine lv_icmp_ne (tgt := 22) hx hb dX2_holds_17 (by decide) (fun c3 => ?_) (fun c3 => ?_)
        · skip
          refine lv_iinc (v := nI (k + 1)) (lv' := [(2, .int (nI (k + 1))), (0, .ref h0), (1, .int p0)]) hx hb dX2_holds_22 hl (k := 0) rfl (nI_1 k) (by decide) rfl (fun ls hl => ?_)
          refine lv_goto (tgt := 2) hx hb dX2_holds_25 (by decide) ?_
          exact ih1 (k + 1) _ _ _ (by omega) (fun z hz => by rcases Nat.lt_or_ge z k with h | h; exact hi z h; exact (by have e9 : z = k := (by omega); subst e9; exact c3)) hP hS (lv_sub hl [0, 1, 2] rfl)
        · skip
          refine lv_iconst (v := nI 1) hx hb dX2_holds_20 (by decide) ?_
          rw [← hQ]
          exact W.zret (v := nI 1) hx hb hr (by first | decide | (rw [nar_b01])) (fun tS htS hWS => ⟨⟨(nI 1), (), rfl, Or.inl ⟨rfl, k, by omega, c3⟩, trivial⟩, hS.F htS⟩) hS.2.2 dX2_holds_21
  exact loop1 (q + 1) 0 _ _ _ (by omega) (fun z hz => absurd hz (by omega)) hP hS (lv_sub hl [0, 1, 2] rfl)
def rm_c_X2_append : Room := { frames := 0, cells := 0, slots := 0, locals := 0 }
set_option maxHeartbeats 400000 in
set_option maxRecDepth 100000 in
theorem c_X2_append (l : Launch) (D : va_G) (cI cJ cZ : ClassId) (h0 : Nat) (r1 : Nat) (q : Nat) (p0 : Int32) (fr : Nat → Int32) (hq : q < 9) : Met l yX2_append wsX2_append rm_c_X2_append (pm_ D cI cJ cZ [.ref h0, .int p0] [(h0, .inr (2, [.ref r1, .int (nI q)])), (r1, .inl (cI, 9, .inl fr))]) (va_Qv (fun (u : Unit) => True) (fun (u : Unit) tS => va_P D vwCl [(h0, .inr (2, [.ref r1, .int (nI (q + 1))])), (r1, .inl (cI, 9, .inl (upd fr q p0)))] tS.heap) (aA [h0, r1])) 0 0 (aA [h0, r1]) := by
  refine Met.ofW (cc := cX2_append) (maxL := 2) (ret := none) (by decide) rfl ?_
  intro p e s m args below meth c s₁ B hml hv
  obtain ⟨rfl, hP, hKN, hD0⟩ := hv
  have hK := hKN.1
  have hx := B.exec
  have hb := B.bytes
  have hr := B.returns
  have hts := atoms_spec (ws := wsX2_append) B.pre
  have hown : s.vm.findClass RX2 = some m.cls := findClass_of_methodNamed B.named
  have hlocks := B.notSynchronized
  have hiX2 : ∀ w ∈ wsX20, w ∈ wsX2_append := by decide +kernel
  have hf9 := hts (.fieldLink RX2 9 "LookBench$Queue" "row" "[I") (by decide +kernel)
  have hf15 := hts (.fieldLink RX2 15 "LookBench$Queue" "count" "I") (by decide +kernel)
  obtain ⟨as, has⟩ : ∃ z : List Nat, z = [h0, r1] := ⟨_, rfl⟩
  have hD := hD0.addr (as := as) (by rw [has]; rfl)
  have hS : va_S (aA as) s.heap s.heap [] := va_S.rf
  have hl := lv_entry ([.ref h0, .int p0]) (n := 2) (Nat.le_of_ble_eq_true rfl)
  rw [lg_entry_eq]
  generalize (lg_sl ([.ref h0, .int p0]) ++ List.replicate (2 - (lg_sl ([.ref h0, .int p0])).length) Slot.unset).toArray = ls at hl ⊢
  have hl : lv_has ls 2 [(0, .ref h0), (1, .int p0)] := hl
  generalize hQ : MQ below _ _ s _ _ _ = Q
  obtain ⟨H, hH⟩ : ∃ z, z = s.heap := ⟨_, rfl⟩
  have hP : va_P D vwCl [(h0, .inr (2, [.ref r1, .int (nI q)])), (r1, .inl (cI, 9, .inl fr))] H := by rw [hH]; exact hP
  have hS : va_S (aA as) s.heap H [] := by rw [hH]; exact hS
  refine m_heap hH ?_
  clear hH
  refine lv_aload_n hx hb dX2_append_0 rfl (lv_at hl 0 rfl) ?_
  refine va_get (D := D) (ci := 2) (v := .int (nI q)) (C := RX2) (T := TX2) (N := 2) hx hb hts hiX2 hown hK hP 0 rfl rfl 1 (by decide) hf15 (fun _ h9 => h9) rfl dX2_append_1 ?_
  refine lv_bipush (v := nI 9) hx hb dX2_append_4 (by decide) ?_
  refine lv_icmp_ge (tgt := 26) hx hb dX2_append_6 (by decide) (fun c1 => ?_) (fun c1 => ?_)
  · skip
    have d1 := c1
    rw [nI_leI (by omega) (by omega)] at d1
    exact absurd d1 (by omega)
  · skip
    have d1 := c1
    rw [nI_leI (by omega) (by omega)] at d1
    refine lv_aload_n hx hb dX2_append_9 rfl (lv_at hl 0 rfl) ?_
    refine va_get (D := D) (ci := 2) (v := .ref r1) (C := RX2) (T := TX2) (N := 2) hx hb hts hiX2 hown hK hP 0 rfl rfl 0 (by decide) hf9 (fun _ h9 => h9) rfl dX2_append_10 ?_
    refine lv_aload_n hx hb dX2_append_13 rfl (lv_at hl 0 rfl) ?_
    refine lv_dup hx hb dX2_append_14 rfl ?_
    refine va_get (D := D) (ci := 2) (v := .int (nI q)) (C := RX2) (T := TX2) (N := 2) hx hb hts hiX2 hown hK hP 0 rfl rfl 1 (by decide) hf15 (fun _ h9 => h9) rfl dX2_append_15 ?_
    refine lv_dup_x1 hx hb dX2_append_18 rfl rfl ?_
    refine lv_iconst (v := nI 1) hx hb dX2_append_19 (by decide) ?_
    refine lv_iadd hx hb dX2_append_20 ?_
    refine cn_i (y := nI (q + 1)) (nI_add q 1) ?_
    refine va_put (D := D) (ci := 2) (v := .int (nI (q + 1))) (ty := tyX2 1) (C := RX2) (T := TX2) (N := 2) hx hb hts hiX2 tyX2 tyX2_ok nmX2 hown hK hP hD hS 0 rfl rfl 1 (by decide) hf15 (fun _ h9 => h9) rfl (by decide +kernel) rfl rfl (Nat.le_of_ble_eq_true rfl) dX2_append_21 (fun H locs hP hD hS => ?_)
    have hP : va_P D vwCl [(h0, .inr (2, [.ref r1, .int (nI (q + 1))])), (r1, .inl (cI, 9, .inl fr))] H := hP
    have hD : va_D (aA as) [(h0, .inr (2, [.ref r1, .int (nI (q + 1))])), (r1, .inl (cI, 9, .inl fr))] := hD
    refine lv_iload_n hx hb dX2_append_24 rfl (lv_at hl 1 rfl) ?_
    refine va_iast hx hb hK hP hD hS 1 0 rfl rfl (i := nI q) (vp_in_nI (by omega) (by omega)) dX2_append_25 (fun H locs hP hD hS => ?_)
    have hP : va_P D vwCl [(h0, .inr (2, [.ref r1, .int (nI (q + 1))])), (r1, .inl (cI, 9, .inl (upd fr (nI q).toNatClampNeg p0)))] H := hP
    have hD : va_D (aA as) [(h0, .inr (2, [.ref r1, .int (nI (q + 1))])), (r1, .inl (cI, 9, .inl (upd fr (nI q).toNatClampNeg p0)))] := hD
    rw [nI_clamp (n := q) (by omega)] at hP hD
    rw [← hQ]
    exact W.vret hx hb hr (fun tS htS hWS => ⟨⟨(), rfl, trivial, m_at htS hP⟩, by rw [← has]; exact hS.F htS⟩) (by rw [← has]; exact hS.2.2) dX2_append_26
def rm_c_X2_isDearer : Room := { frames := 0, cells := 0, slots := 0, locals := 0 }
set_option maxHeartbeats 400000 in
set_option maxRecDepth 100000 in
theorem c_X2_isDearer (l : Launch) (D : va_G) (cI cJ cZ : ClassId) (h0 : Nat) (a1 : Nat) (a2 : Nat) (a3 : Nat) (a : Nat) (b : Nat) (cn : Int32) (sn : Int32) (sg : Int32) (sd : Int32) (fg : Nat → Int32) (fb : Nat → Int32) (fp : Nat → Int32) (ha : a < 9) (hb0 : b < 9) : Met l yX2_isDearer wsX2_isDearer rm_c_X2_isDearer (pc_ D cI cJ cZ [.ref h0, .int sd, .int (nI a), .int (nI b)] [(h0, .inr (4, [.ref a1, .ref a2, .ref a3, .int cn, .int sn, .int sg])), (a1, .inl (cI, 9, .inl fg)), (a2, .inl (cI, 9, .inl fb)), (a3, .inl (cI, 9, .inl fp))]) (va_Qi (fun (r : Int32) (_ : Unit) => B01 r (dear fg fb fp sd a b)) (fun _ _ => True) aN) 0 0 aN := by
  refine Met.ofW (cc := cX2_isDearer) (maxL := 7) (ret := (some .boolean)) (by decide) rfl ?_
  intro p e s m args below meth c s₁ B hml hv
  obtain ⟨rfl, hP, hKN⟩ := hv
  have hK := hKN.1
  have hx := B.exec
  have hb := B.bytes
  have hr := B.returns
  have hts := atoms_spec (ws := wsX2_isDearer) B.pre
  have hown : s.vm.findClass RX2 = some m.cls := findClass_of_methodNamed B.named
  have hlocks := B.notSynchronized
  have hiX4 : ∀ w ∈ wsX40, w ∈ wsX2_isDearer := by decide +kernel
  have hf26 := va_Nw.use (A := [.ref h0, .int sd, .int (nI a), .int (nI b)].toArray) rfl (hKN.2 (.fieldLinkNest RX2 26 RX4 "goods" "[I" RX6) (by decide +kernel))
  have hf29 := va_Nw.use (A := [.ref h0, .int sd, .int (nI a), .int (nI b)].toArray) rfl (hKN.2 (.fieldLinkNest RX2 29 RX4 "bads" "[I" RX6) (by decide +kernel))
  have hf32 := va_Nw.use (A := [.ref h0, .int sd, .int (nI a), .int (nI b)].toArray) rfl (hKN.2 (.fieldLinkNest RX2 32 RX4 "prices" "[I" RX6) (by decide +kernel))
  have hS : va_S aN s.heap s.heap [] := va_S.rf
  have hl := lv_entry ([.ref h0, .int sd, .int (nI a), .int (nI b)]) (n := 7) (Nat.le_of_ble_eq_true rfl)
  rw [lg_entry_eq]
  generalize (lg_sl ([.ref h0, .int sd, .int (nI a), .int (nI b)]) ++ List.replicate (7 - (lg_sl ([.ref h0, .int sd, .int (nI a), .int (nI b)])).length) Slot.unset).toArray = ls at hl ⊢
  have hl : lv_has ls 7 [(0, .ref h0), (1, .int sd), (2, .int (nI a)), (3, .int (nI b))] := hl
  generalize hQ : MQ below _ _ s _ _ _ = Q
  obtain ⟨H, hH⟩ : ∃ z, z = s.heap := ⟨_, rfl⟩
  have hP : va_P D vwCl [(h0, .inr (4, [.ref a1, .ref a2, .ref a3, .int cn, .int sn, .int sg])), (a1, .inl (cI, 9, .inl fg)), (a2, .inl (cI, 9, .inl fb)), (a3, .inl (cI, 9, .inl fp))] H := by rw [hH]; exact hP
  have hS : va_S aN s.heap H [] := by rw [hH]; exact hS
  refine m_heap hH ?_
  clear hH
  refine lv_iload_n hx hb dX2_isDearer_0 rfl (lv_at hl 1 rfl) ?_
  refine lv_if_eq (tgt := 11) hx hb dX2_isDearer_1 (by decide) (fun c1 => ?_) (fun c1 => ?_)
  · skip
    refine lv_aload_n hx hb dX2_isDearer_11 rfl (lv_at hl 0 rfl) ?_
    refine va_getN (D := D) (ci := 4) (v := .ref a2) (C := RX4) (T := TX4) (N := 6) hx hb hts hiX4 hown hK hP 0 rfl rfl 1 (by decide) hf29 (fun _ h9 => h9) rfl dX2_isDearer_12 ?_
    refine lv_astore (lv' := [(4, .ref a2), (0, .ref h0), (1, .int sd), (2, .int (nI a)), (3, .int (nI b))]) hx hb dX2_isDearer_15 hl (by decide) rfl (fun ls hl => ?_)
    refine lv_aload_n hx hb dX2_isDearer_17 rfl (lv_at hl 1 rfl) ?_
    refine va_getN (D := D) (ci := 4) (v := .ref a3) (C := RX4) (T := TX4) (N := 6) hx hb hts hiX4 hown hK hP 0 rfl rfl 2 (by decide) hf32 (fun _ h9 => h9) rfl dX2_isDearer_18 ?_
    refine lv_iload_n hx hb dX2_isDearer_21 rfl (lv_at hl 3 rfl) ?_
    refine va_iald hx hb hK hP 3 0 rfl rfl (i := nI a) (vp_in_nI (by omega) (by omega)) dX2_isDearer_22 ?_
    refine cn_i (y := fp a) (congrArg fp (nI_clamp (by omega))) ?_
    refine lv_aload_n hx hb dX2_isDearer_23 rfl (lv_at hl 1 rfl) ?_
    refine va_getN (D := D) (ci := 4) (v := .ref a1) (C := RX4) (T := TX4) (N := 6) hx hb hts hiX4 hown hK hP 0 rfl rfl 0 (by decide) hf26 (fun _ h9 => h9) rfl dX2_isDearer_24 ?_
    refine lv_iload_n hx hb dX2_isDearer_27 rfl (lv_at hl 3 rfl) ?_
    refine va_iald hx hb hK hP 1 0 rfl rfl (i := nI a) (vp_in_nI (by omega) (by omega)) dX2_isDearer_28 ?_
    refine cn_i (y := fg a) (congrArg fg (nI_clamp (by omega))) ?_
    refine lv_aload_n hx hb dX2_isDearer_29 rfl (lv_at hl 1 rfl) ?_
    refine va_getN (D := D) (ci := 4) (v := .ref a2) (C := RX4) (T := TX4) (N := 6) hx hb hts hiX4 hown hK hP 0 rfl rfl 1 (by decide) hf29 (fun _ h9 => h9) rfl dX2_isDearer_30 ?_
    refine lv_iload_n hx hb dX2_isDearer_33 rfl (lv_at hl 3 rfl) ?_
    refine va_iald hx hb hK hP 2 0 rfl rfl (i := nI a) (vp_in_nI (by omega) (by omega)) dX2_isDearer_34 ?_
    refine cn_i (y := fb a) (congrArg fb (nI_clamp (by omega))) ?_
    refine lv_iadd hx hb dX2_isDearer_35 ?_
    refine lv_imul hx hb dX2_isDearer_36 ?_
    refine lv_aload hx hb dX2_isDearer_37 (lv_at hl 0 rfl) ?_
    refine lv_iload_n hx hb dX2_isDearer_39 rfl (lv_at hl 4 rfl) ?_
    refine va_iald hx hb hK hP 2 0 rfl rfl (i := nI b) (vp_in_nI (by omega) (by omega)) dX2_isDearer_40 ?_
    refine cn_i (y := fb b) (congrArg fb (nI_clamp (by omega))) ?_
    refine lv_imul hx hb dX2_isDearer_41 ?_
    refine lv_istore (lv' := [(5, .int (((fp a) * ((fg a) + (fb a))) * (fb b))), (4, .ref a2), (0, .ref h0), (1, .int sd), (2, .int (nI a)), (3, .int (nI b))]) hx hb dX2_isDearer_42 hl (by decide) rfl (fun ls hl => ?_)
    refine lv_aload_n hx hb dX2_isDearer_44 rfl (lv_at hl 2 rfl) ?_
    refine va_getN (D := D) (ci := 4) (v := .ref a3) (C := RX4) (T := TX4) (N := 6) hx hb hts hiX4 hown hK hP 0 rfl rfl 2 (by decide) hf32 (fun _ h9 => h9) rfl dX2_isDearer_45 ?_
    refine lv_iload_n hx hb dX2_isDearer_48 rfl (lv_at hl 5 rfl) ?_
    refine va_iald hx hb hK hP 3 0 rfl rfl (i := nI b) (vp_in_nI (by omega) (by omega)) dX2_isDearer_49 ?_
    refine cn_i (y := fp b) (congrArg fp (nI_clamp (by omega))) ?_
    refine lv_aload_n hx hb dX2_isDearer_50 rfl (lv_at hl 2 rfl) ?_
    refine va_getN (D := D) (ci := 4) (v := .ref a1) (C := RX4) (T := TX4) (N := 6) hx hb hts hiX4 hown hK hP 0 rfl rfl 0 (by decide) hf26 (fun _ h9 => h9) rfl dX2_isDearer_51 ?_
    refine lv_iload_n hx hb dX2_isDearer_54 rfl (lv_at hl 5 rfl) ?_
    refine va_iald hx hb hK hP 1 0 rfl rfl (i := nI b) (vp_in_nI (by omega) (by omega)) dX2_isDearer_55 ?_
    refine cn_i (y := fg b) (congrArg fg (nI_clamp (by omega))) ?_
    refine lv_aload_n hx hb dX2_isDearer_56 rfl (lv_at hl 2 rfl) ?_
    refine va_getN (D := D) (ci := 4) (v := .ref a2) (C := RX4) (T := TX4) (N := 6) hx hb hts hiX4 hown hK hP 0 rfl rfl 1 (by decide) hf29 (fun _ h9 => h9) rfl dX2_isDearer_57 ?_
    refine lv_iload_n hx hb dX2_isDearer_60 rfl (lv_at hl 5 rfl) ?_
    refine va_iald hx hb hK hP 2 0 rfl rfl (i := nI b) (vp_in_nI (by omega) (by omega)) dX2_isDearer_61 ?_
    refine cn_i (y := fb b) (congrArg fb (nI_clamp (by omega))) ?_
    refine lv_iadd hx hb dX2_isDearer_62 ?_
    refine lv_imul hx hb dX2_isDearer_63 ?_
    refine lv_aload hx hb dX2_isDearer_64 (lv_at hl 1 rfl) ?_
    refine lv_iload_n hx hb dX2_isDearer_66 rfl (lv_at hl 4 rfl) ?_
    refine va_iald hx hb hK hP 2 0 rfl rfl (i := nI a) (vp_in_nI (by omega) (by omega)) dX2_isDearer_67 ?_
    refine cn_i (y := fb a) (congrArg fb (nI_clamp (by omega))) ?_
    refine lv_imul hx hb dX2_isDearer_68 ?_
    refine lv_istore (lv' := [(6, .int (((fp b) * ((fg b) + (fb b))) * (fb a))), (5, .int (((fp a) * ((fg a) + (fb a))) * (fb b))), (4, .ref a2), (0, .ref h0), (1, .int sd), (2, .int (nI a)), (3, .int (nI b))]) hx hb dX2_isDearer_69 hl (by decide) rfl (fun ls hl => ?_)
    refine lv_iload hx hb dX2_isDearer_71 (lv_at hl 1 rfl) ?_
    refine lv_iload hx hb dX2_isDearer_73 (lv_at hl 0 rfl) ?_
    refine lv_icmp_le (tgt := 82) hx hb dX2_isDearer_75 (by decide) (fun c2 => ?_) (fun c2 => ?_)
    · skip
      refine lv_iconst (v := nI 0) hx hb dX2_isDearer_82 (by decide) ?_
      rw [← hQ]
      exact W.zret (v := nI 0) hx hb hr (by first | decide | (rw [nar_b01])) (fun tS htS hWS => ⟨⟨(nI 0), (), rfl, Or.inr ⟨rfl, by first | (simp only [dear, if_pos c1]; first | exact c2 | exact fun h => h c2) | (simp only [dear, if_neg c1]; first | exact c2 | exact fun h => h c2) | (simp only [dear, if_pos c1]; first | exact c3 | exact fun h => h c3) | (simp only [dear, if_neg c1]; first | exact c3 | exact fun h => h c3)⟩, trivial⟩, hS.F htS⟩) hS.2.2 dX2_isDearer_83
    · skip
      refine lv_iconst (v := nI 1) hx hb dX2_isDearer_78 (by decide) ?_
      refine lv_goto (tgt := 83) hx hb dX2_isDearer_79 (by decide) ?_
      rw [← hQ]
      exact W.zret (v := nI 1) hx hb hr (by first | decide | (rw [nar_b01])) (fun tS htS hWS => ⟨⟨(nI 1), (), rfl, Or.inl ⟨rfl, by first | (simp only [dear, if_pos c1]; first | exact c2 | exact fun h => h c2) | (simp only [dear, if_neg c1]; first | exact c2 | exact fun h => h c2) | (simp only [dear, if_pos c1]; first | exact c3 | exact fun h => h c3) | (simp only [dear, if_neg c1]; first | exact c3 | exact fun h => h c3)⟩, trivial⟩, hS.F htS⟩) hS.2.2 dX2_isDearer_83
  · skip
    refine lv_aload_n hx hb dX2_isDearer_4 rfl (lv_at hl 0 rfl) ?_
    refine va_getN (D := D) (ci := 4) (v := .ref a1) (C := RX4) (T := TX4) (N := 6) hx hb hts hiX4 hown hK hP 0 rfl rfl 0 (by decide) hf26 (fun _ h9 => h9) rfl dX2_isDearer_5 ?_
    refine lv_goto (tgt := 15) hx hb dX2_isDearer_8 (by decide) ?_
    refine lv_astore (lv' := [(4, .ref a1), (0, .ref h0), (1, .int sd), (2, .int (nI a)), (3, .int (nI b))]) hx hb dX2_isDearer_15 hl (by decide) rfl (fun ls hl => ?_)
    refine lv_aload_n hx hb dX2_isDearer_17 rfl (lv_at hl 1 rfl) ?_
    refine va_getN (D := D) (ci := 4) (v := .ref a3) (C := RX4) (T := TX4) (N := 6) hx hb hts hiX4 hown hK hP 0 rfl rfl 2 (by decide) hf32 (fun _ h9 => h9) rfl dX2_isDearer_18 ?_
    refine lv_iload_n hx hb dX2_isDearer_21 rfl (lv_at hl 3 rfl) ?_
    refine va_iald hx hb hK hP 3 0 rfl rfl (i := nI a) (vp_in_nI (by omega) (by omega)) dX2_isDearer_22 ?_
    refine cn_i (y := fp a) (congrArg fp (nI_clamp (by omega))) ?_
    refine lv_aload_n hx hb dX2_isDearer_23 rfl (lv_at hl 1 rfl) ?_
    refine va_getN (D := D) (ci := 4) (v := .ref a1) (C := RX4) (T := TX4) (N := 6) hx hb hts hiX4 hown hK hP 0 rfl rfl 0 (by decide) hf26 (fun _ h9 => h9) rfl dX2_isDearer_24 ?_
    refine lv_iload_n hx hb dX2_isDearer_27 rfl (lv_at hl 3 rfl) ?_
    refine va_iald hx hb hK hP 1 0 rfl rfl (i := nI a) (vp_in_nI (by omega) (by omega)) dX2_isDearer_28 ?_
    refine cn_i (y := fg a) (congrArg fg (nI_clamp (by omega))) ?_
    refine lv_aload_n hx hb dX2_isDearer_29 rfl (lv_at hl 1 rfl) ?_
    refine va_getN (D := D) (ci := 4) (v := .ref a2) (C := RX4) (T := TX4) (N := 6) hx hb hts hiX4 hown hK hP 0 rfl rfl 1 (by decide) hf29 (fun _ h9 => h9) rfl dX2_isDearer_30 ?_
    refine lv_iload_n hx hb dX2_isDearer_33 rfl (lv_at hl 3 rfl) ?_
    refine va_iald hx hb hK hP 2 0 rfl rfl (i := nI a) (vp_in_nI (by omega) (by omega)) dX2_isDearer_34 ?_
    refine cn_i (y := fb a) (congrArg fb (nI_clamp (by omega))) ?_
    refine lv_iadd hx hb dX2_isDearer_35 ?_
    refine lv_imul hx hb dX2_isDearer_36 ?_
    refine lv_aload hx hb dX2_isDearer_37 (lv_at hl 0 rfl) ?_
    refine lv_iload_n hx hb dX2_isDearer_39 rfl (lv_at hl 4 rfl) ?_
    refine va_iald hx hb hK hP 1 0 rfl rfl (i := nI b) (vp_in_nI (by omega) (by omega)) dX2_isDearer_40 ?_
    refine cn_i (y := fg b) (congrArg fg (nI_clamp (by omega))) ?_
    refine lv_imul hx hb dX2_isDearer_41 ?_
    refine lv_istore (lv' := [(5, .int (((fp a) * ((fg a) + (fb a))) * (fg b))), (4, .ref a1), (0, .ref h0), (1, .int sd), (2, .int (nI a)), (3, .int (nI b))]) hx hb dX2_isDearer_42 hl (by decide) rfl (fun ls hl => ?_)
    refine lv_aload_n hx hb dX2_isDearer_44 rfl (lv_at hl 2 rfl) ?_
    refine va_getN (D := D) (ci := 4) (v := .ref a3) (C := RX4) (T := TX4) (N := 6) hx hb hts hiX4 hown hK hP 0 rfl rfl 2 (by decide) hf32 (fun _ h9 => h9) rfl dX2_isDearer_45 ?_
    refine lv_iload_n hx hb dX2_isDearer_48 rfl (lv_at hl 5 rfl) ?_
    refine va_iald hx hb hK hP 3 0 rfl rfl (i := nI b) (vp_in_nI (by omega) (by omega)) dX2_isDearer_49 ?_
    refine cn_i (y := fp b) (congrArg fp (nI_clamp (by omega))) ?_
    refine lv_aload_n hx hb dX2_isDearer_50 rfl (lv_at hl 2 rfl) ?_
    refine va_getN (D := D) (ci := 4) (v := .ref a1) (C := RX4) (T := TX4) (N := 6) hx hb hts hiX4 hown hK hP 0 rfl rfl 0 (by decide) hf26 (fun _ h9 => h9) rfl dX2_isDearer_51 ?_
    refine lv_iload_n hx hb dX2_isDearer_54 rfl (lv_at hl 5 rfl) ?_
    refine va_iald hx hb hK hP 1 0 rfl rfl (i := nI b) (vp_in_nI (by omega) (by omega)) dX2_isDearer_55 ?_
    refine cn_i (y := fg b) (congrArg fg (nI_clamp (by omega))) ?_
    refine lv_aload_n hx hb dX2_isDearer_56 rfl (lv_at hl 2 rfl) ?_
    refine va_getN (D := D) (ci := 4) (v := .ref a2) (C := RX4) (T := TX4) (N := 6) hx hb hts hiX4 hown hK hP 0 rfl rfl 1 (by decide) hf29 (fun _ h9 => h9) rfl dX2_isDearer_57 ?_
    refine lv_iload_n hx hb dX2_isDearer_60 rfl (lv_at hl 5 rfl) ?_
    refine va_iald hx hb hK hP 2 0 rfl rfl (i := nI b) (vp_in_nI (by omega) (by omega)) dX2_isDearer_61 ?_
    refine cn_i (y := fb b) (congrArg fb (nI_clamp (by omega))) ?_
    refine lv_iadd hx hb dX2_isDearer_62 ?_
    refine lv_imul hx hb dX2_isDearer_63 ?_
    refine lv_aload hx hb dX2_isDearer_64 (lv_at hl 1 rfl) ?_
    refine lv_iload_n hx hb dX2_isDearer_66 rfl (lv_at hl 4 rfl) ?_
    refine va_iald hx hb hK hP 1 0 rfl rfl (i := nI a) (vp_in_nI (by omega) (by omega)) dX2_isDearer_67 ?_
    refine cn_i (y := fg a) (congrArg fg (nI_clamp (by omega))) ?_
    refine lv_imul hx hb dX2_isDearer_68 ?_
    refine lv_istore (lv' := [(6, .int (((fp b) * ((fg b) + (fb b))) * (fg a))), (5, .int (((fp a) * ((fg a) + (fb a))) * (fg b))), (4, .ref a1), (0, .ref h0), (1, .int sd), (2, .int (nI a)), (3, .int (nI b))]) hx hb dX2_isDearer_69 hl (by decide) rfl (fun ls hl => ?_)
    refine lv_iload hx hb dX2_isDearer_71 (lv_at hl 1 rfl) ?_
    refine lv_iload hx hb dX2_isDearer_73 (lv_at hl 0 rfl) ?_
    refine lv_icmp_le (tgt := 82) hx hb dX2_isDearer_75 (by decide) (fun c3 => ?_) (fun c3 => ?_)
    · skip
      refine lv_iconst (v := nI 0) hx hb dX2_isDearer_82 (by decide) ?_
      rw [← hQ]
      exact W.zret (v := nI 0) hx hb hr (by first | decide | (rw [nar_b01])) (fun tS htS hWS => ⟨⟨(nI 0), (), rfl, Or.inr ⟨rfl, by first | (simp only [dear, if_pos c1]; first | exact c2 | exact fun h => h c2) | (simp only [dear, if_neg c1]; first | exact c2 | exact fun h => h c2) | (simp only [dear, if_pos c1]; first | exact c3 | exact fun h => h c3) | (simp only [dear, if_neg c1]; first | exact c3 | exact fun h => h c3)⟩, trivial⟩, hS.F htS⟩) hS.2.2 dX2_isDearer_83
    · skip
      refine lv_iconst (v := nI 1) hx hb dX2_isDearer_78 (by decide) ?_
      refine lv_goto (tgt := 83) hx hb dX2_isDearer_79 (by decide) ?_
      rw [← hQ]
      exact W.zret (v := nI 1) hx hb hr (by first | decide | (rw [nar_b01])) (fun tS htS hWS => ⟨⟨(nI 1), (), rfl, Or.inl ⟨rfl, by first | (simp only [dear, if_pos c1]; first | exact c2 | exact fun h => h c2) | (simp only [dear, if_neg c1]; first | exact c2 | exact fun h => h c2) | (simp only [dear, if_pos c1]; first | exact c3 | exact fun h => h c3) | (simp only [dear, if_neg c1]; first | exact c3 | exact fun h => h c3)⟩, trivial⟩, hS.F htS⟩) hS.2.2 dX2_isDearer_83
def rm_c_X2_fillByRatios : Room := { frames := 1, cells := 0, slots := 0, locals := 26 }
set_option maxHeartbeats 400000 in
set_option maxRecDepth 100000 in
theorem c_X2_fillByRatios (l : Launch) (D : va_G) (cI cJ cZ : ClassId) (h0 : Nat) (r1 : Nat) (h4 : Nat) (a1 : Nat) (a2 : Nat) (a3 : Nat) (n : Nat) (qc : Int32) (sn : Int32) (sg : Int32) (sd : Int32) (fr : Nat → Int32) (fg : Nat → Int32) (fb : Nat → Int32) (fp : Nat → Int32) (hn : n ≤ 9) : Met l yX2_fillByRatios wsX2_fillByRatios rm_c_X2_fillByRatios (pm_ D cI cJ cZ [.ref h0, .ref h4, .int sd] [(h0, .inr (2, [.ref r1, .int qc])), (r1, .inl (cI, 9, .inl fr)), (h4, .inr (4, [.ref a1, .ref a2, .ref a3, .int (nI n), .int sn, .int sg])), (a1, .inl (cI, 9, .inl fg)), (a2, .inl (cI, 9, .inl fb)), (a3, .inl (cI, 9, .inl fp))]) (va_Qv (fun (u : (Nat → Int32)) => ∀ z, z < n → ∃ y, y < n ∧ u z = nI y) (fun (u : (Nat → Int32)) tS => va_P D vwCl [(h0, .inr (2, [.ref r1, .int (nI n)])), (r1, .inl (cI, 9, .inl u)), (h4, .inr (4, [.ref a1, .ref a2, .ref a3, .int (nI n), .int sn, .int sg])), (a1, .inl (cI, 9, .inl fg)), (a2, .inl (cI, 9, .inl fb)), (a3, .inl (cI, 9, .inl fp))] tS.heap) (aA [h0, r1, h4, a1, a2, a3])) 0 0 (aA [h0, r1, h4, a1, a2, a3]) := by
  refine Met.ofW (cc := cX2_fillByRatios) (maxL := 5) (ret := none) (by decide) rfl ?_
  intro p e s m args below meth c s₁ B hml hv
  obtain ⟨rfl, hP, hKN, hD0⟩ := hv
  have hK := hKN.1
  have hx := B.exec
  have hb := B.bytes
  have hr := B.returns
  have hts := atoms_spec (ws := wsX2_fillByRatios) B.pre
  have hown : s.vm.findClass RX2 = some m.cls := findClass_of_methodNamed B.named
  have hlocks := B.notSynchronized
  have hiX2 : ∀ w ∈ wsX20, w ∈ wsX2_fillByRatios := by decide +kernel
  have hiX4 : ∀ w ∈ wsX40, w ∈ wsX2_fillByRatios := by decide +kernel
  have hf9 := hts (.fieldLink RX2 9 "LookBench$Queue" "row" "[I") (by decide +kernel)
  have hf15 := hts (.fieldLink RX2 15 "LookBench$Queue" "count" "I") (by decide +kernel)
  have hf19 := va_Nw.use (A := [.ref h0, .ref h4, .int sd].toArray) rfl (hKN.2 (.fieldLinkNest RX2 19 RX4 "count" "I" RX6) (by decide +kernel))
  obtain ⟨as, has⟩ : ∃ z : List Nat, z = [h0, r1, h4, a1, a2, a3] := ⟨_, rfl⟩
  have hD := hD0.addr (as := as) (by rw [has]; rfl)
  have hS : va_S (aA as) s.heap s.heap [] := va_S.rf
  have hl := lv_entry ([.ref h0, .ref h4, .int sd]) (n := 5) (Nat.le_of_ble_eq_true rfl)
  rw [lg_entry_eq]
  generalize (lg_sl ([.ref h0, .ref h4, .int sd]) ++ List.replicate (5 - (lg_sl ([.ref h0, .ref h4, .int sd])).length) Slot.unset).toArray = ls at hl ⊢
  have hl : lv_has ls 5 [(0, .ref h0), (1, .ref h4), (2, .int sd)] := hl
  generalize hQ : MQ below _ _ s _ _ _ = Q
  obtain ⟨H, hH⟩ : ∃ z, z = s.heap := ⟨_, rfl⟩
  have hP : va_P D vwCl [(h0, .inr (2, [.ref r1, .int qc])), (r1, .inl (cI, 9, .inl fr)), (h4, .inr (4, [.ref a1, .ref a2, .ref a3, .int (nI n), .int sn, .int sg])), (a1, .inl (cI, 9, .inl fg)), (a2, .inl (cI, 9, .inl fb)), (a3, .inl (cI, 9, .inl fp))] H := by rw [hH]; exact hP
  have hS : va_S (aA as) s.heap H [] := by rw [hH]; exact hS
  refine m_heap hH ?_
  clear hH
  refine lv_iconst (v := nI 0) hx hb dX2_fillByRatios_0 (by decide) ?_
  refine lv_istore_n (lv' := [(3, .int (nI 0)), (0, .ref h0), (1, .ref h4), (2, .int sd)]) hx hb dX2_fillByRatios_1 rfl hl (by decide) rfl (fun ls hl => ?_)
  have loop1 : ∀ (fu : Nat) (k : Nat) (ur : Nat → Int32) (H : Heap) (locs : List Loc) (ls : Array Slot), (k ≤ n ∧ n < k + fu) → (∀ z, z < k → ∃ y, y < k ∧ ur z = nI y) → va_P D vwCl [(h0, .inr (2, [.ref r1, .int qc])), (r1, .inl (cI, 9, .inl ur)), (h4, .inr (4, [.ref a1, .ref a2, .ref a3, .int (nI n), .int sn, .int sg])), (a1, .inl (cI, 9, .inl fg)), (a2, .inl (cI, 9, .inl fb)), (a3, .inl (cI, 9, .inl fp))] H → va_D (aA as) [(h0, .inr (2, [.ref r1, .int qc])), (r1, .inl (cI, 9, .inl ur)), (h4, .inr (4, [.ref a1, .ref a2, .ref a3, .int (nI n), .int sn, .int sg])), (a1, .inl (cI, 9, .inl fg)), (a2, .inl (cI, 9, .inl fb)), (a3, .inl (cI, 9, .inl fp))] → va_S (aA as) s.heap H locs → lv_has ls 5 [(3, .int (nI k)), (0, .ref h0), (1, .ref h4), (2, .int sd)] → W p l e (headSpec wsX2_fillByRatios rm_c_X2_fillByRatios).room s m ([.ref h0, .ref h4, .int sd] : List Value).toArray below meth c H locs 0 0 Q (F0 m 2 ls []) := by
    intro fu
    induction fu with
    | zero => intro k ur H locs ls hk hi; exact absurd hk (by omega)
    | succ fu ih1 =>
      intro k ur H locs ls hk hi hP hD hS hl
      refine lv_iload_n hx hb dX2_fillByRatios_2 rfl (lv_at hl 0 rfl) ?_
      refine lv_aload_n hx hb dX2_fillByRatios_3 rfl (lv_at hl 2 rfl) ?_
      refine va_getN (D := D) (ci := 4) (v := .int (nI n)) (C := RX4) (T := TX4) (N := 6) hx hb hts hiX4 hown hK hP 2 rfl rfl 3 (by decide) hf19 (fun _ h9 => h9) rfl dX2_fillByRatios_4 ?_
      refine lv_icmp_ge (tgt := 72) hx hb dX2_fillByRatios_7 (by decide) (fun c2 => ?_) (fun c2 => ?_)
      · skip
        have d2 := c2
        rw [nI_leI (by omega) (by omega)] at d2
        refine lv_aload_n hx hb dX2_fillByRatios_72 rfl (lv_at hl 1 rfl) ?_
        refine lv_aload_n hx hb dX2_fillByRatios_73 rfl (lv_at hl 2 rfl) ?_
        refine va_getN (D := D) (ci := 4) (v := .int (nI n)) (C := RX4) (T := TX4) (N := 6) hx hb hts hiX4 hown hK hP 2 rfl rfl 3 (by decide) hf19 (fun _ h9 => h9) rfl dX2_fillByRatios_74 ?_
        refine va_put (D := D) (ci := 2) (v := .int (nI n)) (ty := tyX2 1) (C := RX2) (T := TX2) (N := 2) hx hb hts hiX2 tyX2 tyX2_ok nmX2 hown hK hP hD hS 0 rfl rfl 1 (by decide) hf15 (fun _ h9 => h9) rfl (by decide +kernel) rfl rfl (Nat.le_of_ble_eq_true rfl) dX2_fillByRatios_77 (fun H locs hP hD hS => ?_)
        have hP : va_P D vwCl [(h0, .inr (2, [.ref r1, .int (nI n)])), (r1, .inl (cI, 9, .inl ur)), (h4, .inr (4, [.ref a1, .ref a2, .ref a3, .int (nI n), .int sn, .int sg])), (a1, .inl (cI, 9, .inl fg)), (a2, .inl (cI, 9, .inl fb)), (a3, .inl (cI, 9, .inl fp))] H := hP
        have hD : va_D (aA as) [(h0, .inr (2, [.ref r1, .int (nI n)])), (r1, .inl (cI, 9, .inl ur)), (h4, .inr (4, [.ref a1, .ref a2, .ref a3, .int (nI n), .int sn, .int sg])), (a1, .inl (cI, 9, .inl fg)), (a2, .inl (cI, 9, .inl fb)), (a3, .inl (cI, 9, .inl fp))] := hD
        rw [← hQ]
        exact W.vret hx hb hr (fun tS htS hWS => ⟨⟨(ur), rfl, fun z hz => by obtain ⟨y, h1, h2⟩ := hi z (by omega); exact ⟨y, by omega, h2⟩, m_at htS hP⟩, by rw [← has]; exact hS.F htS⟩) (by rw [← has]; exact hS.2.2) dX2_fillByRatios_80
      · skip
        have d2 := c2
        rw [nI_leI (by omega) (by omega)] at d2
        refine lv_iload_n hx hb dX2_fillByRatios_10 rfl (lv_at hl 0 rfl) ?_
        refine lv_istore (lv' := [(4, .int (nI k)), (3, .int (nI k)), (0, .ref h0), (1, .ref h4), (2, .int sd)]) hx hb dX2_fillByRatios_11 hl (by decide) rfl (fun ls hl => ?_)
        have loop3 : ∀ (fu : Nat) (t : Nat) (uq : Nat → Int32) (H : Heap) (locs : List Loc) (ls : Array Slot), (t < fu ∧ t ≤ k) → (∀ z, z ≤ k → z ≠ t → ∃ y, y < k ∧ uq z = nI y) → va_P D vwCl [(h0, .inr (2, [.ref r1, .int qc])), (r1, .inl (cI, 9, .inl uq)), (h4, .inr (4, [.ref a1, .ref a2, .ref a3, .int (nI n), .int sn, .int sg])), (a1, .inl (cI, 9, .inl fg)), (a2, .inl (cI, 9, .inl fb)), (a3, .inl (cI, 9, .inl fp))] H → va_D (aA as) [(h0, .inr (2, [.ref r1, .int qc])), (r1, .inl (cI, 9, .inl uq)), (h4, .inr (4, [.ref a1, .ref a2, .ref a3, .int (nI n), .int sn, .int sg])), (a1, .inl (cI, 9, .inl fg)), (a2, .inl (cI, 9, .inl fb)), (a3, .inl (cI, 9, .inl fp))] → va_S (aA as) s.heap H locs → lv_has ls 5 [(4, .int (nI t)), (3, .int (nI k)), (0, .ref h0), (1, .ref h4), (2, .int sd)] → W p l e (headSpec wsX2_fillByRatios rm_c_X2_fillByRatios).room s m ([.ref h0, .ref h4, .int sd] : List Value).toArray below meth c H locs 0 0 Q (F0 m 13 ls []) := by
          intro fu
          induction fu with
          | zero => intro t uq H locs ls ht hi2; exact absurd ht (by omega)
          | succ fu ih3 =>
            intro t uq H locs ls ht hi2 hP hD hS hl
            refine lv_iload hx hb dX2_fillByRatios_13 (lv_at hl 0 rfl) ?_
            refine lv_if_le (tgt := 58) hx hb dX2_fillByRatios_15 (by decide) (fun c4 => ?_) (fun c4 => ?_)
            · skip
              have d4 := c4
              rw [nz_le (by omega)] at d4
              refine lv_aload_n hx hb dX2_fillByRatios_58 rfl (lv_at hl 2 rfl) ?_
              refine va_get (D := D) (ci := 2) (v := .ref r1) (C := RX2) (T := TX2) (N := 2) hx hb hts hiX2 hown hK hP 0 rfl rfl 0 (by decide) hf9 (fun _ h9 => h9) rfl dX2_fillByRatios_59 ?_
              refine lv_iload hx hb dX2_fillByRatios_62 (lv_at hl 0 rfl) ?_
              refine lv_iload_n hx hb dX2_fillByRatios_64 rfl (lv_at hl 1 rfl) ?_
              refine va_iast hx hb hK hP hD hS 1 0 rfl rfl (i := nI t) (vp_in_nI (by omega) (by omega)) dX2_fillByRatios_65 (fun H locs hP hD hS => ?_)
              have hP : va_P D vwCl [(h0, .inr (2, [.ref r1, .int qc])), (r1, .inl (cI, 9, .inl (upd uq (nI t).toNatClampNeg (nI k)))), (h4, .inr (4, [.ref a1, .ref a2, .ref a3, .int (nI n), .int sn, .int sg])), (a1, .inl (cI, 9, .inl fg)), (a2, .inl (cI, 9, .inl fb)), (a3, .inl (cI, 9, .inl fp))] H := hP
              have hD : va_D (aA as) [(h0, .inr (2, [.ref r1, .int qc])), (r1, .inl (cI, 9, .inl (upd uq (nI t).toNatClampNeg (nI k)))), (h4, .inr (4, [.ref a1, .ref a2, .ref a3, .int (nI n), .int sn, .int sg])), (a1, .inl (cI, 9, .inl fg)), (a2, .inl (cI, 9, .inl fb)), (a3, .inl (cI, 9, .inl fp))] := hD
              rw [nI_clamp (n := t) (by omega)] at hP hD
              refine lv_iinc (v := nI (k + 1)) (lv' := [(3, .int (nI (k + 1))), (4, .int (nI t)), (0, .ref h0), (1, .ref h4), (2, .int sd)]) hx hb dX2_fillByRatios_66 hl (k := 1) rfl (nI_1 k) (by decide) rfl (fun ls hl => ?_)
              refine lv_goto (tgt := 2) hx hb dX2_fillByRatios_69 (by decide) ?_
              exact ih1 (k + 1) (upd uq t (nI k)) _ _ _ (by omega) (fun z hz => by by_cases e9 : z = t; exact ⟨k, by omega, by simp [upd, e9]⟩; exact (by obtain ⟨y, h1, h2⟩ := hi2 z (by omega) e9; exact ⟨y, by omega, by simp [upd, e9, h2]⟩)) hP hD hS (lv_sub hl [0, 2, 3, 4] rfl)
            · skip
              have d4 := c4
              rw [nz_le (by omega)] at d4
              refine lv_aload_n hx hb dX2_fillByRatios_18 rfl (lv_at hl 3 rfl) ?_
              refine lv_iload_n hx hb dX2_fillByRatios_19 rfl (lv_at hl 4 rfl) ?_
              refine lv_aload_n hx hb dX2_fillByRatios_20 rfl (lv_at hl 2 rfl) ?_
              refine va_get (D := D) (ci := 2) (v := .ref r1) (C := RX2) (T := TX2) (N := 2) hx hb hts hiX2 hown hK hP 0 rfl rfl 0 (by decide) hf9 (fun _ h9 => h9) rfl dX2_fillByRatios_21 ?_
              refine lv_iload hx hb dX2_fillByRatios_24 (lv_at hl 0 rfl) ?_
              refine lv_iconst (v := nI 1) hx hb dX2_fillByRatios_26 (by decide) ?_
              refine lv_isub hx hb dX2_fillByRatios_27 ?_
              refine cn_i (y := nI (t - 1)) (pk_sub (a := t) (b := 1) (by omega)) ?_
              obtain ⟨y9, hy9, ey9⟩ := hi2 (t - 1) (by omega) (by omega)
              refine va_iald hx hb hK hP 1 0 rfl rfl (i := nI (t - 1)) (vp_in_nI (by omega) (by omega)) dX2_fillByRatios_28 ?_
              refine cn_i (y := nI y9) ((congrArg uq (nI_clamp (by omega))).trans ey9) ?_
              refine lv_iload_n hx hb dX2_fillByRatios_29 rfl (lv_at hl 1 rfl) ?_
              refine pu_i (va_runS (As := [.ref h4, .int sd, .int (nI y9), .int (nI k)]) (rest := []) ⟨hx, hb, hml, hown, hts⟩ (c_X2_isDearer l D cI cJ cZ h4 a1 a2 a3 y9 k (nI n) sn sg sd fg fb fp (by first | assumption | omega) (by first | assumption | omega)) (va_cwS 4 hts gX2_fillByRatios_X2_isDearer rfl rfl rfl (by decide +kernel) ⟨Nat.le_of_ble_eq_true rfl, Nat.le_of_ble_eq_true rfl⟩) ⟨pc_blind, fun U hU hW => ⟨rfl, by rw [hU]; exact hP.sub (ws' := [(h4, .inr (4, [.ref a1, .ref a2, .ref a3, .int (nI n), .int sn, .int sg])), (a1, .inl (cI, 9, .inl fg)), (a2, .inl (cI, 9, .inl fb)), (a3, .inl (cI, 9, .inl fp))]) [2, 3, 4, 5] rfl, hKN.warm hW⟩⟩ rfl rfl hl.1 rfl (lv_room (Nat.le_of_ble_eq_true rfl)) dX2_fillByRatios_30 ⟨Nat.le_of_ble_eq_true rfl, Nat.le_of_ble_eq_true rfl⟩) hS hP (fun r5 H locs w5r hP hS => ?_)
              have w5 : B01 r5 (dear fg fb fp sd y9 k) := w5r
              clear w5r
              rcases w5 with ⟨rfl, w5⟩ | ⟨rfl, w5⟩
              · skip
                refine lv_if_eq (tgt := 58) hx hb dX2_fillByRatios_33 (by decide) (fun c6 => ?_) (fun c6 => ?_)
                · exact absurd c6 (by first | decide | exact nz_lt (by omega) | exact fun h => h (nz_ge (by omega)))
                · skip
                  refine lv_aload_n hx hb dX2_fillByRatios_36 rfl (lv_at hl 2 rfl) ?_
                  refine va_get (D := D) (ci := 2) (v := .ref r1) (C := RX2) (T := TX2) (N := 2) hx hb hts hiX2 hown hK hP 0 rfl rfl 0 (by decide) hf9 (fun _ h9 => h9) rfl dX2_fillByRatios_37 ?_
                  refine lv_iload hx hb dX2_fillByRatios_40 (lv_at hl 0 rfl) ?_
                  refine lv_aload_n hx hb dX2_fillByRatios_42 rfl (lv_at hl 2 rfl) ?_
                  refine va_get (D := D) (ci := 2) (v := .ref r1) (C := RX2) (T := TX2) (N := 2) hx hb hts hiX2 hown hK hP 0 rfl rfl 0 (by decide) hf9 (fun _ h9 => h9) rfl dX2_fillByRatios_43 ?_
                  refine lv_iload hx hb dX2_fillByRatios_46 (lv_at hl 0 rfl) ?_
                  refine lv_iconst (v := nI 1) hx hb dX2_fillByRatios_48 (by decide) ?_
                  refine lv_isub hx hb dX2_fillByRatios_49 ?_
                  refine cn_i (y := nI (t - 1)) (pk_sub (a := t) (b := 1) (by omega)) ?_
                  refine va_iald hx hb hK hP 1 0 rfl rfl (i := nI (t - 1)) (vp_in_nI (by omega) (by omega)) dX2_fillByRatios_50 ?_
                  refine cn_i (y := uq (t - 1)) (congrArg uq (nI_clamp (by omega))) ?_
                  refine va_iast hx hb hK hP hD hS 1 0 rfl rfl (i := nI t) (vp_in_nI (by omega) (by omega)) dX2_fillByRatios_51 (fun H locs hP hD hS => ?_)
                  have hP : va_P D vwCl [(h0, .inr (2, [.ref r1, .int qc])), (r1, .inl (cI, 9, .inl (upd uq (nI t).toNatClampNeg (uq (t - 1))))), (h4, .inr (4, [.ref a1, .ref a2, .ref a3, .int (nI n), .int sn, .int sg])), (a1, .inl (cI, 9, .inl fg)), (a2, .inl (cI, 9, .inl fb)), (a3, .inl (cI, 9, .inl fp))] H := hP
                  have hD : va_D (aA as) [(h0, .inr (2, [.ref r1, .int qc])), (r1, .inl (cI, 9, .inl (upd uq (nI t).toNatClampNeg (uq (t - 1))))), (h4, .inr (4, [.ref a1, .ref a2, .ref a3, .int (nI n), .int sn, .int sg])), (a1, .inl (cI, 9, .inl fg)), (a2, .inl (cI, 9, .inl fb)), (a3, .inl (cI, 9, .inl fp))] := hD
                  rw [nI_clamp (n := t) (by omega)] at hP hD
                  refine lv_iinc (v := nI (t - 1)) (lv' := [(4, .int (nI (t - 1))), (3, .int (nI k)), (0, .ref h0), (1, .ref h4), (2, .int sd)]) hx hb dX2_fillByRatios_52 hl (k := 0) rfl (sb_m1 (by omega)) (by decide) rfl (fun ls hl => ?_)
                  refine lv_goto (tgt := 13) hx hb dX2_fillByRatios_55 (by decide) ?_
                  exact ih3 (t - 1) (upd uq t (uq (t - 1))) _ _ _ (by omega) (fun z h1 h2 => by by_cases e9 : z = t; exact (by obtain ⟨y, h3, h4⟩ := hi2 (t - 1) (by omega) (by omega); exact ⟨y, h3, by simp [upd, e9, h4]⟩); exact (by obtain ⟨y, h3, h4⟩ := hi2 z h1 e9; exact ⟨y, h3, by simp [upd, e9, h4]⟩)) hP hD hS (lv_sub hl [0, 1, 2, 3, 4] rfl)
              · skip
                refine lv_if_eq (tgt := 58) hx hb dX2_fillByRatios_33 (by decide) (fun c7 => ?_) (fun c7 => ?_)
                · skip
                  refine lv_aload_n hx hb dX2_fillByRatios_58 rfl (lv_at hl 2 rfl) ?_
                  refine va_get (D := D) (ci := 2) (v := .ref r1) (C := RX2) (T := TX2) (N := 2) hx hb hts hiX2 hown hK hP 0 rfl rfl 0 (by decide) hf9 (fun _ h9 => h9) rfl dX2_fillByRatios_59 ?_
                  refine lv_iload hx hb dX2_fillByRatios_62 (lv_at hl 0 rfl) ?_
                  refine lv_iload_n hx hb dX2_fillByRatios_64 rfl (lv_at hl 1 rfl) ?_
                  refine va_iast hx hb hK hP hD hS 1 0 rfl rfl (i := nI t) (vp_in_nI (by omega) (by omega)) dX2_fillByRatios_65 (fun H locs hP hD hS => ?_)
                  have hP : va_P D vwCl [(h0, .inr (2, [.ref r1, .int qc])), (r1, .inl (cI, 9, .inl (upd uq (nI t).toNatClampNeg (nI k)))), (h4, .inr (4, [.ref a1, .ref a2, .ref a3, .int (nI n), .int sn, .int sg])), (a1, .inl (cI, 9, .inl fg)), (a2, .inl (cI, 9, .inl fb)), (a3, .inl (cI, 9, .inl fp))] H := hP
                  have hD : va_D (aA as) [(h0, .inr (2, [.ref r1, .int qc])), (r1, .inl (cI, 9, .inl (upd uq (nI t).toNatClampNeg (nI k)))), (h4, .inr (4, [.ref a1, .ref a2, .ref a3, .int (nI n), .int sn, .int sg])), (a1, .inl (cI, 9, .inl fg)), (a2, .inl (cI, 9, .inl fb)), (a3, .inl (cI, 9, .inl fp))] := hD
                  rw [nI_clamp (n := t) (by omega)] at hP hD
                  refine lv_iinc (v := nI (k + 1)) (lv' := [(3, .int (nI (k + 1))), (4, .int (nI t)), (0, .ref h0), (1, .ref h4), (2, .int sd)]) hx hb dX2_fillByRatios_66 hl (k := 1) rfl (nI_1 k) (by decide) rfl (fun ls hl => ?_)
                  refine lv_goto (tgt := 2) hx hb dX2_fillByRatios_69 (by decide) ?_
                  exact ih1 (k + 1) (upd uq t (nI k)) _ _ _ (by omega) (fun z hz => by by_cases e9 : z = t; exact ⟨k, by omega, by simp [upd, e9]⟩; exact (by obtain ⟨y, h1, h2⟩ := hi2 z (by omega) e9; exact ⟨y, by omega, by simp [upd, e9, h2]⟩)) hP hD hS (lv_sub hl [0, 2, 3, 4] rfl)
                · exact absurd c7 (by first | decide | exact nz_lt (by omega) | exact fun h => h (nz_ge (by omega)))
        exact loop3 (k + 1) k ur _ _ _ (by omega) (fun z h1 h2 => hi z (by omega)) hP hD hS (lv_sub hl [0, 1, 2, 3, 4] rfl)
  exact loop1 (n + 1) 0 fr _ _ _ (by omega) (fun z hz => absurd hz (by omega)) hP hD hS (lv_sub hl [0, 1, 2, 3] rfl)
def rm_c_X1_forget : Room := { frames := 0, cells := 0, slots := 0, locals := 0 }
set_option maxHeartbeats 400000 in
set_option maxRecDepth 100000 in
theorem c_X1_forget (l : Launch) (D : va_G) (cI cJ cZ : ClassId) (h0 : Nat) (s1 : Nat) (s2 : Nat) (s3 : Nat) (p4 : Nat) (p5 : Nat) (p6 : Nat) (fr : Int32)  : Met l yX1_forget wsX1_forget rm_c_X1_forget (pm_ D cI cJ cZ [.ref h0] [(h0, .inr (1, [.ref s1, .ref s2, .ref s3, .ref p4, .ref p5, .ref p6, .int fr]))]) (va_Qv (fun (u : Unit) => True) (fun (u : Unit) tS => va_P D vwCl [(h0, .inr (1, [.ref s1, .ref s2, .ref s3, .ref p4, .ref p5, .ref p6, .int (nI 0)]))] tS.heap) (aA [h0])) 0 0 (aA [h0]) := by
  refine Met.ofW (cc := cX1_forget) (maxL := 1) (ret := none) (by decide) rfl ?_
  intro p e s m args below meth c s₁ B hml hv
  obtain ⟨rfl, hP, hKN, hD0⟩ := hv
  have hK := hKN.1
  have hx := B.exec
  have hb := B.bytes
  have hr := B.returns
  have hts := atoms_spec (ws := wsX1_forget) B.pre
  have hown : s.vm.findClass RX1 = some m.cls := findClass_of_methodNamed B.named
  have hlocks := B.notSynchronized
  have hiX1 : ∀ w ∈ wsX10, w ∈ wsX1_forget := by decide +kernel
  have hf34 := hts (.fieldLink RX1 34 "LookBench$Plans" "fresh" "Z") (by decide +kernel)
  obtain ⟨as, has⟩ : ∃ z : List Nat, z = [h0] := ⟨_, rfl⟩
  have hD := hD0.addr (as := as) (by rw [has]; rfl)
  have hS : va_S (aA as) s.heap s.heap [] := va_S.rf
  have hl := lv_entry ([.ref h0]) (n := 1) (Nat.le_of_ble_eq_true rfl)
  rw [lg_entry_eq]
  generalize (lg_sl ([.ref h0]) ++ List.replicate (1 - (lg_sl ([.ref h0])).length) Slot.unset).toArray = ls at hl ⊢
  have hl : lv_has ls 1 [(0, .ref h0)] := hl
  generalize hQ : MQ below _ _ s _ _ _ = Q
  obtain ⟨H, hH⟩ : ∃ z, z = s.heap := ⟨_, rfl⟩
  have hP : va_P D vwCl [(h0, .inr (1, [.ref s1, .ref s2, .ref s3, .ref p4, .ref p5, .ref p6, .int fr]))] H := by rw [hH]; exact hP
  have hS : va_S (aA as) s.heap H [] := by rw [hH]; exact hS
  refine m_heap hH ?_
  clear hH
  refine lv_aload_n hx hb dX1_forget_0 rfl (lv_at hl 0 rfl) ?_
  refine lv_iconst (v := nI 0) hx hb dX1_forget_1 (by decide) ?_
  refine va_put (D := D) (ci := 1) (v := .int (nI 0)) (ty := tyX1 6) (C := RX1) (T := TX1) (N := 7) hx hb hts hiX1 tyX1 tyX1_ok nmX1 hown hK hP hD hS 0 rfl rfl 6 (by decide) hf34 (fun _ h9 => h9) rfl (by decide +kernel) (by decide) (by decide) (Nat.le_of_ble_eq_true rfl) dX1_forget_2 (fun H locs hP hD hS => ?_)
  have hP : va_P D vwCl [(h0, .inr (1, [.ref s1, .ref s2, .ref s3, .ref p4, .ref p5, .ref p6, .int (nI 0)]))] H := hP
  have hD : va_D (aA as) [(h0, .inr (1, [.ref s1, .ref s2, .ref s3, .ref p4, .ref p5, .ref p6, .int (nI 0)]))] := hD
  rw [← hQ]
  exact W.vret hx hb hr (fun tS htS hWS => ⟨⟨(), rfl, trivial, m_at htS hP⟩, by rw [← has]; exact hS.F htS⟩) (by rw [← has]; exact hS.2.2) dX1_forget_5
