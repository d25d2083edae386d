
/-- a is dearer than b, by products -/
def dear (fg fb fp : Nat → Int32) (sd : Int32) (a b : Nat) : Prop := ¬ (fp a * (fg a + fb a) * (if sd = 0 then fb b else fg b) ≤ fp b * (fg b + fb b) * (if sd = 0 then fb a else fg a))
def rm_c_X2_clear : Room := { frames := 0, cells := 0, slots := 0, locals := 0 }
set_option maxHeartbeats 4000000 in
set_option maxRecDepth 100000 in
theorem c_X2_clear (l : Launch) (D : va_G) (cI cJ cZ : ClassId) (h0 : Nat) (r1 : Nat) (qc : Int32)  : Met l yX2_clear wsX2_clear rm_c_X2_clear (pm_ D cI cJ cZ [.ref h0] [(h0, .inr (2, [.ref r1, .int qc]))]) (va_Qv (fun (u : Unit) => True) (fun (u : Unit) t => va_P D vwCl [(h0, .inr (2, [.ref r1, .int (nI 0)]))] t.heap) (aA [h0])) 0 0 (aA [h0]) := by
  refine Met.ofW (cc := cX2_clear) (maxL := 1) (ret := none) (by decide) rfl ?_
  intro p e s m args below meth c s₁ B hml hv
  obtain ⟨rfl, hP, hKN, hD0⟩ := hv
  have hK := hKN.1
  have hx := B.exec
  have hb := B.bytes
  have hr := B.returns
  have hts := atoms_spec (ws := wsX2_clear) B.pre
  have hown : s.vm.findClass RX2 = some m.cls := findClass_of_methodNamed B.named
  have hlocks := B.notSynchronized
  have hiX2 : ∀ w ∈ wsX20, w ∈ wsX2_clear := by decide +kernel
  have hf15 := hts (.fieldLink RX2 15 "LookBench$Queue" "count" "I") (by decide +kernel)
  obtain ⟨as, has⟩ : ∃ z : List Nat, z = [h0] := ⟨_, rfl⟩
  have hD := hD0.addr (as := as) (by rw [has]; rfl)
  have hS : va_S (aA as) s.heap s.heap [] := va_S.rf
  have hl := lv_entry ([.ref h0]) (n := 1) (Nat.le_of_ble_eq_true rfl)
  rw [lg_entry_eq]
  generalize (lg_sl ([.ref h0]) ++ List.replicate (1 - (lg_sl ([.ref h0])).length) Slot.unset).toArray = ls at hl ⊢
  have hl : lv_has ls 1 [(0, .ref h0)] := hl
  generalize hQ : MQ below _ _ s _ _ _ = Q
  obtain ⟨H, hH⟩ : ∃ z, z = s.heap := ⟨_, rfl⟩
  have hP : va_P D vwCl [(h0, .inr (2, [.ref r1, .int qc]))] H := by rw [hH]; exact hP
  have hS : va_S (aA as) s.heap H [] := by rw [hH]; exact hS
  refine m_heap hH ?_
  clear hH
  refine lv_aload_n hx hb dX2_clear_0 rfl (lv_at hl 0 rfl) ?_
  refine lv_iconst (v := nI 0) hx hb dX2_clear_1 (by decide) ?_
  refine va_put (D := D) (ci := 2) (v := .int (nI 0)) (ty := tyX2 1) (C := RX2) (T := TX2) (N := 2) hx hb hts hiX2 tyX2 tyX2_ok nmX2 hown hK hP hD hS 0 rfl rfl 1 (by decide) hf15 (fun _ h9 => h9) rfl (by decide +kernel) rfl rfl (Nat.le_of_ble_eq_true rfl) dX2_clear_2 (fun H locs hP hD hS => ?_)
  have hP : va_P D vwCl [(h0, .inr (2, [.ref r1, .int (nI 0)]))] H := hP
  have hD : va_D (aA as) [(h0, .inr (2, [.ref r1, .int (nI 0)]))] := hD
  rw [← hQ]
  exact W.vret hx hb hr (fun t ht hW => ⟨⟨(), rfl, trivial, m_at ht hP⟩, by rw [← has]; exact hS.F ht⟩) (by rw [← has]; exact hS.2.2) dX2_clear_5
def rm_c_X2_holds : Room := { frames := 0, cells := 0, slots := 0, locals := 0 }
set_option maxHeartbeats 4000000 in
set_option maxRecDepth 100000 in
theorem c_X2_holds (l : Launch) (D : va_G) (cI cJ cZ : ClassId) (h0 : Nat) (r1 : Nat) (q : Nat) (p0 : Int32) (fr : Nat → Int32) (hq : q ≤ 9) : Met l yX2_holds wsX2_holds rm_c_X2_holds (pc_ D cI cJ cZ [.ref h0, .int p0] [(h0, .inr (2, [.ref r1, .int (nI q)])), (r1, .inl (cI, 9, .inl fr))]) (va_Qi (fun (r : Int32) (_ : Unit) => B01 r (∃ z, z < q ∧ fr z = p0)) (fun _ _ => True) aN) 0 0 aN := by
  refine Met.ofW (cc := cX2_holds) (maxL := 3) (ret := (some .boolean)) (by decide) rfl ?_
  intro p e s m args below meth c s₁ B hml hv
  obtain ⟨rfl, hP, hKN⟩ := hv
  have hK := hKN.1
  have hx := B.exec
  have hb := B.bytes
  have hr := B.returns
  have hts := atoms_spec (ws := wsX2_holds) B.pre
  have hown : s.vm.findClass RX2 = some m.cls := findClass_of_methodNamed B.named
  have hlocks := B.notSynchronized
  have hiX2 : ∀ w ∈ wsX20, w ∈ wsX2_holds := by decide +kernel
  have hf9 := hts (.fieldLink RX2 9 "LookBench$Queue" "row" "[I") (by decide +kernel)
  have hf15 := hts (.fieldLink RX2 15 "LookBench$Queue" "count" "I") (by decide +kernel)
  have hS : va_S aN s.heap s.heap [] := va_S.rf
  have hl := lv_entry ([.ref h0, .int p0]) (n := 3) (Nat.le_of_ble_eq_true rfl)
  rw [lg_entry_eq]
  generalize (lg_sl ([.ref h0, .int p0]) ++ List.replicate (3 - (lg_sl ([.ref h0, .int p0])).length) Slot.unset).toArray = ls at hl ⊢
  have hl : lv_has ls 3 [(0, .ref h0), (1, .int p0)] := hl
  generalize hQ : MQ below _ _ s _ _ _ = Q
  obtain ⟨H, hH⟩ : ∃ z, z = s.heap := ⟨_, rfl⟩
  have hP : va_P D vwCl [(h0, .inr (2, [.ref r1, .int (nI q)])), (r1, .inl (cI, 9, .inl fr))] H := by rw [hH]; exact hP
  have hS : va_S aN s.heap H [] := by rw [hH]; exact hS
  refine m_heap hH ?_
  clear hH
  refine lv_iconst (v := nI 0) hx hb dX2_holds_0 (by decide) ?_
  refine lv_istore_n (lv' := [(2, .int (nI 0)), (0, .ref h0), (1, .int p0)]) hx hb dX2_holds_1 rfl hl (by decide) rfl (fun ls hl => ?_)
  have loop1 : ∀ (fu : Nat) (k : Nat) (H : Heap) (locs : List Loc) (ls : Array Slot), (k ≤ q ∧ q < k + fu) → (∀ z, z < k → ¬ fr z = p0) → va_P D vwCl [(h0, .inr (2, [.ref r1, .int (nI q)])), (r1, .inl (cI, 9, .inl fr))] H → va_S aN s.heap H locs → lv_has ls 3 [(2, .int (nI k)), (0, .ref h0), (1, .int p0)] → W p l e (headSpec wsX2_holds rm_c_X2_holds).room s m ([.ref h0, .int p0] : List Value).toArray below meth c H locs 0 0 Q (F0 m 2 ls []) := by
    intro fu
    induction fu with
    | zero => intro k H locs ls hk hi; exact absurd hk (by omega)
    | succ fu ih1 =>
      intro k H locs ls hk hi hP hS hl
      refine lv_iload_n hx hb dX2_holds_2 rfl (lv_at hl 0 rfl) ?_
      refine lv_aload_n hx hb dX2_holds_3 rfl (lv_at hl 1 rfl) ?_
      refine va_get (D := D) (ci := 2) (v := .int (nI q)) (C := RX2) (T := TX2) (N := 2) hx hb hts hiX2 hown hK hP 0 rfl rfl 1 (by decide) hf15 (fun _ h9 => h9) rfl dX2_holds_4 ?_
      refine lv_icmp_ge (tgt := 28) hx hb dX2_holds_7 (by decide) (fun c2 => ?_) (fun c2 => ?_)
      · skip
        have d2 := c2
        rw [nI_leI (by omega) (by omega)] at d2
        refine lv_iconst (v := nI 0) hx hb dX2_holds_28 (by decide) ?_
        rw [← hQ]
        exact W.zret (v := nI 0) hx hb hr (by first | decide | (rw [nar_b01])) (fun t ht hW => ⟨⟨(nI 0), (), rfl, Or.inr ⟨rfl, fun ⟨z, h1, h2⟩ => hi z (by omega) h2⟩, trivial⟩, hS.F ht⟩) hS.2.2 dX2_holds_29
      · skip
        have d2 := c2
        rw [nI_leI (by omega) (by omega)] at d2
        refine lv_aload_n hx hb dX2_holds_10 rfl (lv_at hl 1 rfl) ?_
        refine va_get (D := D) (ci := 2) (v := .ref r1) (C := RX2) (T := TX2) (N := 2) hx hb hts hiX2 hown hK hP 0 rfl rfl 0 (by decide) hf9 (fun _ h9 => h9) rfl dX2_holds_11 ?_
        refine lv_iload_n hx hb dX2_holds_14 rfl (lv_at hl 0 rfl) ?_
        refine va_iald hx hb hK hP 1 0 rfl rfl (i := nI k) (vp_in_nI (by omega) (by omega)) dX2_holds_15 ?_
        refine cn_i (y := fr k) (congrArg fr (nI_clamp (by omega))) ?_
        refine lv_iload_n hx hb dX2_holds_16 rfl (lv_at hl 2 rfl) ?_
        refine lv_icmp_ne (tgt := 22) hx hb dX2_holds_17 (by decide) (fun c3 => ?_) (fun c3 => ?_)
        · skip
          refine lv_iinc (v := nI (k + 1)) (lv' := [(2, .int (nI (k + 1))), (0, .ref h0), (1, .int p0)]) hx hb dX2_holds_22 hl (k := 0) rfl (nI_1 k) (by decide) rfl (fun ls hl => ?_)
          refine lv_goto (tgt := 2) hx hb dX2_holds_25 (by decide) ?_
          exact ih1 (k + 1) _ _ _ (by omega) (fun z hz => by rcases Nat.lt_or_ge z k with h | h; exact hi z h; exact (by have e9 : z = k := (by omega); subst e9; exact c3)) hP hS (lv_sub hl [0, 1, 2] rfl)
        · skip
          refine lv_iconst (v := nI 1) hx hb dX2_holds_20 (by decide) ?_
          rw [← hQ]
          exact W.zret (v := nI 1) hx hb hr (by first | decide | (rw [nar_b01])) (fun t ht hW => ⟨⟨(nI 1), (), rfl, Or.inl ⟨rfl, k, by omega, c3⟩, trivial⟩, hS.F ht⟩) hS.2.2 dX2_holds_21
  exact loop1 (q + 1) 0 _ _ _ (by omega) (fun z hz => absurd hz (by omega)) hP hS (lv_sub hl [0, 1, 2] rfl)
def rm_c_X2_append : Room := { frames := 0, cells := 0, slots := 0, locals := 0 }
set_option maxHeartbeats 4000000 in
set_option maxRecDepth 100000 in
theorem c_X2_append (l : Launch) (D : va_G) (cI cJ cZ : ClassId) (h0 : Nat) (r1 : Nat) (q : Nat) (p0 : Int32) (fr : Nat → Int32) (hq : q < 9) : Met l yX2_append wsX2_append rm_c_X2_append (pm_ D cI cJ cZ [.ref h0, .int p0] [(h0, .inr (2, [.ref r1, .int (nI q)])), (r1, .inl (cI, 9, .inl fr))]) (va_Qv (fun (u : Unit) => True) (fun (u : Unit) t => va_P D vwCl [(h0, .inr (2, [.ref r1, .int (nI (q + 1))])), (r1, .inl (cI, 9, .inl (upd fr q p0)))] t.heap) (aA [h0, r1])) 0 0 (aA [h0, r1]) := by
  refine Met.ofW (cc := cX2_append) (maxL := 2) (ret := none) (by decide) rfl ?_
  intro p e s m args below meth c s₁ B hml hv
  obtain ⟨rfl, hP, hKN, hD0⟩ := hv
  have hK := hKN.1
  have hx := B.exec
  have hb := B.bytes
  have hr := B.returns
  have hts := atoms_spec (ws := wsX2_append) B.pre
  have hown : s.vm.findClass RX2 = some m.cls := findClass_of_methodNamed B.named
  have hlocks := B.notSynchronized
  have hiX2 : ∀ w ∈ wsX20, w ∈ wsX2_append := by decide +kernel
  have hf9 := hts (.fieldLink RX2 9 "LookBench$Queue" "row" "[I") (by decide +kernel)
  have hf15 := hts (.fieldLink RX2 15 "LookBench$Queue" "count" "I") (by decide +kernel)
  obtain ⟨as, has⟩ : ∃ z : List Nat, z = [h0, r1] := ⟨_, rfl⟩
  have hD := hD0.addr (as := as) (by rw [has]; rfl)
  have hS : va_S (aA as) s.heap s.heap [] := va_S.rf
  have hl := lv_entry ([.ref h0, .int p0]) (n := 2) (Nat.le_of_ble_eq_true rfl)
  rw [lg_entry_eq]
  generalize (lg_sl ([.ref h0, .int p0]) ++ List.replicate (2 - (lg_sl ([.ref h0, .int p0])).length) Slot.unset).toArray = ls at hl ⊢
  have hl : lv_has ls 2 [(0, .ref h0), (1, .int p0)] := hl
  generalize hQ : MQ below _ _ s _ _ _ = Q
  obtain ⟨H, hH⟩ : ∃ z, z = s.heap := ⟨_, rfl⟩
  have hP : va_P D vwCl [(h0, .inr (2, [.ref r1, .int (nI q)])), (r1, .inl (cI, 9, .inl fr))] H := by rw [hH]; exact hP
  have hS : va_S (aA as) s.heap H [] := by rw [hH]; exact hS
  refine m_heap hH ?_
  clear hH
  refine lv_aload_n hx hb dX2_append_0 rfl (lv_at hl 0 rfl) ?_
  refine va_get (D := D) (ci := 2) (v := .int (nI q)) (C := RX2) (T := TX2) (N := 2) hx hb hts hiX2 hown hK hP 0 rfl rfl 1 (by decide) hf15 (fun _ h9 => h9) rfl dX2_append_1 ?_
  refine lv_bipush (v := nI 9) hx hb dX2_append_4 (by decide) ?_
  refine lv_icmp_ge (tgt := 26) hx hb dX2_append_6 (by decide) (fun c1 => ?_) (fun c1 => ?_)
  · skip
    have d1 := c1
    rw [nI_leI (by omega) (by omega)] at d1
    exact absurd d1 (by omega)
  · skip
    have d1 := c1
    rw [nI_leI (by omega) (by omega)] at d1
    refine lv_aload_n hx hb dX2_append_9 rfl (lv_at hl 0 rfl) ?_
    refine va_get (D := D) (ci := 2) (v := .ref r1) (C := RX2) (T := TX2) (N := 2) hx hb hts hiX2 hown hK hP 0 rfl rfl 0 (by decide) hf9 (fun _ h9 => h9) rfl dX2_append_10 ?_
    refine lv_aload_n hx hb dX2_append_13 rfl (lv_at hl 0 rfl) ?_
    refine lv_dup hx hb dX2_append_14 rfl ?_
    refine va_get (D := D) (ci := 2) (v := .int (nI q)) (C := RX2) (T := TX2) (N := 2) hx hb hts hiX2 hown hK hP 0 rfl rfl 1 (by decide) hf15 (fun _ h9 => h9) rfl dX2_append_15 ?_
    refine lv_dup_x1 hx hb dX2_append_18 rfl rfl ?_
    refine lv_iconst (v := nI 1) hx hb dX2_append_19 (by decide) ?_
    refine lv_iadd hx hb dX2_append_20 ?_
    refine cn_i (y := nI (q + 1)) (nI_add q 1) ?_
    refine va_put (D := D) (ci := 2) (v := .int (nI (q + 1))) (ty := tyX2 1) (C := RX2) (T := TX2) (N := 2) hx hb hts hiX2 tyX2 tyX2_ok nmX2 hown hK hP hD hS 0 rfl rfl 1 (by decide) hf15 (fun _ h9 => h9) rfl (by decide +kernel) rfl rfl (Nat.le_of_ble_eq_true rfl) dX2_append_21 (fun H locs hP hD hS => ?_)
    have hP : va_P D vwCl [(h0, .inr (2, [.ref r1, .int (nI (q + 1))])), (r1, .inl (cI, 9, .inl fr))] H := hP
    have hD : va_D (aA as) [(h0, .inr (2, [.ref r1, .int (nI (q + 1))])), (r1, .inl (cI, 9, .inl fr))] := hD
    refine lv_iload_n hx hb dX2_append_24 rfl (lv_at hl 1 rfl) ?_
    refine va_iast hx hb hK hP hD hS 1 0 rfl rfl (i := nI q) (vp_in_nI (by omega) (by omega)) dX2_append_25 (fun H locs hP hD hS => ?_)
    have hP : va_P D vwCl [(h0, .inr (2, [.ref r1, .int (nI (q + 1))])), (r1, .inl (cI, 9, .inl (upd fr (nI q).toNatClampNeg p0)))] H := hP
    have hD : va_D (aA as) [(h0, .inr (2, [.ref r1, .int (nI (q + 1))])), (r1, .inl (cI, 9, .inl (upd fr (nI q).toNatClampNeg p0)))] := hD
    rw [nI_clamp (n := q) (by omega)] at hP hD
    rw [← hQ]
    exact W.vret hx hb hr (fun t ht hW => ⟨⟨(), rfl, trivial, m_at ht hP⟩, by rw [← has]; exact hS.F ht⟩) (by rw [← has]; exact hS.2.2) dX2_append_26
def rm_c_X2_isDearer : Room := { frames := 0, cells := 0, slots := 0, locals := 0 }
set_option maxHeartbeats 4000000 in
set_option maxRecDepth 100000 in
theorem c_X2_isDearer (l : Launch) (D : va_G) (cI cJ cZ : ClassId) (h0 : Nat) (a1 : Nat) (a2 : Nat) (a3 : Nat) (a : Nat) (b : Nat) (cn : Int32) (sn : Int32) (sg : Int32) (sd : Int32) (fg : Nat → Int32) (fb : Nat → Int32) (fp : Nat → Int32) (ha : a < 9) (hb0 : b < 9) : Met l yX2_isDearer wsX2_isDearer rm_c_X2_isDearer (pc_ D cI cJ cZ [.ref h0, .int sd, .int (nI a), .int (nI b)] [(h0, .inr (4, [.ref a1, .ref a2, .ref a3, .int cn, .int sn, .int sg])), (a1, .inl (cI, 9, .inl fg)), (a2, .inl (cI, 9, .inl fb)), (a3, .inl (cI, 9, .inl fp))]) (va_Qi (fun (r : Int32) (_ : Unit) => B01 r (dear fg fb fp sd a b)) (fun _ _ => True) aN) 0 0 aN := by
  refine Met.ofW (cc := cX2_isDearer) (maxL := 7) (ret := (some .boolean)) (by decide) rfl ?_
  intro p e s m args below meth c s₁ B hml hv
  obtain ⟨rfl, hP, hKN⟩ := hv
  have hK := hKN.1
  have hx := B.exec
  have hb := B.bytes
  have hr := B.returns
  have hts := atoms_spec (ws := wsX2_isDearer) B.pre
  have hown : s.vm.findClass RX2 = some m.cls := findClass_of_methodNamed B.named
  have hlocks := B.notSynchronized
  have hiX4 : ∀ w ∈ wsX40, w ∈ wsX2_isDearer := by decide +kernel
  have hf26 := va_Nw.use (A := [.ref h0, .int sd, .int (nI a), .int (nI b)].toArray) rfl (hKN.2 (.fieldLinkNest RX2 26 RX4 "goods" "[I" RX6) (by decide +kernel))
  have hf29 := va_Nw.use (A := [.ref h0, .int sd, .int (nI a), .int (nI b)].toArray) rfl (hKN.2 (.fieldLinkNest RX2 29 RX4 "bads" "[I" RX6) (by decide +kernel))
  have hf32 := va_Nw.use (A := [.ref h0, .int sd, .int (nI a), .int (nI b)].toArray) rfl (hKN.2 (.fieldLinkNest RX2 32 RX4 "prices" "[I" RX6) (by decide +kernel))
  have hS : va_S aN s.heap s.heap [] := va_S.rf
  have hl := lv_entry ([.ref h0, .int sd, .int (nI a), .int (nI b)]) (n := 7) (Nat.le_of_ble_eq_true rfl)
  rw [lg_entry_eq]
  generalize (lg_sl ([.ref h0, .int sd, .int (nI a), .int (nI b)]) ++ List.replicate (7 - (lg_sl ([.ref h0, .int sd, .int (nI a), .int (nI b)])).length) Slot.unset).toArray = ls at hl ⊢
  have hl : lv_has ls 7 [(0, .ref h0), (1, .int sd), (2, .int (nI a)), (3, .int (nI b))] := hl
  generalize hQ : MQ below _ _ s _ _ _ = Q
  obtain ⟨H, hH⟩ : ∃ z, z = s.heap := ⟨_, rfl⟩
  have hP : va_P D vwCl [(h0, .inr (4, [.ref a1, .ref a2, .ref a3, .int cn, .int sn, .int sg])), (a1, .inl (cI, 9, .inl fg)), (a2, .inl (cI, 9, .inl fb)), (a3, .inl (cI, 9, .inl fp))] H := by rw [hH]; exact hP
  have hS : va_S aN s.heap H [] := by rw [hH]; exact hS
  refine m_heap hH ?_
  clear hH
  refine lv_iload_n hx hb dX2_isDearer_0 rfl (lv_at hl 1 rfl) ?_
  refine lv_if_eq (tgt := 11) hx hb dX2_isDearer_1 (by decide) (fun c1 => ?_) (fun c1 => ?_)
  · skip
    refine lv_aload_n hx hb dX2_isDearer_11 rfl (lv_at hl 0 rfl) ?_
    refine va_getN (D := D) (ci := 4) (v := .ref a2) (C := RX4) (T := TX4) (N := 6) hx hb hts hiX4 hown hK hP 0 rfl rfl 1 (by decide) hf29 (fun _ h9 => h9) rfl dX2_isDearer_12 ?_
    refine lv_astore (lv' := [(4, .ref a2), (0, .ref h0), (1, .int sd), (2, .int (nI a)), (3, .int (nI b))]) hx hb dX2_isDearer_15 hl (by decide) rfl (fun ls hl => ?_)
    refine lv_aload_n hx hb dX2_isDearer_17 rfl (lv_at hl 1 rfl) ?_
    refine va_getN (D := D) (ci := 4) (v := .ref a3) (C := RX4) (T := TX4) (N := 6) hx hb hts hiX4 hown hK hP 0 rfl rfl 2 (by decide) hf32 (fun _ h9 => h9) rfl dX2_isDearer_18 ?_
    refine lv_iload_n hx hb dX2_isDearer_21 rfl (lv_at hl 3 rfl) ?_
    refine va_iald hx hb hK hP 3 0 rfl rfl (i := nI a) (vp_in_nI (by omega) (by omega)) dX2_isDearer_22 ?_
    refine cn_i (y := fp a) (congrArg fp (nI_clamp (by omega))) ?_
    refine lv_aload_n hx hb dX2_isDearer_23 rfl (lv_at hl 1 rfl) ?_
    refine va_getN (D := D) (ci := 4) (v := .ref a1) (C := RX4) (T := TX4) (N := 6) hx hb hts hiX4 hown hK hP 0 rfl rfl 0 (by decide) hf26 (fun _ h9 => h9) rfl dX2_isDearer_24 ?_
    refine lv_iload_n hx hb dX2_isDearer_27 rfl (lv_at hl 3 rfl) ?_
    refine va_iald hx hb hK hP 1 0 rfl rfl (i := nI a) (vp_in_nI (by omega) (by omega)) dX2_isDearer_28 ?_
    refine cn_i (y := fg a) (congrArg fg (nI_clamp (by omega))) ?_
    refine lv_aload_n hx hb dX2_isDearer_29 rfl (lv_at hl 1 rfl) ?_
    refine va_getN (D := D) (ci := 4) (v := .ref a2) (C := RX4) (T := TX4) (N := 6) hx hb hts hiX4 hown hK hP 0 rfl rfl 1 (by decide) hf29 (fun _ h9 => h9) rfl dX2_isDearer_30 ?_
    refine lv_iload_n hx hb dX2_isDearer_33 rfl (lv_at hl 3 rfl) ?_
    refine va_iald hx hb hK hP 2 0 rfl rfl (i := nI a) (vp_in_nI (by omega) (by omega)) dX2_isDearer_34 ?_
    refine cn_i (y := fb a) (congrArg fb (nI_clamp (by omega))) ?_
    refine lv_iadd hx hb dX2_isDearer_35 ?_
    refine lv_imul hx hb dX2_isDearer_36 ?_
    refine lv_aload hx hb dX2_isDearer_37 (lv_at hl 0 rfl) ?_
    refine lv_iload_n hx hb dX2_isDearer_39 rfl (lv_at hl 4 rfl) ?_
    refine va_iald hx hb hK hP 2 0 rfl rfl (i := nI b) (vp_in_nI (by omega) (by omega)) dX2_isDearer_40 ?_
    refine cn_i (y := fb b) (congrArg fb (nI_clamp (by omega))) ?_
    refine lv_imul hx hb dX2_isDearer_41 ?_
    refine lv_istore (lv' := [(5, .int (((fp a) * ((fg a) + (fb a))) * (fb b))), (4, .ref a2), (0, .ref h0), (1, .int sd), (2, .int (nI a)), (3, .int (nI b))]) hx hb dX2_isDearer_42 hl (by decide) rfl (fun ls hl => ?_)
    refine lv_aload_n hx hb dX2_isDearer_44 rfl (lv_at hl 2 rfl) ?_
    refine va_getN (D := D) (ci := 4) (v := .ref a3) (C := RX4) (T := TX4) (N := 6) hx hb hts hiX4 hown hK hP 0 rfl rfl 2 (by decide) hf32 (fun _ h9 => h9) rfl dX2_isDearer_45 ?_
    refine lv_iload_n hx hb dX2_isDearer_48 rfl (lv_at hl 5 rfl) ?_
    refine va_iald hx hb hK hP 3 0 rfl rfl (i := nI b) (vp_in_nI (by omega) (by omega)) dX2_isDearer_49 ?_
    refine cn_i (y := fp b) (congrArg fp (nI_clamp (by omega))) ?_
    refine lv_aload_n hx hb dX2_isDearer_50 rfl (lv_at hl 2 rfl) ?_
    refine va_getN (D := D) (ci := 4) (v := .ref a1) (C := RX4) (T := TX4) (N := 6) hx hb hts hiX4 hown hK hP 0 rfl rfl 0 (by decide) hf26 (fun _ h9 => h9) rfl dX2_isDearer_51 ?_
    refine lv_iload_n hx hb dX2_isDearer_54 rfl (lv_at hl 5 rfl) ?_
    refine va_iald hx hb hK hP 1 0 rfl rfl (i := nI b) (vp_in_nI (by omega) (by omega)) dX2_isDearer_55 ?_
    refine cn_i (y := fg b) (congrArg fg (nI_clamp (by omega))) ?_
    refine lv_aload_n hx hb dX2_isDearer_56 rfl (lv_at hl 2 rfl) ?_
    refine va_getN (D := D) (ci := 4) (v := .ref a2) (C := RX4) (T := TX4) (N := 6) hx hb hts hiX4 hown hK hP 0 rfl rfl 1 (by decide) hf29 (fun _ h9 => h9) rfl dX2_isDearer_57 ?_
    refine lv_iload_n hx hb dX2_isDearer_60 rfl (lv_at hl 5 rfl) ?_
    refine va_iald hx hb hK hP 2 0 rfl rfl (i := nI b) (vp_in_nI (by omega) (by omega)) dX2_isDearer_61 ?_
    refine cn_i (y := fb b) (congrArg fb (nI_clamp (by omega))) ?_
    refine lv_iadd hx hb dX2_isDearer_62 ?_
    refine lv_imul hx hb dX2_isDearer_63 ?_
    refine lv_aload hx hb dX2_isDearer_64 (lv_at hl 1 rfl) ?_
    refine lv_iload_n hx hb dX2_isDearer_66 rfl (lv_at hl 4 rfl) ?_
    refine va_iald hx hb hK hP 2 0 rfl rfl (i := nI a) (vp_in_nI (by omega) (by omega)) dX2_isDearer_67 ?_
    refine cn_i (y := fb a) (congrArg fb (nI_clamp (by omega))) ?_
    refine lv_imul hx hb dX2_isDearer_68 ?_
    refine lv_istore (lv' := [(6, .int (((fp b) * ((fg b) + (fb b))) * (fb a))), (5, .int (((fp a) * ((fg a) + (fb a))) * (fb b))), (4, .ref a2), (0, .ref h0), (1, .int sd), (2, .int (nI a)), (3, .int (nI b))]) hx hb dX2_isDearer_69 hl (by decide) rfl (fun ls hl => ?_)
    refine lv_iload hx hb dX2_isDearer_71 (lv_at hl 1 rfl) ?_
    refine lv_iload hx hb dX2_isDearer_73 (lv_at hl 0 rfl) ?_
    refine lv_icmp_le (tgt := 82) hx hb dX2_isDearer_75 (by decide) (fun c2 => ?_) (fun c2 => ?_)
    · skip
      refine lv_iconst (v := nI 0) hx hb dX2_isDearer_82 (by decide) ?_
      rw [← hQ]
      exact W.zret (v := nI 0) hx hb hr (by first | decide | (rw [nar_b01])) (fun t ht hW => ⟨⟨(nI 0), (), rfl, Or.inr ⟨rfl, by first | (simp only [dear, if_pos c1]; first | exact c2 | exact fun h => h c2) | (simp only [dear, if_neg c1]; first | exact c2 | exact fun h => h c2) | (simp only [dear, if_pos c1]; first | exact c3 | exact fun h => h c3) | (simp only [dear, if_neg c1]; first | exact c3 | exact fun h => h c3)⟩, trivial⟩, hS.F ht⟩) hS.2.2 dX2_isDearer_83
    · skip
      refine lv_iconst (v := nI 1) hx hb dX2_isDearer_78 (by decide) ?_
      refine lv_goto (tgt := 83) hx hb dX2_isDearer_79 (by decide) ?_
      rw [← hQ]
      exact W.zret (v := nI 1) hx hb hr (by first | decide | (rw [nar_b01])) (fun t ht hW => ⟨⟨(nI 1), (), rfl, Or.inl ⟨rfl, by first | (simp only [dear, if_pos c1]; first | exact c2 | exact fun h => h c2) | (simp only [dear, if_neg c1]; first | exact c2 | exact fun h => h c2) | (simp only [dear, if_pos c1]; first | exact c3 | exact fun h => h c3) | (simp only [dear, if_neg c1]; first | exact c3 | exact fun h => h c3)⟩, trivial⟩, hS.F ht⟩) hS.2.2 dX2_isDearer_83
  · skip
    refine lv_aload_n hx hb dX2_isDearer_4 rfl (lv_at hl 0 rfl) ?_
    refine va_getN (D := D) (ci := 4) (v := .ref a1) (C := RX4) (T := TX4) (N := 6) hx hb hts hiX4 hown hK hP 0 rfl rfl 0 (by decide) hf26 (fun _ h9 => h9) rfl dX2_isDearer_5 ?_
    refine lv_goto (tgt := 15) hx hb dX2_isDearer_8 (by decide) ?_
    refine lv_astore (lv' := [(4, .ref a1), (0, .ref h0), (1, .int sd), (2, .int (nI a)), (3, .int (nI b))]) hx hb dX2_isDearer_15 hl (by decide) rfl (fun ls hl => ?_)
    refine lv_aload_n hx hb dX2_isDearer_17 rfl (lv_at hl 1 rfl) ?_
    refine va_getN (D := D) (ci := 4) (v := .ref a3) (C := RX4) (T := TX4) (N := 6) hx hb hts hiX4 hown hK hP 0 rfl rfl 2 (by decide) hf32 (fun _ h9 => h9) rfl dX2_isDearer_18 ?_
    refine lv_iload_n hx hb dX2_isDearer_21 rfl (lv_at hl 3 rfl) ?_
    refine va_iald hx hb hK hP 3 0 rfl rfl (i := nI a) (vp_in_nI (by omega) (by omega)) dX2_isDearer_22 ?_
    refine cn_i (y := fp a) (congrArg fp (nI_clamp (by omega))) ?_
    refine lv_aload_n hx hb dX2_isDearer_23 rfl (lv_at hl 1 rfl) ?_
    refine va_getN (D := D) (ci := 4) (v := .ref a1) (C := RX4) (T := TX4) (N := 6) hx hb hts hiX4 hown hK hP 0 rfl rfl 0 (by decide) hf26 (fun _ h9 => h9) rfl dX2_isDearer_24 ?_
    refine lv_iload_n hx hb dX2_isDearer_27 rfl (lv_at hl 3 rfl) ?_
    refine va_iald hx hb hK hP 1 0 rfl rfl (i := nI a) (vp_in_nI (by omega) (by omega)) dX2_isDearer_28 ?_
    refine cn_i (y := fg a) (congrArg fg (nI_clamp (by omega))) ?_
    refine lv_aload_n hx hb dX2_isDearer_29 rfl (lv_at hl 1 rfl) ?_
    refine va_getN (D := D) (ci := 4) (v := .ref a2) (C := RX4) (T := TX4) (N := 6) hx hb hts hiX4 hown hK hP 0 rfl rfl 1 (by decide) hf29 (fun _ h9 => h9) rfl dX2_isDearer_30 ?_
    refine lv_iload_n hx hb dX2_isDearer_33 rfl (lv_at hl 3 rfl) ?_
    refine va_iald hx hb hK hP 2 0 rfl rfl (i := nI a) (vp_in_nI (by omega) (by omega)) dX2_isDearer_34 ?_
    refine cn_i (y := fb a) (congrArg fb (nI_clamp (by omega))) ?_
    refine lv_iadd hx hb dX2_isDearer_35 ?_
    refine lv_imul hx hb dX2_isDearer_36 ?_
    refine lv_aload hx hb dX2_isDearer_37 (lv_at hl 0 rfl) ?_
    refine lv_iload_n hx hb dX2_isDearer_39 rfl (lv_at hl 4 rfl) ?_
    refine va_iald hx hb hK hP 1 0 rfl rfl (i := nI b) (vp_in_nI (by omega) (by omega)) dX2_isDearer_40 ?_
    refine cn_i (y := fg b) (congrArg fg (nI_clamp (by omega))) ?_
    refine lv_imul hx hb dX2_isDearer_41 ?_
    refine lv_istore (lv' := [(5, .int (((fp a) * ((fg a) + (fb a))) * (fg b))), (4, .ref a1), (0, .ref h0), (1, .int sd), (2, .int (nI a)), (3, .int (nI b))]) hx hb dX2_isDearer_42 hl (by decide) rfl (fun ls hl => ?_)
    refine lv_aload_n hx hb dX2_isDearer_44 rfl (lv_at hl 2 rfl) ?_
    refine va_getN (D := D) (ci := 4) (v := .ref a3) (C := RX4) (T := TX4) (N := 6) hx hb hts hiX4 hown hK hP 0 rfl rfl 2 (by decide) hf32 (fun _ h9 => h9) rfl dX2_isDearer_45 ?_
    refine lv_iload_n hx hb dX2_isDearer_48 rfl (lv_at hl 5 rfl) ?_
    refine va_iald hx hb hK hP 3 0 rfl rfl (i := nI b) (vp_in_nI (by omega) (by omega)) dX2_isDearer_49 ?_
    refine cn_i (y := fp b) (congrArg fp (nI_clamp (by omega))) ?_
    refine lv_aload_n hx hb dX2_isDearer_50 rfl (lv_at hl 2 rfl) ?_
    refine va_getN (D := D) (ci := 4) (v := .ref a1) (C := RX4) (T := TX4) (N := 6) hx hb hts hiX4 hown hK hP 0 rfl rfl 0 (by decide) hf26 (fun _ h9 => h9) rfl dX2_isDearer_51 ?_
    refine lv_iload_n hx hb dX2_isDearer_54 rfl (lv_at hl 5 rfl) ?_
    refine va_iald hx hb hK hP 1 0 rfl rfl (i := nI b) (vp_in_nI (by omega) (by omega)) dX2_isDearer_55 ?_
    refine cn_i (y := fg b) (congrArg fg (nI_clamp (by omega))) ?_
    refine lv_aload_n hx hb dX2_isDearer_56 rfl (lv_at hl 2 rfl) ?_
    refine va_getN (D := D) (ci := 4) (v := .ref a2) (C := RX4) (T := TX4) (N := 6) hx hb hts hiX4 hown hK hP 0 rfl rfl 1 (by decide) hf29 (fun _ h9 => h9) rfl dX2_isDearer_57 ?_
    refine lv_iload_n hx hb dX2_isDearer_60 rfl (lv_at hl 5 rfl) ?_
    refine va_iald hx hb hK hP 2 0 rfl rfl (i := nI b) (vp_in_nI (by omega) (by omega)) dX2_isDearer_61 ?_
    refine cn_i (y := fb b) (congrArg fb (nI_clamp (by omega))) ?_
    refine lv_iadd hx hb dX2_isDearer_62 ?_
    refine lv_imul hx hb dX2_isDearer_63 ?_
    refine lv_aload hx hb dX2_isDearer_64 (lv_at hl 1 rfl) ?_
    refine lv_iload_n hx hb dX2_isDearer_66 rfl (lv_at hl 4 rfl) ?_
    refine va_iald hx hb hK hP 1 0 rfl rfl (i := nI a) (vp_in_nI (by omega) (by omega)) dX2_isDearer_67 ?_
    refine cn_i (y := fg a) (congrArg fg (nI_clamp (by omega))) ?_
    refine lv_imul hx hb dX2_isDearer_68 ?_
    refine lv_istore (lv' := [(6, .int (((fp b) * ((fg b) + (fb b))) * (fg a))), (5, .int (((fp a) * ((fg a) + (fb a))) * (fg b))), (4, .ref a1), (0, .ref h0), (1, .int sd), (2, .int (nI a)), (3, .int (nI b))]) hx hb dX2_isDearer_69 hl (by decide) rfl (fun ls hl => ?_)
    refine lv_iload hx hb dX2_isDearer_71 (lv_at hl 1 rfl) ?_
    refine lv_iload hx hb dX2_isDearer_73 (lv_at hl 0 rfl) ?_
    refine lv_icmp_le (tgt := 82) hx hb dX2_isDearer_75 (by decide) (fun c3 => ?_) (fun c3 => ?_)
    · skip
      refine lv_iconst (v := nI 0) hx hb dX2_isDearer_82 (by decide) ?_
      rw [← hQ]
      exact W.zret (v := nI 0) hx hb hr (by first | decide | (rw [nar_b01])) (fun t ht hW => ⟨⟨(nI 0), (), rfl, Or.inr ⟨rfl, by first | (simp only [dear, if_pos c1]; first | exact c2 | exact fun h => h c2) | (simp only [dear, if_neg c1]; first | exact c2 | exact fun h => h c2) | (simp only [dear, if_pos c1]; first | exact c3 | exact fun h => h c3) | (simp only [dear, if_neg c1]; first | exact c3 | exact fun h => h c3)⟩, trivial⟩, hS.F ht⟩) hS.2.2 dX2_isDearer_83
    · skip
      refine lv_iconst (v := nI 1) hx hb dX2_isDearer_78 (by decide) ?_
      refine lv_goto (tgt := 83) hx hb dX2_isDearer_79 (by decide) ?_
      rw [← hQ]
      exact W.zret (v := nI 1) hx hb hr (by first | decide | (rw [nar_b01])) (fun t ht hW => ⟨⟨(nI 1), (), rfl, Or.inl ⟨rfl, by first | (simp only [dear, if_pos c1]; first | exact c2 | exact fun h => h c2) | (simp only [dear, if_neg c1]; first | exact c2 | exact fun h => h c2) | (simp only [dear, if_pos c1]; first | exact c3 | exact fun h => h c3) | (simp only [dear, if_neg c1]; first | exact c3 | exact fun h => h c3)⟩, trivial⟩, hS.F ht⟩) hS.2.2 dX2_isDearer_83
def rm_c_X2_fillByRatios : Room := { frames := 1, cells := 0, slots := 0, locals := 26 }
set_option maxHeartbeats 4000000 in
set_option maxRecDepth 100000 in
theorem c_X2_fillByRatios (l : Launch) (D : va_G) (cI cJ cZ : ClassId) (h0 : Nat) (r1 : Nat) (h4 : Nat) (a1 : Nat) (a2 : Nat) (a3 : Nat) (n : Nat) (qc : Int32) (sn : Int32) (sg : Int32) (sd : Int32) (fr : Nat → Int32) (fg : Nat → Int32) (fb : Nat → Int32) (fp : Nat → Int32) (hn : n ≤ 9) : Met l yX2_fillByRatios wsX2_fillByRatios rm_c_X2_fillByRatios (pm_ D cI cJ cZ [.ref h0, .ref h4, .int sd] [(h0, .inr (2, [.ref r1, .int qc])), (r1, .inl (cI, 9, .inl fr)), (h4, .inr (4, [.ref a1, .ref a2, .ref a3, .int (nI n), .int sn, .int sg])), (a1, .inl (cI, 9, .inl fg)), (a2, .inl (cI, 9, .inl fb)), (a3, .inl (cI, 9, .inl fp))]) (va_Qv (fun (u : (Nat → Int32)) => ∀ z, z < n → ∃ y, y < n ∧ u z = nI y) (fun (u : (Nat → Int32)) t => va_P D vwCl [(h0, .inr (2, [.ref r1, .int (nI n)])), (r1, .inl (cI, 9, .inl u)), (h4, .inr (4, [.ref a1, .ref a2, .ref a3, .int (nI n), .int sn, .int sg])), (a1, .inl (cI, 9, .inl fg)), (a2, .inl (cI, 9, .inl fb)), (a3, .inl (cI, 9, .inl fp))] t.heap) (aA [h0, r1, h4, a1, a2, a3])) 0 0 (aA [h0, r1, h4, a1, a2, a3]) := by
  refine Met.ofW (cc := cX2_fillByRatios) (maxL := 5) (ret := none) (by decide) rfl ?_
  intro p e s m args below meth c s₁ B hml hv
  obtain ⟨rfl, hP, hKN, hD0⟩ := hv
  have hK := hKN.1
  have hx := B.exec
  have hb := B.bytes
  have hr := B.returns
  have hts := atoms_spec (ws := wsX2_fillByRatios) B.pre
  have hown : s.vm.findClass RX2 = some m.cls := findClass_of_methodNamed B.named
  have hlocks := B.notSynchronized
  have hiX2 : ∀ w ∈ wsX20, w ∈ wsX2_fillByRatios := by decide +kernel
  have hiX4 : ∀ w ∈ wsX40, w ∈ wsX2_fillByRatios := by decide +kernel
  have hf9 := hts (.fieldLink RX2 9 "LookBench$Queue" "row" "[I") (by decide +kernel)
  have hf15 := hts (.fieldLink RX2 15 "LookBench$Queue" "count" "I") (by decide +kernel)
  have hf19 := va_Nw.use (A := [.ref h0, .ref h4, .int sd].toArray) rfl (hKN.2 (.fieldLinkNest RX2 19 RX4 "count" "I" RX6) (by decide +kernel))
  obtain ⟨as, has⟩ : ∃ z : List Nat, z = [h0, r1, h4, a1, a2, a3] := ⟨_, rfl⟩
  have hD := hD0.addr (as := as) (by rw [has]; rfl)
  have hS : va_S (aA as) s.heap s.heap [] := va_S.rf
  have hl := lv_entry ([.ref h0, .ref h4, .int sd]) (n := 5) (Nat.le_of_ble_eq_true rfl)
  rw [lg_entry_eq]
  generalize (lg_sl ([.ref h0, .ref h4, .int sd]) ++ List.replicate (5 - (lg_sl ([.ref h0, .ref h4, .int sd])).length) Slot.unset).toArray = ls at hl ⊢
  have hl : lv_has ls 5 [(0, .ref h0), (1, .ref h4), (2, .int sd)] := hl
  generalize hQ : MQ below _ _ s _ _ _ = Q
  obtain ⟨H, hH⟩ : ∃ z, z = s.heap := ⟨_, rfl⟩
  have hP : va_P D vwCl [(h0, .inr (2, [.ref r1, .int qc])), (r1, .inl (cI, 9, .inl fr)), (h4, .inr (4, [.ref a1, .ref a2, .ref a3, .int (nI n), .int sn, .int sg])), (a1, .inl (cI, 9, .inl fg)), (a2, .inl (cI, 9, .inl fb)), (a3, .inl (cI, 9, .inl fp))] H := by rw [hH]; exact hP
  have hS : va_S (aA as) s.heap H [] := by rw [hH]; exact hS
  refine m_heap hH ?_
  clear hH
  refine lv_iconst (v := nI 0) hx hb dX2_fillByRatios_0 (by decide) ?_
  refine lv_istore_n (lv' := [(3, .int (nI 0)), (0, .ref h0), (1, .ref h4), (2, .int sd)]) hx hb dX2_fillByRatios_1 rfl hl (by decide) rfl (fun ls hl => ?_)
  have loop1 : ∀ (fu : Nat) (k : Nat) (ur : Nat → Int32) (H : Heap) (locs : List Loc) (ls : Array Slot), (k ≤ n ∧ n < k + fu) → (∀ z, z < k → ∃ y, y < k ∧ ur z = nI y) → va_P D vwCl [(h0, .inr (2, [.ref r1, .int qc])), (r1, .inl (cI, 9, .inl ur)), (h4, .inr (4, [.ref a1, .ref a2, .ref a3, .int (nI n), .int sn, .int sg])), (a1, .inl (cI, 9, .inl fg)), (a2, .inl (cI, 9, .inl fb)), (a3, .inl (cI, 9, .inl fp))] H → va_D (aA as) [(h0, .inr (2, [.ref r1, .int qc])), (r1, .inl (cI, 9, .inl ur)), (h4, .inr (4, [.ref a1, .ref a2, .ref a3, .int (nI n), .int sn, .int sg])), (a1, .inl (cI, 9, .inl fg)), (a2, .inl (cI, 9, .inl fb)), (a3, .inl (cI, 9, .inl fp))] → va_S (aA as) s.heap H locs → lv_has ls 5 [(3, .int (nI k)), (0, .ref h0), (1, .ref h4), (2, .int sd)] → W p l e (headSpec wsX2_fillByRatios rm_c_X2_fillByRatios).room s m ([.ref h0, .ref h4, .int sd] : List Value).toArray below meth c H locs 0 0 Q (F0 m 2 ls []) := by
    intro fu
    induction fu with
    | zero => intro k ur H locs ls hk hi; exact absurd hk (by omega)
    | succ fu ih1 =>
      intro k ur H locs ls hk hi hP hD hS hl
      refine lv_iload_n hx hb dX2_fillByRatios_2 rfl (lv_at hl 0 rfl) ?_
      refine lv_aload_n hx hb dX2_fillByRatios_3 rfl (lv_at hl 2 rfl) ?_
      refine va_getN (D := D) (ci := 4) (v := .int (nI n)) (C := RX4) (T := TX4) (N := 6) hx hb hts hiX4 hown hK hP 2 rfl rfl 3 (by decide) hf19 (fun _ h9 => h9) rfl dX2_fillByRatios_4 ?_
      refine lv_icmp_ge (tgt := 72) hx hb dX2_fillByRatios_7 (by decide) (fun c2 => ?_) (fun c2 => ?_)
      · skip
        have d2 := c2
        rw [nI_leI (by omega) (by omega)] at d2
        refine lv_aload_n hx hb dX2_fillByRatios_72 rfl (lv_at hl 1 rfl) ?_
        refine lv_aload_n hx hb dX2_fillByRatios_73 rfl (lv_at hl 2 rfl) ?_
        refine va_getN (D := D) (ci := 4) (v := .int (nI n)) (C := RX4) (T := TX4) (N := 6) hx hb hts hiX4 hown hK hP 2 rfl rfl 3 (by decide) hf19 (fun _ h9 => h9) rfl dX2_fillByRatios_74 ?_
        refine va_put (D := D) (ci := 2) (v := .int (nI n)) (ty := tyX2 1) (C := RX2) (T := TX2) (N := 2) hx hb hts hiX2 tyX2 tyX2_ok nmX2 hown hK hP hD hS 0 rfl rfl 1 (by decide) hf15 (fun _ h9 => h9) rfl (by decide +kernel) rfl rfl (Nat.le_of_ble_eq_true rfl) dX2_fillByRatios_77 (fun H locs hP hD hS => ?_)
        have hP : va_P D vwCl [(h0, .inr (2, [.ref r1, .int (nI n)])), (r1, .inl (cI, 9, .inl ur)), (h4, .inr (4, [.ref a1, .ref a2, .ref a3, .int (nI n), .int sn, .int sg])), (a1, .inl (cI, 9, .inl fg)), (a2, .inl (cI, 9, .inl fb)), (a3, .inl (cI, 9, .inl fp))] H := hP
        have hD : va_D (aA as) [(h0, .inr (2, [.ref r1, .int (nI n)])), (r1, .inl (cI, 9, .inl ur)), (h4, .inr (4, [.ref a1, .ref a2, .ref a3, .int (nI n), .int sn, .int sg])), (a1, .inl (cI, 9, .inl fg)), (a2, .inl (cI, 9, .inl fb)), (a3, .inl (cI, 9, .inl fp))] := hD
        rw [← hQ]
        exact W.vret hx hb hr (fun t ht hW => ⟨⟨(ur), rfl, fun z hz => by obtain ⟨y, h1, h2⟩ := hi z (by omega); exact ⟨y, by omega, h2⟩, m_at ht hP⟩, by rw [← has]; exact hS.F ht⟩) (by rw [← has]; exact hS.2.2) dX2_fillByRatios_80
      · skip
        have d2 := c2
        rw [nI_leI (by omega) (by omega)] at d2
        refine lv_iload_n hx hb dX2_fillByRatios_10 rfl (lv_at hl 0 rfl) ?_
        refine lv_istore (lv' := [(4, .int (nI k)), (3, .int (nI k)), (0, .ref h0), (1, .ref h4), (2, .int sd)]) hx hb dX2_fillByRatios_11 hl (by decide) rfl (fun ls hl => ?_)
        have loop3 : ∀ (fu : Nat) (t : Nat) (uq : Nat → Int32) (H : Heap) (locs : List Loc) (ls : Array Slot), (t < fu ∧ t ≤ k) → (∀ z, z ≤ k → z ≠ t → ∃ y, y < k ∧ uq z = nI y) → va_P D vwCl [(h0, .inr (2, [.ref r1, .int qc])), (r1, .inl (cI, 9, .inl uq)), (h4, .inr (4, [.ref a1, .ref a2, .ref a3, .int (nI n), .int sn, .int sg])), (a1, .inl (cI, 9, .inl fg)), (a2, .inl (cI, 9, .inl fb)), (a3, .inl (cI, 9, .inl fp))] H → va_D (aA as) [(h0, .inr (2, [.ref r1, .int qc])), (r1, .inl (cI, 9, .inl uq)), (h4, .inr (4, [.ref a1, .ref a2, .ref a3, .int (nI n), .int sn, .int sg])), (a1, .inl (cI, 9, .inl fg)), (a2, .inl (cI, 9, .inl fb)), (a3, .inl (cI, 9, .inl fp))] → va_S (aA as) s.heap H locs → lv_has ls 5 [(4, .int (nI t)), (3, .int (nI k)), (0, .ref h0), (1, .ref h4), (2, .int sd)] → W p l e (headSpec wsX2_fillByRatios rm_c_X2_fillByRatios).room s m ([.ref h0, .ref h4, .int sd] : List Value).toArray below meth c H locs 0 0 Q (F0 m 13 ls []) := by
          intro fu
          induction fu with
          | zero => intro t uq H locs ls ht hi2; exact absurd ht (by omega)
          | succ fu ih3 =>
            intro t uq H locs ls ht hi2 hP hD hS hl
            refine lv_iload hx hb dX2_fillByRatios_13 (lv_at hl 0 rfl) ?_
            refine lv_if_le (tgt := 58) hx hb dX2_fillByRatios_15 (by decide) (fun c4 => ?_) (fun c4 => ?_)
            · skip
              have d4 := c4
              rw [nz_le (by omega)] at d4
              refine lv_aload_n hx hb dX2_fillByRatios_58 rfl (lv_at hl 2 rfl) ?_
              refine va_get (D := D) (ci := 2) (v := .ref r1) (C := RX2) (T := TX2) (N := 2) hx hb hts hiX2 hown hK hP 0 rfl rfl 0 (by decide) hf9 (fun _ h9 => h9) rfl dX2_fillByRatios_59 ?_
              refine lv_iload hx hb dX2_fillByRatios_62 (lv_at hl 0 rfl) ?_
              refine lv_iload_n hx hb dX2_fillByRatios_64 rfl (lv_at hl 1 rfl) ?_
              refine va_iast hx hb hK hP hD hS 1 0 rfl rfl (i := nI t) (vp_in_nI (by omega) (by omega)) dX2_fillByRatios_65 (fun H locs hP hD hS => ?_)
              have hP : va_P D vwCl [(h0, .inr (2, [.ref r1, .int qc])), (r1, .inl (cI, 9, .inl (upd uq (nI t).toNatClampNeg (nI k)))), (h4, .inr (4, [.ref a1, .ref a2, .ref a3, .int (nI n), .int sn, .int sg])), (a1, .inl (cI, 9, .inl fg)), (a2, .inl (cI, 9, .inl fb)), (a3, .inl (cI, 9, .inl fp))] H := hP
              have hD : va_D (aA as) [(h0, .inr (2, [.ref r1, .int qc])), (r1, .inl (cI, 9, .inl (upd uq (nI t).toNatClampNeg (nI k)))), (h4, .inr (4, [.ref a1, .ref a2, .ref a3, .int (nI n), .int sn, .int sg])), (a1, .inl (cI, 9, .inl fg)), (a2, .inl (cI, 9, .inl fb)), (a3, .inl (cI, 9, .inl fp))] := hD
              rw [nI_clamp (n := t) (by omega)] at hP hD
              refine lv_iinc (v := nI (k + 1)) (lv' := [(3, .int (nI (k + 1))), (4, .int (nI t)), (0, .ref h0), (1, .ref h4), (2, .int sd)]) hx hb dX2_fillByRatios_66 hl (k := 1) rfl (nI_1 k) (by decide) rfl (fun ls hl => ?_)
              refine lv_goto (tgt := 2) hx hb dX2_fillByRatios_69 (by decide) ?_
              exact ih1 (k + 1) (upd uq t (nI k)) _ _ _ (by omega) (fun z hz => by by_cases e9 : z = t; exact ⟨k, by omega, by simp [upd, e9]⟩; exact (by obtain ⟨y, h1, h2⟩ := hi2 z (by omega) e9; exact ⟨y, by omega, by simp [upd, e9, h2]⟩)) hP hD hS (lv_sub hl [0, 2, 3, 4] rfl)
            · skip
              have d4 := c4
              rw [nz_le (by omega)] at d4
              refine lv_aload_n hx hb dX2_fillByRatios_18 rfl (lv_at hl 3 rfl) ?_
              refine lv_iload_n hx hb dX2_fillByRatios_19 rfl (lv_at hl 4 rfl) ?_
              refine lv_aload_n hx hb dX2_fillByRatios_20 rfl (lv_at hl 2 rfl) ?_
              refine va_get (D := D) (ci := 2) (v := .ref r1) (C := RX2) (T := TX2) (N := 2) hx hb hts hiX2 hown hK hP 0 rfl rfl 0 (by decide) hf9 (fun _ h9 => h9) rfl dX2_fillByRatios_21 ?_
              refine lv_iload hx hb dX2_fillByRatios_24 (lv_at hl 0 rfl) ?_
              refine lv_iconst (v := nI 1) hx hb dX2_fillByRatios_26 (by decide) ?_
              refine lv_isub hx hb dX2_fillByRatios_27 ?_
              refine cn_i (y := nI (t - 1)) (pk_sub (a := t) (b := 1) (by omega)) ?_
              obtain ⟨y9, hy9, ey9⟩ := hi2 (t - 1) (by omega) (by omega)
              refine va_iald hx hb hK hP 1 0 rfl rfl (i := nI (t - 1)) (vp_in_nI (by omega) (by omega)) dX2_fillByRatios_28 ?_
              refine cn_i (y := nI y9) ((congrArg uq (nI_clamp (by omega))).trans ey9) ?_
              refine lv_iload_n hx hb dX2_fillByRatios_29 rfl (lv_at hl 1 rfl) ?_
              refine pu_i (va_runS (As := [.ref h4, .int sd, .int (nI y9), .int (nI k)]) (rest := []) ⟨hx, hb, hml, hown, hts⟩ (c_X2_isDearer l D cI cJ cZ h4 a1 a2 a3 y9 k (nI n) sn sg sd fg fb fp (by first | assumption | omega) (by first | assumption | omega)) (va_cwS 4 hts gX2_fillByRatios_X2_isDearer rfl rfl rfl (by decide +kernel) ⟨Nat.le_of_ble_eq_true rfl, Nat.le_of_ble_eq_true rfl⟩) ⟨pc_blind, fun U hU hW => ⟨rfl, by rw [hU]; exact hP.sub (ws' := [(h4, .inr (4, [.ref a1, .ref a2, .ref a3, .int (nI n), .int sn, .int sg])), (a1, .inl (cI, 9, .inl fg)), (a2, .inl (cI, 9, .inl fb)), (a3, .inl (cI, 9, .inl fp))]) [2, 3, 4, 5] rfl, hKN.warm hW⟩⟩ rfl rfl hl.1 rfl (lv_room (Nat.le_of_ble_eq_true rfl)) dX2_fillByRatios_30 ⟨Nat.le_of_ble_eq_true rfl, Nat.le_of_ble_eq_true rfl⟩) hS hP (fun r5 H locs w5 hP hS => ?_)
              have w5 : B01 r5 (dear fg fb fp sd y9 k) := w5
              rcases w5 with ⟨rfl, w5⟩ | ⟨rfl, w5⟩
              · skip
                refine lv_if_eq (tgt := 58) hx hb dX2_fillByRatios_33 (by decide) (fun c6 => ?_) (fun c6 => ?_)
                · exact absurd c6 (by first | decide | simp [nI_pos, nI_pos', *] | exact nz_lt (by omega) | exact fun h => h (nz_ge (by omega)))
                · skip
                  refine lv_aload_n hx hb dX2_fillByRatios_36 rfl (lv_at hl 2 rfl) ?_
                  refine va_get (D := D) (ci := 2) (v := .ref r1) (C := RX2) (T := TX2) (N := 2) hx hb hts hiX2 hown hK hP 0 rfl rfl 0 (by decide) hf9 (fun _ h9 => h9) rfl dX2_fillByRatios_37 ?_
                  refine lv_iload hx hb dX2_fillByRatios_40 (lv_at hl 0 rfl) ?_
                  refine lv_aload_n hx hb dX2_fillByRatios_42 rfl (lv_at hl 2 rfl) ?_
                  refine va_get (D := D) (ci := 2) (v := .ref r1) (C := RX2) (T := TX2) (N := 2) hx hb hts hiX2 hown hK hP 0 rfl rfl 0 (by decide) hf9 (fun _ h9 => h9) rfl dX2_fillByRatios_43 ?_
                  refine lv_iload hx hb dX2_fillByRatios_46 (lv_at hl 0 rfl) ?_
                  refine lv_iconst (v := nI 1) hx hb dX2_fillByRatios_48 (by decide) ?_
                  refine lv_isub hx hb dX2_fillByRatios_49 ?_
                  refine cn_i (y := nI (t - 1)) (pk_sub (a := t) (b := 1) (by omega)) ?_
                  refine va_iald hx hb hK hP 1 0 rfl rfl (i := nI (t - 1)) (vp_in_nI (by omega) (by omega)) dX2_fillByRatios_50 ?_
                  refine cn_i (y := uq (t - 1)) (congrArg uq (nI_clamp (by omega))) ?_
                  refine va_iast hx hb hK hP hD hS 1 0 rfl rfl (i := nI t) (vp_in_nI (by omega) (by omega)) dX2_fillByRatios_51 (fun H locs hP hD hS => ?_)
                  have hP : va_P D vwCl [(h0, .inr (2, [.ref r1, .int qc])), (r1, .inl (cI, 9, .inl (upd uq (nI t).toNatClampNeg (uq (t - 1))))), (h4, .inr (4, [.ref a1, .ref a2, .ref a3, .int (nI n), .int sn, .int sg])), (a1, .inl (cI, 9, .inl fg)), (a2, .inl (cI, 9, .inl fb)), (a3, .inl (cI, 9, .inl fp))] H := hP
                  have hD : va_D (aA as) [(h0, .inr (2, [.ref r1, .int qc])), (r1, .inl (cI, 9, .inl (upd uq (nI t).toNatClampNeg (uq (t - 1))))), (h4, .inr (4, [.ref a1, .ref a2, .ref a3, .int (nI n), .int sn, .int sg])), (a1, .inl (cI, 9, .inl fg)), (a2, .inl (cI, 9, .inl fb)), (a3, .inl (cI, 9, .inl fp))] := hD
                  rw [nI_clamp (n := t) (by omega)] at hP hD
                  refine lv_iinc (v := nI (t - 1)) (lv' := [(4, .int (nI (t - 1))), (3, .int (nI k)), (0, .ref h0), (1, .ref h4), (2, .int sd)]) hx hb dX2_fillByRatios_52 hl (k := 0) rfl (sb_m1 (by omega)) (by decide) rfl (fun ls hl => ?_)
                  refine lv_goto (tgt := 13) hx hb dX2_fillByRatios_55 (by decide) ?_
                  exact ih3 (t - 1) (upd uq t (uq (t - 1))) _ _ _ (by omega) (fun z h1 h2 => by by_cases e9 : z = t; exact (by obtain ⟨y, h3, h4⟩ := hi2 (t - 1) (by omega) (by omega); exact ⟨y, h3, by simp [upd, e9, h4]⟩); exact (by obtain ⟨y, h3, h4⟩ := hi2 z h1 e9; exact ⟨y, h3, by simp [upd, e9, h4]⟩)) hP hD hS (lv_sub hl [0, 1, 2, 3, 4] rfl)
              · skip
                refine lv_if_eq (tgt := 58) hx hb dX2_fillByRatios_33 (by decide) (fun c7 => ?_) (fun c7 => ?_)
                · skip
                  refine lv_aload_n hx hb dX2_fillByRatios_58 rfl (lv_at hl 2 rfl) ?_
                  refine va_get (D := D) (ci := 2) (v := .ref r1) (C := RX2) (T := TX2) (N := 2) hx hb hts hiX2 hown hK hP 0 rfl rfl 0 (by decide) hf9 (fun _ h9 => h9) rfl dX2_fillByRatios_59 ?_
                  refine lv_iload hx hb dX2_fillByRatios_62 (lv_at hl 0 rfl) ?_
                  refine lv_iload_n hx hb dX2_fillByRatios_64 rfl (lv_at hl 1 rfl) ?_
                  refine va_iast hx hb hK hP hD hS 1 0 rfl rfl (i := nI t) (vp_in_nI (by omega) (by omega)) dX2_fillByRatios_65 (fun H locs hP hD hS => ?_)
                  have hP : va_P D vwCl [(h0, .inr (2, [.ref r1, .int qc])), (r1, .inl (cI, 9, .inl (upd uq (nI t).toNatClampNeg (nI k)))), (h4, .inr (4, [.ref a1, .ref a2, .ref a3, .int (nI n), .int sn, .int sg])), (a1, .inl (cI, 9, .inl fg)), (a2, .inl (cI, 9, .inl fb)), (a3, .inl (cI, 9, .inl fp))] H := hP
                  have hD : va_D (aA as) [(h0, .inr (2, [.ref r1, .int qc])), (r1, .inl (cI, 9, .inl (upd uq (nI t).toNatClampNeg (nI k)))), (h4, .inr (4, [.ref a1, .ref a2, .ref a3, .int (nI n), .int sn, .int sg])), (a1, .inl (cI, 9, .inl fg)), (a2, .inl (cI, 9, .inl fb)), (a3, .inl (cI, 9, .inl fp))] := hD
                  rw [nI_clamp (n := t) (by omega)] at hP hD
                  refine lv_iinc (v := nI (k + 1)) (lv' := [(3, .int (nI (k + 1))), (4, .int (nI t)), (0, .ref h0), (1, .ref h4), (2, .int sd)]) hx hb dX2_fillByRatios_66 hl (k := 1) rfl (nI_1 k) (by decide) rfl (fun ls hl => ?_)
                  refine lv_goto (tgt := 2) hx hb dX2_fillByRatios_69 (by decide) ?_
                  exact ih1 (k + 1) (upd uq t (nI k)) _ _ _ (by omega) (fun z hz => by by_cases e9 : z = t; exact ⟨k, by omega, by simp [upd, e9]⟩; exact (by obtain ⟨y, h1, h2⟩ := hi2 z (by omega) e9; exact ⟨y, by omega, by simp [upd, e9, h2]⟩)) hP hD hS (lv_sub hl [0, 2, 3, 4] rfl)
                · exact absurd c7 (by first | decide | simp [nI_pos, nI_pos', *] | exact nz_lt (by omega) | exact fun h => h (nz_ge (by omega)))
        exact loop3 (k + 1) k ur _ _ _ (by omega) (fun z h1 h2 => hi z (by omega)) hP hD hS (lv_sub hl [0, 1, 2, 3, 4] rfl)
  exact loop1 (n + 1) 0 fr _ _ _ (by omega) (fun z hz => absurd hz (by omega)) hP hD hS (lv_sub hl [0, 1, 2, 3] rfl)
def rm_c_X1_forget : Room := { frames := 0, cells := 0, slots := 0, locals := 0 }
set_option maxHeartbeats 4000000 in
set_option maxRecDepth 100000 in
theorem c_X1_forget (l : Launch) (D : va_G) (cI cJ cZ : ClassId) (h0 : Nat) (s1 : Nat) (s2 : Nat) (s3 : Nat) (p4 : Nat) (p5 : Nat) (p6 : Nat) (fr : Int32)  : Met l yX1_forget wsX1_forget rm_c_X1_forget (pm_ D cI cJ cZ [.ref h0] [(h0, .inr (1, [.ref s1, .ref s2, .ref s3, .ref p4, .ref p5, .ref p6, .int fr]))]) (va_Qv (fun (u : Unit) => True) (fun (u : Unit) t => va_P D vwCl [(h0, .inr (1, [.ref s1, .ref s2, .ref s3, .ref p4, .ref p5, .ref p6, .int (nI 0)]))] t.heap) (aA [h0])) 0 0 (aA [h0]) := by
  refine Met.ofW (cc := cX1_forget) (maxL := 1) (ret := none) (by decide) rfl ?_
  intro p e s m args below meth c s₁ B hml hv
  obtain ⟨rfl, hP, hKN, hD0⟩ := hv
  have hK := hKN.1
  have hx := B.exec
  have hb := B.bytes
  have hr := B.returns
  have hts := atoms_spec (ws := wsX1_forget) B.pre
  have hown : s.vm.findClass RX1 = some m.cls := findClass_of_methodNamed B.named
  have hlocks := B.notSynchronized
  have hiX1 : ∀ w ∈ wsX10, w ∈ wsX1_forget := by decide +kernel
  have hf34 := hts (.fieldLink RX1 34 "LookBench$Plans" "fresh" "Z") (by decide +kernel)
  obtain ⟨as, has⟩ : ∃ z : List Nat, z = [h0] := ⟨_, rfl⟩
  have hD := hD0.addr (as := as) (by rw [has]; rfl)
  have hS : va_S (aA as) s.heap s.heap [] := va_S.rf
  have hl := lv_entry ([.ref h0]) (n := 1) (Nat.le_of_ble_eq_true rfl)
  rw [lg_entry_eq]
  generalize (lg_sl ([.ref h0]) ++ List.replicate (1 - (lg_sl ([.ref h0])).length) Slot.unset).toArray = ls at hl ⊢
  have hl : lv_has ls 1 [(0, .ref h0)] := hl
  generalize hQ : MQ below _ _ s _ _ _ = Q
  obtain ⟨H, hH⟩ : ∃ z, z = s.heap := ⟨_, rfl⟩
  have hP : va_P D vwCl [(h0, .inr (1, [.ref s1, .ref s2, .ref s3, .ref p4, .ref p5, .ref p6, .int fr]))] H := by rw [hH]; exact hP
  have hS : va_S (aA as) s.heap H [] := by rw [hH]; exact hS
  refine m_heap hH ?_
  clear hH
  refine lv_aload_n hx hb dX1_forget_0 rfl (lv_at hl 0 rfl) ?_
  refine lv_iconst (v := nI 0) hx hb dX1_forget_1 (by decide) ?_
  refine va_put (D := D) (ci := 1) (v := .int (nI 0)) (ty := tyX1 6) (C := RX1) (T := TX1) (N := 7) hx hb hts hiX1 tyX1 tyX1_ok nmX1 hown hK hP hD hS 0 rfl rfl 6 (by decide) hf34 (fun _ h9 => h9) rfl (by decide +kernel) (by decide) (by decide) (Nat.le_of_ble_eq_true rfl) dX1_forget_2 (fun H locs hP hD hS => ?_)
  have hP : va_P D vwCl [(h0, .inr (1, [.ref s1, .ref s2, .ref s3, .ref p4, .ref p5, .ref p6, .int (nI 0)]))] H := hP
  have hD : va_D (aA as) [(h0, .inr (1, [.ref s1, .ref s2, .ref s3, .ref p4, .ref p5, .ref p6, .int (nI 0)]))] := hD
  rw [← hQ]
  exact W.vret hx hb hr (fun t ht hW => ⟨⟨(), rfl, trivial, m_at ht hP⟩, by rw [← has]; exact hS.F ht⟩) (by rw [← has]; exact hS.2.2) dX1_forget_5
def rm_c_X4_init : Room := { frames := 2, cells := 3, slots := 27, locals := 46 }
set_option maxHeartbeats 4000000 in
set_option maxRecDepth 100000 in
theorem c_X4_init (l : Launch) (D : va_G) (cI cJ cZ : ClassId) (sz : Nat) (h0 : Nat)  : Met l yX4_init wsX4_init rm_c_X4_init (pn_ D cI cJ cZ sz [.ref h0] [(h0, .inr (4, [.null, .null, .null, .int 0, .int 0, .int 0]))]) (va_Qv (fun (u : (Nat → Int32) × (Nat → Int32) × (Nat → Int32)) => ∀ z, z < 9 → u.1 z = nI 1 ∧ u.2.1 z = nI 1 ∧ u.2.2 z = nI 1) (fun (u : (Nat → Int32) × (Nat → Int32) × (Nat → Int32)) t => ∃ (a1 a2 a3 : Nat), va_P D vwCl [(h0, .inr (4, [.ref a1, .ref a2, .ref a3, .int (nI 1), .int (nI 0), .int (nI 0)])), (a1, .inl (cI, 9, .inl u.1)), (a2, .inl (cI, 9, .inl u.2.1)), (a3, .inl (cI, 9, .inl u.2.2))] t.heap ∧ va_D (va_A [(h0, .inr (4, [.null, .null, .null, .int 0, .int 0, .int 0]))] sz) [(h0, .inr (4, [.ref a1, .ref a2, .ref a3, .int (nI 1), .int (nI 0), .int (nI 0)])), (a1, .inl (cI, 9, .inl u.1)), (a2, .inl (cI, 9, .inl u.2.1)), (a3, .inl (cI, 9, .inl u.2.2))]) (va_A [(h0, .inr (4, [.null, .null, .null, .int 0, .int 0, .int 0]))] sz)) 3 27 (va_A [(h0, .inr (4, [.null, .null, .null, .int 0, .int 0, .int 0]))] sz) := by
  refine Met.ofW (cc := cX4_init) (maxL := 1) (ret := none) (by decide) rfl ?_
  intro p e s m args below meth c s₁ B hml hv
  obtain ⟨rfl, hsz, hP, hKN, hD0⟩ := hv
  have hK := hKN.1
  have hx := B.exec
  have hb := B.bytes
  have hr := B.returns
  have hts := atoms_spec (ws := wsX4_init) B.pre
  have hown : s.vm.findClass RX4 = some m.cls := findClass_of_methodNamed B.named
  have hlocks := B.notSynchronized
  have hin : meth.name = "<init>" := (name_of_methodNamed B.named B.method).1
  have hiX4 : ∀ w ∈ wsX40, w ∈ wsX4_init := by decide +kernel
  have hf9 := hts (.fieldLink RX4 9 "LookBench$Shelf" "goods" "[I") (by decide +kernel)
  have hf15 := hts (.fieldLink RX4 15 "LookBench$Shelf" "bads" "[I") (by decide +kernel)
  have hf18 := hts (.fieldLink RX4 18 "LookBench$Shelf" "prices" "[I") (by decide +kernel)
  subst hsz
  have hD := hD0.self (sz := s.heap.size)
  generalize hAe : va_A [(h0, .inr (4, [.null, .null, .null, .int 0, .int 0, .int 0]))] s.heap.size = A at hD ⊢
  have hA : ∀ q : Nat, s.heap.size ≤ q → A q := fun q h => by rw [← hAe]; exact Or.inr h
  have hS : va_S A s.heap s.heap [] := va_S.rf
  have hl := lv_entry ([.ref h0]) (n := 1) (Nat.le_of_ble_eq_true rfl)
  rw [lg_entry_eq]
  generalize (lg_sl ([.ref h0]) ++ List.replicate (1 - (lg_sl ([.ref h0])).length) Slot.unset).toArray = ls at hl ⊢
  have hl : lv_has ls 1 [(0, .ref h0)] := hl
  generalize hQ : MQ below _ _ s _ _ _ = Q
  obtain ⟨H, hH⟩ : ∃ z, z = s.heap := ⟨_, rfl⟩
  have hP : va_P D vwCl [(h0, .inr (4, [.null, .null, .null, .int 0, .int 0, .int 0]))] H := by rw [hH]; exact hP
  have hS : va_S A s.heap H [] := by rw [hH]; exact hS
  refine m_heap hH ?_
  clear hH
  refine lv_aload_n hx hb dX4_init_0 rfl (lv_at hl 0 rfl) ?_
  refine W.objInit hx hb hown (hts (.methodLink RX4 3 objectInit) (by decide +kernel)) (hts (.instanceMethod objectInit) (by decide +kernel)) (hts (.code objectInit ⟨#[0xb1]⟩ 1 none) (by decide +kernel)) rfl (by rw [hml]; exact hl.1) rfl dX4_init_1 (Nat.le_of_ble_eq_true rfl) (Nat.le_of_ble_eq_true rfl) ?_
  refine W.eq (g2 := F0 m 4 ls []) rfl ?_
  refine lv_aload_n hx hb dX4_init_4 rfl (lv_at hl 0 rfl) ?_
  refine lv_bipush (v := nI 9) hx hb dX4_init_5 (by decide) ?_
  refine va_newa hx hb (hts (.arrayClass .int) (by decide +kernel)) rfl hK hP hD hS hA (n := nI 9) (N' := 9) (a0 := (9, .inl (fun _ => 0))) (fun _ => rfl) (by decide) (nI_clamp (by decide)) (by decide) (Nat.le_of_ble_eq_true rfl) (Nat.le_of_ble_eq_true rfl) dX4_init_7 (fun q2 cA2 H hK2 hP hD hS => ?_)
  obtain rfl : cI = cA2 := m_arr hK hK2 0 3 rfl rfl rfl
  have hP : va_P D vwCl [(h0, .inr (4, [.null, .null, .null, .int 0, .int 0, .int 0])), (q2, .inl (cI, 9, .inl (fun _ => 0)))] H := hP
  have hD : va_D A [(h0, .inr (4, [.null, .null, .null, .int 0, .int 0, .int 0])), (q2, .inl (cI, 9, .inl (fun _ => 0)))] := hD
  refine W.widen (k := 1) (n := 9) (by omega) (by omega) ?_
  refine va_putF (D := D) (ci := 4) (v := .ref q2) (ty := tyX4 0) (C := RX4) (T := TX4) (N := 6) hx hb hts hiX4 tyX4 tyX4_ok nmX4 hown hK hP hD hS 0 rfl rfl 0 (by decide) hf9 (fun _ h9 => h9) rfl hin rfl (by decide +kernel) rfl rfl (Nat.le_of_ble_eq_true rfl) dX4_init_9 (fun H locs hP hD hS => ?_)
  have hP : va_P D vwCl [(h0, .inr (4, [.ref q2, .null, .null, .int 0, .int 0, .int 0])), (q2, .inl (cI, 9, .inl (fun _ => 0)))] H := hP
  have hD : va_D A [(h0, .inr (4, [.ref q2, .null, .null, .int 0, .int 0, .int 0])), (q2, .inl (cI, 9, .inl (fun _ => 0)))] := hD
  refine lv_aload_n hx hb dX4_init_12 rfl (lv_at hl 0 rfl) ?_
  refine lv_bipush (v := nI 9) hx hb dX4_init_13 (by decide) ?_
  refine va_newa hx hb (hts (.arrayClass .int) (by decide +kernel)) rfl hK hP hD hS hA (n := nI 9) (N' := 9) (a0 := (9, .inl (fun _ => 0))) (fun _ => rfl) (by decide) (nI_clamp (by decide)) (by decide) (Nat.le_of_ble_eq_true rfl) (Nat.le_of_ble_eq_true rfl) dX4_init_15 (fun q3 cA3 H hK3 hP hD hS => ?_)
  obtain rfl : cI = cA3 := m_arr hK hK3 0 3 rfl rfl rfl
  have hP : va_P D vwCl [(h0, .inr (4, [.ref q2, .null, .null, .int 0, .int 0, .int 0])), (q2, .inl (cI, 9, .inl (fun _ => 0))), (q3, .inl (cI, 9, .inl (fun _ => 0)))] H := hP
  have hD : va_D A [(h0, .inr (4, [.ref q2, .null, .null, .int 0, .int 0, .int 0])), (q2, .inl (cI, 9, .inl (fun _ => 0))), (q3, .inl (cI, 9, .inl (fun _ => 0)))] := hD
  refine W.widen (k := 2) (n := 18) (by omega) (by omega) ?_
  refine va_putF (D := D) (ci := 4) (v := .ref q3) (ty := tyX4 1) (C := RX4) (T := TX4) (N := 6) hx hb hts hiX4 tyX4 tyX4_ok nmX4 hown hK hP hD hS 0 rfl rfl 1 (by decide) hf15 (fun _ h9 => h9) rfl hin rfl (by decide +kernel) rfl rfl (Nat.le_of_ble_eq_true rfl) dX4_init_17 (fun H locs hP hD hS => ?_)
  have hP : va_P D vwCl [(h0, .inr (4, [.ref q2, .ref q3, .null, .int 0, .int 0, .int 0])), (q2, .inl (cI, 9, .inl (fun _ => 0))), (q3, .inl (cI, 9, .inl (fun _ => 0)))] H := hP
  have hD : va_D A [(h0, .inr (4, [.ref q2, .ref q3, .null, .int 0, .int 0, .int 0])), (q2, .inl (cI, 9, .inl (fun _ => 0))), (q3, .inl (cI, 9, .inl (fun _ => 0)))] := hD
  refine lv_aload_n hx hb dX4_init_20 rfl (lv_at hl 0 rfl) ?_
  refine lv_bipush (v := nI 9) hx hb dX4_init_21 (by decide) ?_
  refine va_newa hx hb (hts (.arrayClass .int) (by decide +kernel)) rfl hK hP hD hS hA (n := nI 9) (N' := 9) (a0 := (9, .inl (fun _ => 0))) (fun _ => rfl) (by decide) (nI_clamp (by decide)) (by decide) (Nat.le_of_ble_eq_true rfl) (Nat.le_of_ble_eq_true rfl) dX4_init_23 (fun q4 cA4 H hK4 hP hD hS => ?_)
  obtain rfl : cI = cA4 := m_arr hK hK4 0 3 rfl rfl rfl
  have hP : va_P D vwCl [(h0, .inr (4, [.ref q2, .ref q3, .null, .int 0, .int 0, .int 0])), (q2, .inl (cI, 9, .inl (fun _ => 0))), (q3, .inl (cI, 9, .inl (fun _ => 0))), (q4, .inl (cI, 9, .inl (fun _ => 0)))] H := hP
  have hD : va_D A [(h0, .inr (4, [.ref q2, .ref q3, .null, .int 0, .int 0, .int 0])), (q2, .inl (cI, 9, .inl (fun _ => 0))), (q3, .inl (cI, 9, .inl (fun _ => 0))), (q4, .inl (cI, 9, .inl (fun _ => 0)))] := hD
  refine W.widen (k := 3) (n := 27) (by omega) (by omega) ?_
  refine va_putF (D := D) (ci := 4) (v := .ref q4) (ty := tyX4 2) (C := RX4) (T := TX4) (N := 6) hx hb hts hiX4 tyX4 tyX4_ok nmX4 hown hK hP hD hS 0 rfl rfl 2 (by decide) hf18 (fun _ h9 => h9) rfl hin rfl (by decide +kernel) rfl rfl (Nat.le_of_ble_eq_true rfl) dX4_init_25 (fun H locs hP hD hS => ?_)
  have hP : va_P D vwCl [(h0, .inr (4, [.ref q2, .ref q3, .ref q4, .int 0, .int 0, .int 0])), (q2, .inl (cI, 9, .inl (fun _ => 0))), (q3, .inl (cI, 9, .inl (fun _ => 0))), (q4, .inl (cI, 9, .inl (fun _ => 0)))] H := hP
  have hD : va_D A [(h0, .inr (4, [.ref q2, .ref q3, .ref q4, .int 0, .int 0, .int 0])), (q2, .inl (cI, 9, .inl (fun _ => 0))), (q3, .inl (cI, 9, .inl (fun _ => 0))), (q4, .inl (cI, 9, .inl (fun _ => 0)))] := hD
  refine lv_aload_n hx hb dX4_init_28 rfl (lv_at hl 0 rfl) ?_
  refine lv_iconst (v := nI 1) hx hb dX4_init_29 (by decide) ?_
  refine mu_v (n := 4) (wc := [(h0, .inr (4, [.ref q2, .ref q3, .ref q4, .int 0, .int 0, .int 0])), (q2, .inl (cI, 9, .inl (fun _ => 0))), (q3, .inl (cI, 9, .inl (fun _ => 0))), (q4, .inl (cI, 9, .inl (fun _ => 0)))]) (va_runV (As := [.int (nI 1)]) (rest := []) ⟨hx, hb, hml, hown, hts⟩ (c_X4_lay l D cI cJ cZ h0 q2 q3 q4 0 0 0 (nI 1) (fun _ => 0) (fun _ => 0) (fun _ => 0)) (cwV 1 hts gX4_init_X4_lay rfl rfl rfl (by decide +kernel) ⟨Nat.le_of_ble_eq_true rfl, Nat.le_of_ble_eq_true rfl⟩) ⟨pm_blind, va_recv hK hP (ci := 4) (q0 := 0) rfl rfl, fun U hU hW => ⟨rfl, by rw [hU]; exact hP.sub (ws' := [(h0, .inr (4, [.ref q2, .ref q3, .ref q4, .int 0, .int 0, .int 0])), (q2, .inl (cI, 9, .inl (fun _ => 0))), (q3, .inl (cI, 9, .inl (fun _ => 0))), (q4, .inl (cI, 9, .inl (fun _ => 0)))]) [0, 1, 2, 3] rfl, hKN.warm hW, (hD.sub (ws' := [(h0, .inr (4, [.ref q2, .ref q3, .ref q4, .int 0, .int 0, .int 0])), (q2, .inl (cI, 9, .inl (fun _ => 0))), (q3, .inl (cI, 9, .inl (fun _ => 0))), (q4, .inl (cI, 9, .inl (fun _ => 0)))]) [0, 1, 2, 3] (by decide) rfl).weaken (fun _ _ _ _ => trivial)⟩⟩ rfl rfl hl.1 rfl (lv_room (Nat.le_of_ble_eq_true rfl)) dX4_init_30 ⟨Nat.le_of_ble_eq_true rfl, Nat.le_of_ble_eq_true rfl⟩) hS hP hD (fun (u : (Nat → Int32) × (Nat → Int32) × (Nat → Int32)) => [(h0, .inr (4, [.ref q2, .ref q3, .ref q4, .int (nI 1), .int (nI 0), .int (nI 0)])), (q2, .inl (cI, 9, .inl u.1)), (q3, .inl (cI, 9, .inl u.2.1)), (q4, .inl (cI, 9, .inl u.2.2))]) [0, 1, 2, 3] [] rfl rfl (fun _ => rfl) (fun _ => rfl) (fun _ => rfl) (fun _ => rfl) (by decide) (by decide) (fun u5 H locs w5 hP hD hS => ?_)
  obtain ⟨u5_ug, u5_ub, u5_ur⟩ := u5
  have hP : va_P D vwCl [(h0, .inr (4, [.ref q2, .ref q3, .ref q4, .int (nI 1), .int (nI 0), .int (nI 0)])), (q2, .inl (cI, 9, .inl u5_ug)), (q3, .inl (cI, 9, .inl u5_ub)), (q4, .inl (cI, 9, .inl u5_ur))] H := hP
  have hD : va_D A [(h0, .inr (4, [.ref q2, .ref q3, .ref q4, .int (nI 1), .int (nI 0), .int (nI 0)])), (q2, .inl (cI, 9, .inl u5_ug)), (q3, .inl (cI, 9, .inl u5_ub)), (q4, .inl (cI, 9, .inl u5_ur))] := hD
  have w5 : ∀ z, z < 9 → u5_ug z = nI 1 ∧ u5_ub z = nI 1 ∧ u5_ur z = nI 1 := w5
  rw [← hQ]
  have hP9 := hP.sub (ws' := [(h0, .inr (4, [.ref q2, .ref q3, .ref q4, .int (nI 1), .int (nI 0), .int (nI 0)])), (q2, .inl (cI, 9, .inl u5_ug)), (q3, .inl (cI, 9, .inl u5_ub)), (q4, .inl (cI, 9, .inl u5_ur))]) [0, 1, 2, 3] rfl
  have hD9 := hD.sub (ws' := [(h0, .inr (4, [.ref q2, .ref q3, .ref q4, .int (nI 1), .int (nI 0), .int (nI 0)])), (q2, .inl (cI, 9, .inl u5_ug)), (q3, .inl (cI, 9, .inl u5_ub)), (q4, .inl (cI, 9, .inl u5_ur))]) [0, 1, 2, 3] (by decide) rfl
  exact W.vret hx hb hr (fun t ht hW => ⟨⟨(u5_ug, u5_ub, u5_ur), rfl, by assumption, q2, q3, q4, m_at ht hP9, hD9⟩, hS.F ht⟩) hS.2.2 dX4_init_33
def rm_c_X3_init : Room := { frames := 1, cells := 2, slots := 329, locals := 21 }
set_option maxHeartbeats 4000000 in
set_option maxRecDepth 100000 in
theorem c_X3_init (l : Launch) (D : va_G) (cI cJ cZ : ClassId) (sz : Nat) (h0 : Nat)  : Met l yX3_init wsX3_init rm_c_X3_init (pn_ D cI cJ cZ sz [.ref h0] [(h0, .inr (3, [.null, .null, .int 0, .int 0, .int 0]))]) (va_Qv (fun (u : Unit) => True) (fun (u : Unit) t => ∃ (b1 b2 : Nat), va_P D vwCl [(h0, .inr (3, [.ref b1, .ref b2, .int (nI 1), .int (nI 0), .int (-1)])), (b1, .inl (cJ, 320, .inr (.inl (fun _ => 0)))), (b2, .inl (cI, 9, .inl (fun _ => 0)))] t.heap ∧ va_D (va_A [(h0, .inr (3, [.null, .null, .int 0, .int 0, .int 0]))] sz) [(h0, .inr (3, [.ref b1, .ref b2, .int (nI 1), .int (nI 0), .int (-1)])), (b1, .inl (cJ, 320, .inr (.inl (fun _ => 0)))), (b2, .inl (cI, 9, .inl (fun _ => 0)))]) (va_A [(h0, .inr (3, [.null, .null, .int 0, .int 0, .int 0]))] sz)) 2 329 (va_A [(h0, .inr (3, [.null, .null, .int 0, .int 0, .int 0]))] sz) := by
  refine Met.ofW (cc := cX3_init) (maxL := 1) (ret := none) (by decide) rfl ?_
  intro p e s m args below meth c s₁ B hml hv
  obtain ⟨rfl, hsz, hP, hKN, hD0⟩ := hv
  have hK := hKN.1
  have hx := B.exec
  have hb := B.bytes
  have hr := B.returns
  have hts := atoms_spec (ws := wsX3_init) B.pre
  have hown : s.vm.findClass RX3 = some m.cls := findClass_of_methodNamed B.named
  have hlocks := B.notSynchronized
  have hin : meth.name = "<init>" := (name_of_methodNamed B.named B.method).1
  have hiX3 : ∀ w ∈ wsX30, w ∈ wsX3_init := by decide +kernel
  have hf11 := hts (.fieldLink RX3 11 "LookBench$Rules" "words" "[J") (by decide +kernel)
  have hf15 := hts (.fieldLink RX3 15 "LookBench$Rules" "worth" "[I") (by decide +kernel)
  subst hsz
  have hD := hD0.self (sz := s.heap.size)
  generalize hAe : va_A [(h0, .inr (3, [.null, .null, .int 0, .int 0, .int 0]))] s.heap.size = A at hD ⊢
  have hA : ∀ q : Nat, s.heap.size ≤ q → A q := fun q h => by rw [← hAe]; exact Or.inr h
  have hS : va_S A s.heap s.heap [] := va_S.rf
  have hl := lv_entry ([.ref h0]) (n := 1) (Nat.le_of_ble_eq_true rfl)
  rw [lg_entry_eq]
  generalize (lg_sl ([.ref h0]) ++ List.replicate (1 - (lg_sl ([.ref h0])).length) Slot.unset).toArray = ls at hl ⊢
  have hl : lv_has ls 1 [(0, .ref h0)] := hl
  generalize hQ : MQ below _ _ s _ _ _ = Q
  obtain ⟨H, hH⟩ : ∃ z, z = s.heap := ⟨_, rfl⟩
  have hP : va_P D vwCl [(h0, .inr (3, [.null, .null, .int 0, .int 0, .int 0]))] H := by rw [hH]; exact hP
  have hS : va_S A s.heap H [] := by rw [hH]; exact hS
  refine m_heap hH ?_
  clear hH
  refine lv_aload_n hx hb dX3_init_0 rfl (lv_at hl 0 rfl) ?_
  refine W.objInit hx hb hown (hts (.methodLink RX3 3 objectInit) (by decide +kernel)) (hts (.instanceMethod objectInit) (by decide +kernel)) (hts (.code objectInit ⟨#[0xb1]⟩ 1 none) (by decide +kernel)) rfl (by rw [hml]; exact hl.1) rfl dX3_init_1 (Nat.le_of_ble_eq_true rfl) (Nat.le_of_ble_eq_true rfl) ?_
  refine W.eq (g2 := F0 m 4 ls []) rfl ?_
  refine lv_aload_n hx hb dX3_init_4 rfl (lv_at hl 0 rfl) ?_
  refine lv_sipush (v := nI 320) hx hb dX3_init_5 (by decide) ?_
  refine va_newa hx hb (hts (.arrayClass .long) (by decide +kernel)) rfl hK hP hD hS hA (n := nI 320) (N' := 320) (a0 := (320, .inr (.inl (fun _ => 0)))) (fun _ => rfl) (by decide) (nI_clamp (by decide)) (by decide) (Nat.le_of_ble_eq_true rfl) (Nat.le_of_ble_eq_true rfl) dX3_init_8 (fun q2 cA2 H hK2 hP hD hS => ?_)
  obtain rfl : cJ = cA2 := m_arr hK hK2 1 3 rfl rfl rfl
  have hP : va_P D vwCl [(h0, .inr (3, [.null, .null, .int 0, .int 0, .int 0])), (q2, .inl (cJ, 320, .inr (.inl (fun _ => 0))))] H := hP
  have hD : va_D A [(h0, .inr (3, [.null, .null, .int 0, .int 0, .int 0])), (q2, .inl (cJ, 320, .inr (.inl (fun _ => 0))))] := hD
  refine W.widen (k := 1) (n := 320) (by omega) (by omega) ?_
  refine va_putF (D := D) (ci := 3) (v := .ref q2) (ty := tyX3 0) (C := RX3) (T := TX3) (N := 5) hx hb hts hiX3 tyX3 tyX3_ok nmX3 hown hK hP hD hS 0 rfl rfl 0 (by decide) hf11 (fun _ h9 => h9) rfl hin rfl (by decide +kernel) rfl rfl (Nat.le_of_ble_eq_true rfl) dX3_init_10 (fun H locs hP hD hS => ?_)
  have hP : va_P D vwCl [(h0, .inr (3, [.ref q2, .null, .int 0, .int 0, .int 0])), (q2, .inl (cJ, 320, .inr (.inl (fun _ => 0))))] H := hP
  have hD : va_D A [(h0, .inr (3, [.ref q2, .null, .int 0, .int 0, .int 0])), (q2, .inl (cJ, 320, .inr (.inl (fun _ => 0))))] := hD
  refine lv_aload_n hx hb dX3_init_13 rfl (lv_at hl 0 rfl) ?_
  refine lv_bipush (v := nI 9) hx hb dX3_init_14 (by decide) ?_
  refine va_newa hx hb (hts (.arrayClass .int) (by decide +kernel)) rfl hK hP hD hS hA (n := nI 9) (N' := 9) (a0 := (9, .inl (fun _ => 0))) (fun _ => rfl) (by decide) (nI_clamp (by decide)) (by decide) (Nat.le_of_ble_eq_true rfl) (Nat.le_of_ble_eq_true rfl) dX3_init_16 (fun q3 cA3 H hK3 hP hD hS => ?_)
  obtain rfl : cI = cA3 := m_arr hK hK3 0 3 rfl rfl rfl
  have hP : va_P D vwCl [(h0, .inr (3, [.ref q2, .null, .int 0, .int 0, .int 0])), (q2, .inl (cJ, 320, .inr (.inl (fun _ => 0)))), (q3, .inl (cI, 9, .inl (fun _ => 0)))] H := hP
  have hD : va_D A [(h0, .inr (3, [.ref q2, .null, .int 0, .int 0, .int 0])), (q2, .inl (cJ, 320, .inr (.inl (fun _ => 0)))), (q3, .inl (cI, 9, .inl (fun _ => 0)))] := hD
  refine W.widen (k := 2) (n := 329) (by omega) (by omega) ?_
  refine va_putF (D := D) (ci := 3) (v := .ref q3) (ty := tyX3 1) (C := RX3) (T := TX3) (N := 5) hx hb hts hiX3 tyX3 tyX3_ok nmX3 hown hK hP hD hS 0 rfl rfl 1 (by decide) hf15 (fun _ h9 => h9) rfl hin rfl (by decide +kernel) rfl rfl (Nat.le_of_ble_eq_true rfl) dX3_init_18 (fun H locs hP hD hS => ?_)
  have hP : va_P D vwCl [(h0, .inr (3, [.ref q2, .ref q3, .int 0, .int 0, .int 0])), (q2, .inl (cJ, 320, .inr (.inl (fun _ => 0)))), (q3, .inl (cI, 9, .inl (fun _ => 0)))] H := hP
  have hD : va_D A [(h0, .inr (3, [.ref q2, .ref q3, .int 0, .int 0, .int 0])), (q2, .inl (cJ, 320, .inr (.inl (fun _ => 0)))), (q3, .inl (cI, 9, .inl (fun _ => 0)))] := hD
  refine lv_aload_n hx hb dX3_init_21 rfl (lv_at hl 0 rfl) ?_
  refine lv_iconst (v := nI 1) hx hb dX3_init_22 (by decide) ?_
  refine mu_v (n := 3) (wc := [(h0, .inr (3, [.ref q2, .ref q3, .int 0, .int 0, .int 0]))]) (va_runV (As := [.int (nI 1)]) (rest := []) ⟨hx, hb, hml, hown, hts⟩ (c_X3_begin l D cI cJ cZ h0 q2 q3 0 0 0 (nI 1)) (cwV 1 hts gX3_init_X3_begin rfl rfl rfl (by decide +kernel) ⟨Nat.le_of_ble_eq_true rfl, Nat.le_of_ble_eq_true rfl⟩) ⟨pm_blind, va_recv hK hP (ci := 3) (q0 := 0) rfl rfl, fun U hU hW => ⟨rfl, by rw [hU]; exact hP.sub (ws' := [(h0, .inr (3, [.ref q2, .ref q3, .int 0, .int 0, .int 0]))]) [0] rfl, hKN.warm hW, (hD.sub (ws' := [(h0, .inr (3, [.ref q2, .ref q3, .int 0, .int 0, .int 0]))]) [0] (by decide) rfl).weaken (fun _ _ _ _ => trivial)⟩⟩ rfl rfl hl.1 rfl (lv_room (Nat.le_of_ble_eq_true rfl)) dX3_init_23 ⟨Nat.le_of_ble_eq_true rfl, Nat.le_of_ble_eq_true rfl⟩) hS hP hD (fun (u : Unit) => [(h0, .inr (3, [.ref q2, .ref q3, .int (nI 1), .int (nI 0), .int (-1)])), (q2, .inl (cJ, 320, .inr (.inl (fun _ => 0)))), (q3, .inl (cI, 9, .inl (fun _ => 0)))]) [0] [1, 2] rfl rfl (fun _ => rfl) (fun _ => rfl) (fun _ => rfl) (fun _ => rfl) (by decide) (by decide) (fun u4 H locs w4 hP hD hS => ?_)
  have hP : va_P D vwCl [(h0, .inr (3, [.ref q2, .ref q3, .int (nI 1), .int (nI 0), .int (-1)])), (q2, .inl (cJ, 320, .inr (.inl (fun _ => 0)))), (q3, .inl (cI, 9, .inl (fun _ => 0)))] H := hP
  have hD : va_D A [(h0, .inr (3, [.ref q2, .ref q3, .int (nI 1), .int (nI 0), .int (-1)])), (q2, .inl (cJ, 320, .inr (.inl (fun _ => 0)))), (q3, .inl (cI, 9, .inl (fun _ => 0)))] := hD
  have w4 : True := w4
  rw [← hQ]
  have hP9 := hP.sub (ws' := [(h0, .inr (3, [.ref q2, .ref q3, .int (nI 1), .int (nI 0), .int (-1)])), (q2, .inl (cJ, 320, .inr (.inl (fun _ => 0)))), (q3, .inl (cI, 9, .inl (fun _ => 0)))]) [0, 1, 2] rfl
  have hD9 := hD.sub (ws' := [(h0, .inr (3, [.ref q2, .ref q3, .int (nI 1), .int (nI 0), .int (-1)])), (q2, .inl (cJ, 320, .inr (.inl (fun _ => 0)))), (q3, .inl (cI, 9, .inl (fun _ => 0)))]) [0, 1, 2] (by decide) rfl
  exact W.vret hx hb hr (fun t ht hW => ⟨⟨(), rfl, trivial, q2, q3, m_at ht hP9, hD9⟩, hS.F ht⟩) hS.2.2 dX3_init_26
def rm_c_X2_init : Room := { frames := 1, cells := 1, slots := 9, locals := 20 }
set_option maxHeartbeats 4000000 in
set_option maxRecDepth 100000 in
theorem c_X2_init (l : Launch) (D : va_G) (cI cJ cZ : ClassId) (sz : Nat) (h0 : Nat)  : Met l yX2_init wsX2_init rm_c_X2_init (pn_ D cI cJ cZ sz [.ref h0] [(h0, .inr (2, [.null, .int 0]))]) (va_Qv (fun (u : Unit) => True) (fun (u : Unit) t => ∃ (r1 : Nat), va_P D vwCl [(h0, .inr (2, [.ref r1, .int 0])), (r1, .inl (cI, 9, .inl (fun _ => 0)))] t.heap ∧ va_D (va_A [(h0, .inr (2, [.null, .int 0]))] sz) [(h0, .inr (2, [.ref r1, .int 0])), (r1, .inl (cI, 9, .inl (fun _ => 0)))]) (va_A [(h0, .inr (2, [.null, .int 0]))] sz)) 1 9 (va_A [(h0, .inr (2, [.null, .int 0]))] sz) := by
  refine Met.ofW (cc := cX2_init) (maxL := 1) (ret := none) (by decide) rfl ?_
  intro p e s m args below meth c s₁ B hml hv
  obtain ⟨rfl, hsz, hP, hKN, hD0⟩ := hv
  have hK := hKN.1
  have hx := B.exec
  have hb := B.bytes
  have hr := B.returns
  have hts := atoms_spec (ws := wsX2_init) B.pre
  have hown : s.vm.findClass RX2 = some m.cls := findClass_of_methodNamed B.named
  have hlocks := B.notSynchronized
  have hin : meth.name = "<init>" := (name_of_methodNamed B.named B.method).1
  have hiX2 : ∀ w ∈ wsX20, w ∈ wsX2_init := by decide +kernel
  have hf9 := hts (.fieldLink RX2 9 "LookBench$Queue" "row" "[I") (by decide +kernel)
  subst hsz
  have hD := hD0.self (sz := s.heap.size)
  generalize hAe : va_A [(h0, .inr (2, [.null, .int 0]))] s.heap.size = A at hD ⊢
  have hA : ∀ q : Nat, s.heap.size ≤ q → A q := fun q h => by rw [← hAe]; exact Or.inr h
  have hS : va_S A s.heap s.heap [] := va_S.rf
  have hl := lv_entry ([.ref h0]) (n := 1) (Nat.le_of_ble_eq_true rfl)
  rw [lg_entry_eq]
  generalize (lg_sl ([.ref h0]) ++ List.replicate (1 - (lg_sl ([.ref h0])).length) Slot.unset).toArray = ls at hl ⊢
  have hl : lv_has ls 1 [(0, .ref h0)] := hl
  generalize hQ : MQ below _ _ s _ _ _ = Q
  obtain ⟨H, hH⟩ : ∃ z, z = s.heap := ⟨_, rfl⟩
  have hP : va_P D vwCl [(h0, .inr (2, [.null, .int 0]))] H := by rw [hH]; exact hP
  have hS : va_S A s.heap H [] := by rw [hH]; exact hS
  refine m_heap hH ?_
  clear hH
  refine lv_aload_n hx hb dX2_init_0 rfl (lv_at hl 0 rfl) ?_
  refine W.objInit hx hb hown (hts (.methodLink RX2 3 objectInit) (by decide +kernel)) (hts (.instanceMethod objectInit) (by decide +kernel)) (hts (.code objectInit ⟨#[0xb1]⟩ 1 none) (by decide +kernel)) rfl (by rw [hml]; exact hl.1) rfl dX2_init_1 (Nat.le_of_ble_eq_true rfl) (Nat.le_of_ble_eq_true rfl) ?_
  refine W.eq (g2 := F0 m 4 ls []) rfl ?_
  refine lv_aload_n hx hb dX2_init_4 rfl (lv_at hl 0 rfl) ?_
  refine lv_bipush (v := nI 9) hx hb dX2_init_5 (by decide) ?_
  refine va_newa hx hb (hts (.arrayClass .int) (by decide +kernel)) rfl hK hP hD hS hA (n := nI 9) (N' := 9) (a0 := (9, .inl (fun _ => 0))) (fun _ => rfl) (by decide) (nI_clamp (by decide)) (by decide) (Nat.le_of_ble_eq_true rfl) (Nat.le_of_ble_eq_true rfl) dX2_init_7 (fun q2 cA2 H hK2 hP hD hS => ?_)
  obtain rfl : cI = cA2 := m_arr hK hK2 0 3 rfl rfl rfl
  have hP : va_P D vwCl [(h0, .inr (2, [.null, .int 0])), (q2, .inl (cI, 9, .inl (fun _ => 0)))] H := hP
  have hD : va_D A [(h0, .inr (2, [.null, .int 0])), (q2, .inl (cI, 9, .inl (fun _ => 0)))] := hD
  refine W.widen (k := 1) (n := 9) (by omega) (by omega) ?_
  refine va_putF (D := D) (ci := 2) (v := .ref q2) (ty := tyX2 0) (C := RX2) (T := TX2) (N := 2) hx hb hts hiX2 tyX2 tyX2_ok nmX2 hown hK hP hD hS 0 rfl rfl 0 (by decide) hf9 (fun _ h9 => h9) rfl hin rfl (by decide +kernel) rfl rfl (Nat.le_of_ble_eq_true rfl) dX2_init_9 (fun H locs hP hD hS => ?_)
  have hP : va_P D vwCl [(h0, .inr (2, [.ref q2, .int 0])), (q2, .inl (cI, 9, .inl (fun _ => 0)))] H := hP
  have hD : va_D A [(h0, .inr (2, [.ref q2, .int 0])), (q2, .inl (cI, 9, .inl (fun _ => 0)))] := hD
  rw [← hQ]
  have hP9 := hP.sub (ws' := [(h0, .inr (2, [.ref q2, .int 0])), (q2, .inl (cI, 9, .inl (fun _ => 0)))]) [0, 1] rfl
  have hD9 := hD.sub (ws' := [(h0, .inr (2, [.ref q2, .int 0])), (q2, .inl (cI, 9, .inl (fun _ => 0)))]) [0, 1] (by decide) rfl
  exact W.vret hx hb hr (fun t ht hW => ⟨⟨(), rfl, trivial, q2, m_at ht hP9, hD9⟩, hS.F ht⟩) hS.2.2 dX2_init_12
def rm_c_X5_init : Room := { frames := 1, cells := 1, slots := 9, locals := 20 }
set_option maxHeartbeats 4000000 in
set_option maxRecDepth 100000 in
theorem c_X5_init (l : Launch) (D : va_G) (cI cJ cZ : ClassId) (sz : Nat) (h0 : Nat)  : Met l yX5_init wsX5_init rm_c_X5_init (pn_ D cI cJ cZ sz [.ref h0] [(h0, .inr (5, [.null, .int 0]))]) (va_Qv (fun (u : Unit) => True) (fun (u : Unit) t => ∃ (r1 : Nat), va_P D vwCl [(h0, .inr (5, [.ref r1, .int 0])), (r1, .inl (cI, 9, .inl (fun _ => 0)))] t.heap ∧ va_D (va_A [(h0, .inr (5, [.null, .int 0]))] sz) [(h0, .inr (5, [.ref r1, .int 0])), (r1, .inl (cI, 9, .inl (fun _ => 0)))]) (va_A [(h0, .inr (5, [.null, .int 0]))] sz)) 1 9 (va_A [(h0, .inr (5, [.null, .int 0]))] sz) := by
  refine Met.ofW (cc := cX5_init) (maxL := 1) (ret := none) (by decide) rfl ?_
  intro p e s m args below meth c s₁ B hml hv
  obtain ⟨rfl, hsz, hP, hKN, hD0⟩ := hv
  have hK := hKN.1
  have hx := B.exec
  have hb := B.bytes
  have hr := B.returns
  have hts := atoms_spec (ws := wsX5_init) B.pre
  have hown : s.vm.findClass RX5 = some m.cls := findClass_of_methodNamed B.named
  have hlocks := B.notSynchronized
  have hin : meth.name = "<init>" := (name_of_methodNamed B.named B.method).1
  have hiX5 : ∀ w ∈ wsX50, w ∈ wsX5_init := by decide +kernel
  have hf9 := hts (.fieldLink RX5 9 "LookBench$Trail" "looks" "[I") (by decide +kernel)
  subst hsz
  have hD := hD0.self (sz := s.heap.size)
  generalize hAe : va_A [(h0, .inr (5, [.null, .int 0]))] s.heap.size = A at hD ⊢
  have hA : ∀ q : Nat, s.heap.size ≤ q → A q := fun q h => by rw [← hAe]; exact Or.inr h
  have hS : va_S A s.heap s.heap [] := va_S.rf
  have hl := lv_entry ([.ref h0]) (n := 1) (Nat.le_of_ble_eq_true rfl)
  rw [lg_entry_eq]
  generalize (lg_sl ([.ref h0]) ++ List.replicate (1 - (lg_sl ([.ref h0])).length) Slot.unset).toArray = ls at hl ⊢
  have hl : lv_has ls 1 [(0, .ref h0)] := hl
  generalize hQ : MQ below _ _ s _ _ _ = Q
  obtain ⟨H, hH⟩ : ∃ z, z = s.heap := ⟨_, rfl⟩
  have hP : va_P D vwCl [(h0, .inr (5, [.null, .int 0]))] H := by rw [hH]; exact hP
  have hS : va_S A s.heap H [] := by rw [hH]; exact hS
  refine m_heap hH ?_
  clear hH
  refine lv_aload_n hx hb dX5_init_0 rfl (lv_at hl 0 rfl) ?_
  refine W.objInit hx hb hown (hts (.methodLink RX5 3 objectInit) (by decide +kernel)) (hts (.instanceMethod objectInit) (by decide +kernel)) (hts (.code objectInit ⟨#[0xb1]⟩ 1 none) (by decide +kernel)) rfl (by rw [hml]; exact hl.1) rfl dX5_init_1 (Nat.le_of_ble_eq_true rfl) (Nat.le_of_ble_eq_true rfl) ?_
  refine W.eq (g2 := F0 m 4 ls []) rfl ?_
  refine lv_aload_n hx hb dX5_init_4 rfl (lv_at hl 0 rfl) ?_
  refine lv_bipush (v := nI 9) hx hb dX5_init_5 (by decide) ?_
  refine va_newa hx hb (hts (.arrayClass .int) (by decide +kernel)) rfl hK hP hD hS hA (n := nI 9) (N' := 9) (a0 := (9, .inl (fun _ => 0))) (fun _ => rfl) (by decide) (nI_clamp (by decide)) (by decide) (Nat.le_of_ble_eq_true rfl) (Nat.le_of_ble_eq_true rfl) dX5_init_7 (fun q2 cA2 H hK2 hP hD hS => ?_)
  obtain rfl : cI = cA2 := m_arr hK hK2 0 3 rfl rfl rfl
  have hP : va_P D vwCl [(h0, .inr (5, [.null, .int 0])), (q2, .inl (cI, 9, .inl (fun _ => 0)))] H := hP
  have hD : va_D A [(h0, .inr (5, [.null, .int 0])), (q2, .inl (cI, 9, .inl (fun _ => 0)))] := hD
  refine W.widen (k := 1) (n := 9) (by omega) (by omega) ?_
  refine va_putF (D := D) (ci := 5) (v := .ref q2) (ty := tyX5 0) (C := RX5) (T := TX5) (N := 2) hx hb hts hiX5 tyX5 tyX5_ok nmX5 hown hK hP hD hS 0 rfl rfl 0 (by decide) hf9 (fun _ h9 => h9) rfl hin rfl (by decide +kernel) rfl rfl (Nat.le_of_ble_eq_true rfl) dX5_init_9 (fun H locs hP hD hS => ?_)
  have hP : va_P D vwCl [(h0, .inr (5, [.ref q2, .int 0])), (q2, .inl (cI, 9, .inl (fun _ => 0)))] H := hP
  have hD : va_D A [(h0, .inr (5, [.ref q2, .int 0])), (q2, .inl (cI, 9, .inl (fun _ => 0)))] := hD
  rw [← hQ]
  have hP9 := hP.sub (ws' := [(h0, .inr (5, [.ref q2, .int 0])), (q2, .inl (cI, 9, .inl (fun _ => 0)))]) [0, 1] rfl
  have hD9 := hD.sub (ws' := [(h0, .inr (5, [.ref q2, .int 0])), (q2, .inl (cI, 9, .inl (fun _ => 0)))]) [0, 1] (by decide) rfl
  exact W.vret hx hb hr (fun t ht hW => ⟨⟨(), rfl, trivial, q2, m_at ht hP9, hD9⟩, hS.F ht⟩) hS.2.2 dX5_init_12
def rm_c_X1_init : Room := { frames := 1, cells := 3, slots := 9, locals := 20 }
set_option maxHeartbeats 4000000 in
set_option maxRecDepth 100000 in
theorem c_X1_init (l : Launch) (D : va_G) (cI cJ cZ : ClassId) (sz : Nat) (h0 : Nat) (s1 : Nat) (s2 : Nat) (s3 : Nat)  : Met l yX1_init wsX1_init rm_c_X1_init (pn_ D cI cJ cZ sz [.ref h0, .ref s1, .ref s2, .ref s3] [(h0, .inr (1, [.null, .null, .null, .null, .null, .null, .int 0]))]) (va_Qv (fun (u : Unit) => True) (fun (u : Unit) t => ∃ (p4 p5 p6 : Nat), va_P D vwCl [(h0, .inr (1, [.ref s1, .ref s2, .ref s3, .ref p4, .ref p5, .ref p6, .int 0])), (p4, .inl (cI, 9, .inl (fun _ => 0))), (p5, .inl (cJ, 0, .inr (.inl (fun _ => 0)))), (p6, .inl (cI, 0, .inl (fun _ => 0)))] t.heap ∧ va_D (va_A [(h0, .inr (1, [.null, .null, .null, .null, .null, .null, .int 0]))] sz) [(h0, .inr (1, [.ref s1, .ref s2, .ref s3, .ref p4, .ref p5, .ref p6, .int 0])), (p4, .inl (cI, 9, .inl (fun _ => 0))), (p5, .inl (cJ, 0, .inr (.inl (fun _ => 0)))), (p6, .inl (cI, 0, .inl (fun _ => 0)))]) (va_A [(h0, .inr (1, [.null, .null, .null, .null, .null, .null, .int 0]))] sz)) 3 9 (va_A [(h0, .inr (1, [.null, .null, .null, .null, .null, .null, .int 0]))] sz) := by
  refine Met.ofW (cc := cX1_init) (maxL := 4) (ret := none) (by decide) rfl ?_
  intro p e s m args below meth c s₁ B hml hv
  obtain ⟨rfl, hsz, hP, hKN, hD0⟩ := hv
  have hK := hKN.1
  have hx := B.exec
  have hb := B.bytes
  have hr := B.returns
  have hts := atoms_spec (ws := wsX1_init) B.pre
  have hown : s.vm.findClass RX1 = some m.cls := findClass_of_methodNamed B.named
  have hlocks := B.notSynchronized
  have hin : meth.name = "<init>" := (name_of_methodNamed B.named B.method).1
  have hiX1 : ∀ w ∈ wsX10, w ∈ wsX1_init := by decide +kernel
  have hf9 := hts (.fieldLink RX1 9 "LookBench$Plans" "open" "[I") (by decide +kernel)
  have hf15 := hts (.fieldLink RX1 15 "LookBench$Plans" "best" "[J") (by decide +kernel)
  have hf19 := hts (.fieldLink RX1 19 "LookBench$Plans" "worst" "[I") (by decide +kernel)
  have hf22 := hts (.fieldLink RX1 22 "LookBench$Plans" "shelf" "LLookBench$Shelf;") (by decide +kernel)
  have hf26 := hts (.fieldLink RX1 26 "LookBench$Plans" "rules" "LLookBench$Rules;") (by decide +kernel)
  have hf30 := hts (.fieldLink RX1 30 "LookBench$Plans" "queue" "LLookBench$Queue;") (by decide +kernel)
  subst hsz
  have hD := hD0.self (sz := s.heap.size)
  generalize hAe : va_A [(h0, .inr (1, [.null, .null, .null, .null, .null, .null, .int 0]))] s.heap.size = A at hD ⊢
  have hA : ∀ q : Nat, s.heap.size ≤ q → A q := fun q h => by rw [← hAe]; exact Or.inr h
  have hS : va_S A s.heap s.heap [] := va_S.rf
  have hl := lv_entry ([.ref h0, .ref s1, .ref s2, .ref s3]) (n := 4) (Nat.le_of_ble_eq_true rfl)
  rw [lg_entry_eq]
  generalize (lg_sl ([.ref h0, .ref s1, .ref s2, .ref s3]) ++ List.replicate (4 - (lg_sl ([.ref h0, .ref s1, .ref s2, .ref s3])).length) Slot.unset).toArray = ls at hl ⊢
  have hl : lv_has ls 4 [(0, .ref h0), (1, .ref s1), (2, .ref s2), (3, .ref s3)] := hl
  generalize hQ : MQ below _ _ s _ _ _ = Q
  obtain ⟨H, hH⟩ : ∃ z, z = s.heap := ⟨_, rfl⟩
  have hP : va_P D vwCl [(h0, .inr (1, [.null, .null, .null, .null, .null, .null, .int 0]))] H := by rw [hH]; exact hP
  have hS : va_S A s.heap H [] := by rw [hH]; exact hS
  refine m_heap hH ?_
  clear hH
  refine lv_aload_n hx hb dX1_init_0 rfl (lv_at hl 0 rfl) ?_
  refine W.objInit hx hb hown (hts (.methodLink RX1 3 objectInit) (by decide +kernel)) (hts (.instanceMethod objectInit) (by decide +kernel)) (hts (.code objectInit ⟨#[0xb1]⟩ 1 none) (by decide +kernel)) rfl (by rw [hml]; exact hl.1) rfl dX1_init_1 (Nat.le_of_ble_eq_true rfl) (Nat.le_of_ble_eq_true rfl) ?_
  refine W.eq (g2 := F0 m 4 ls []) rfl ?_
  refine lv_aload_n hx hb dX1_init_4 rfl (lv_at hl 0 rfl) ?_
  refine lv_bipush (v := nI 9) hx hb dX1_init_5 (by decide) ?_
  refine va_newa hx hb (hts (.arrayClass .int) (by decide +kernel)) rfl hK hP hD hS hA (n := nI 9) (N' := 9) (a0 := (9, .inl (fun _ => 0))) (fun _ => rfl) (by decide) (nI_clamp (by decide)) (by decide) (Nat.le_of_ble_eq_true rfl) (Nat.le_of_ble_eq_true rfl) dX1_init_7 (fun q2 cA2 H hK2 hP hD hS => ?_)
  obtain rfl : cI = cA2 := m_arr hK hK2 0 3 rfl rfl rfl
  have hP : va_P D vwCl [(h0, .inr (1, [.null, .null, .null, .null, .null, .null, .int 0])), (q2, .inl (cI, 9, .inl (fun _ => 0)))] H := hP
  have hD : va_D A [(h0, .inr (1, [.null, .null, .null, .null, .null, .null, .int 0])), (q2, .inl (cI, 9, .inl (fun _ => 0)))] := hD
  refine W.widen (k := 1) (n := 9) (by omega) (by omega) ?_
  refine va_putF (D := D) (ci := 1) (v := .ref q2) (ty := tyX1 3) (C := RX1) (T := TX1) (N := 7) hx hb hts hiX1 tyX1 tyX1_ok nmX1 hown hK hP hD hS 0 rfl rfl 3 (by decide) hf9 (fun _ h9 => h9) rfl hin rfl (by decide +kernel) rfl rfl (Nat.le_of_ble_eq_true rfl) dX1_init_9 (fun H locs hP hD hS => ?_)
  have hP : va_P D vwCl [(h0, .inr (1, [.null, .null, .null, .ref q2, .null, .null, .int 0])), (q2, .inl (cI, 9, .inl (fun _ => 0)))] H := hP
  have hD : va_D A [(h0, .inr (1, [.null, .null, .null, .ref q2, .null, .null, .int 0])), (q2, .inl (cI, 9, .inl (fun _ => 0)))] := hD
  refine lv_aload_n hx hb dX1_init_12 rfl (lv_at hl 0 rfl) ?_
  refine lv_iconst (v := nI 0) hx hb dX1_init_13 (by decide) ?_
  refine va_newa hx hb (hts (.arrayClass .long) (by decide +kernel)) rfl hK hP hD hS hA (n := nI 0) (N' := 0) (a0 := (0, .inr (.inl (fun _ => 0)))) (fun _ => rfl) (by decide) (nI_clamp (by decide)) (by decide) (Nat.le_of_ble_eq_true rfl) (Nat.le_of_ble_eq_true rfl) dX1_init_14 (fun q3 cA3 H hK3 hP hD hS => ?_)
  obtain rfl : cJ = cA3 := m_arr hK hK3 1 3 rfl rfl rfl
  have hP : va_P D vwCl [(h0, .inr (1, [.null, .null, .null, .ref q2, .null, .null, .int 0])), (q2, .inl (cI, 9, .inl (fun _ => 0))), (q3, .inl (cJ, 0, .inr (.inl (fun _ => 0))))] H := hP
  have hD : va_D A [(h0, .inr (1, [.null, .null, .null, .ref q2, .null, .null, .int 0])), (q2, .inl (cI, 9, .inl (fun _ => 0))), (q3, .inl (cJ, 0, .inr (.inl (fun _ => 0))))] := hD
  refine W.widen (k := 2) (n := 9) (by omega) (by omega) ?_
  refine va_put (D := D) (ci := 1) (v := .ref q3) (ty := tyX1 4) (C := RX1) (T := TX1) (N := 7) hx hb hts hiX1 tyX1 tyX1_ok nmX1 hown hK hP hD hS 0 rfl rfl 4 (by decide) hf15 (fun _ h9 => h9) rfl (by decide +kernel) rfl rfl (Nat.le_of_ble_eq_true rfl) dX1_init_16 (fun H locs hP hD hS => ?_)
  have hP : va_P D vwCl [(h0, .inr (1, [.null, .null, .null, .ref q2, .ref q3, .null, .int 0])), (q2, .inl (cI, 9, .inl (fun _ => 0))), (q3, .inl (cJ, 0, .inr (.inl (fun _ => 0))))] H := hP
  have hD : va_D A [(h0, .inr (1, [.null, .null, .null, .ref q2, .ref q3, .null, .int 0])), (q2, .inl (cI, 9, .inl (fun _ => 0))), (q3, .inl (cJ, 0, .inr (.inl (fun _ => 0))))] := hD
  refine lv_aload_n hx hb dX1_init_19 rfl (lv_at hl 0 rfl) ?_
  refine lv_iconst (v := nI 0) hx hb dX1_init_20 (by decide) ?_
  refine va_newa hx hb (hts (.arrayClass .int) (by decide +kernel)) rfl hK hP hD hS hA (n := nI 0) (N' := 0) (a0 := (0, .inl (fun _ => 0))) (fun _ => rfl) (by decide) (nI_clamp (by decide)) (by decide) (Nat.le_of_ble_eq_true rfl) (Nat.le_of_ble_eq_true rfl) dX1_init_21 (fun q4 cA4 H hK4 hP hD hS => ?_)
  obtain rfl : cI = cA4 := m_arr hK hK4 0 3 rfl rfl rfl
  have hP : va_P D vwCl [(h0, .inr (1, [.null, .null, .null, .ref q2, .ref q3, .null, .int 0])), (q2, .inl (cI, 9, .inl (fun _ => 0))), (q3, .inl (cJ, 0, .inr (.inl (fun _ => 0)))), (q4, .inl (cI, 0, .inl (fun _ => 0)))] H := hP
  have hD : va_D A [(h0, .inr (1, [.null, .null, .null, .ref q2, .ref q3, .null, .int 0])), (q2, .inl (cI, 9, .inl (fun _ => 0))), (q3, .inl (cJ, 0, .inr (.inl (fun _ => 0)))), (q4, .inl (cI, 0, .inl (fun _ => 0)))] := hD
  refine W.widen (k := 3) (n := 9) (by omega) (by omega) ?_
  refine va_put (D := D) (ci := 1) (v := .ref q4) (ty := tyX1 5) (C := RX1) (T := TX1) (N := 7) hx hb hts hiX1 tyX1 tyX1_ok nmX1 hown hK hP hD hS 0 rfl rfl 5 (by decide) hf19 (fun _ h9 => h9) rfl (by decide +kernel) rfl rfl (Nat.le_of_ble_eq_true rfl) dX1_init_23 (fun H locs hP hD hS => ?_)
  have hP : va_P D vwCl [(h0, .inr (1, [.null, .null, .null, .ref q2, .ref q3, .ref q4, .int 0])), (q2, .inl (cI, 9, .inl (fun _ => 0))), (q3, .inl (cJ, 0, .inr (.inl (fun _ => 0)))), (q4, .inl (cI, 0, .inl (fun _ => 0)))] H := hP
  have hD : va_D A [(h0, .inr (1, [.null, .null, .null, .ref q2, .ref q3, .ref q4, .int 0])), (q2, .inl (cI, 9, .inl (fun _ => 0))), (q3, .inl (cJ, 0, .inr (.inl (fun _ => 0)))), (q4, .inl (cI, 0, .inl (fun _ => 0)))] := hD
  refine lv_aload_n hx hb dX1_init_26 rfl (lv_at hl 0 rfl) ?_
  refine lv_aload_n hx hb dX1_init_27 rfl (lv_at hl 1 rfl) ?_
  refine va_putF (D := D) (ci := 1) (v := .ref s1) (ty := tyX1 0) (C := RX1) (T := TX1) (N := 7) hx hb hts hiX1 tyX1 tyX1_ok nmX1 hown hK hP hD hS 0 rfl rfl 0 (by decide) hf22 (fun _ h9 => h9) rfl hin rfl (by decide +kernel) rfl rfl (Nat.le_of_ble_eq_true rfl) dX1_init_28 (fun H locs hP hD hS => ?_)
  have hP : va_P D vwCl [(h0, .inr (1, [.ref s1, .null, .null, .ref q2, .ref q3, .ref q4, .int 0])), (q2, .inl (cI, 9, .inl (fun _ => 0))), (q3, .inl (cJ, 0, .inr (.inl (fun _ => 0)))), (q4, .inl (cI, 0, .inl (fun _ => 0)))] H := hP
  have hD : va_D A [(h0, .inr (1, [.ref s1, .null, .null, .ref q2, .ref q3, .ref q4, .int 0])), (q2, .inl (cI, 9, .inl (fun _ => 0))), (q3, .inl (cJ, 0, .inr (.inl (fun _ => 0)))), (q4, .inl (cI, 0, .inl (fun _ => 0)))] := hD
  refine lv_aload_n hx hb dX1_init_31 rfl (lv_at hl 0 rfl) ?_
  refine lv_aload_n hx hb dX1_init_32 rfl (lv_at hl 2 rfl) ?_
  refine va_putF (D := D) (ci := 1) (v := .ref s2) (ty := tyX1 1) (C := RX1) (T := TX1) (N := 7) hx hb hts hiX1 tyX1 tyX1_ok nmX1 hown hK hP hD hS 0 rfl rfl 1 (by decide) hf26 (fun _ h9 => h9) rfl hin rfl (by decide +kernel) rfl rfl (Nat.le_of_ble_eq_true rfl) dX1_init_33 (fun H locs hP hD hS => ?_)
  have hP : va_P D vwCl [(h0, .inr (1, [.ref s1, .ref s2, .null, .ref q2, .ref q3, .ref q4, .int 0])), (q2, .inl (cI, 9, .inl (fun _ => 0))), (q3, .inl (cJ, 0, .inr (.inl (fun _ => 0)))), (q4, .inl (cI, 0, .inl (fun _ => 0)))] H := hP
  have hD : va_D A [(h0, .inr (1, [.ref s1, .ref s2, .null, .ref q2, .ref q3, .ref q4, .int 0])), (q2, .inl (cI, 9, .inl (fun _ => 0))), (q3, .inl (cJ, 0, .inr (.inl (fun _ => 0)))), (q4, .inl (cI, 0, .inl (fun _ => 0)))] := hD
  refine lv_aload_n hx hb dX1_init_36 rfl (lv_at hl 0 rfl) ?_
  refine lv_aload_n hx hb dX1_init_37 rfl (lv_at hl 3 rfl) ?_
  refine va_putF (D := D) (ci := 1) (v := .ref s3) (ty := tyX1 2) (C := RX1) (T := TX1) (N := 7) hx hb hts hiX1 tyX1 tyX1_ok nmX1 hown hK hP hD hS 0 rfl rfl 2 (by decide) hf30 (fun _ h9 => h9) rfl hin rfl (by decide +kernel) rfl rfl (Nat.le_of_ble_eq_true rfl) dX1_init_38 (fun H locs hP hD hS => ?_)
  have hP : va_P D vwCl [(h0, .inr (1, [.ref s1, .ref s2, .ref s3, .ref q2, .ref q3, .ref q4, .int 0])), (q2, .inl (cI, 9, .inl (fun _ => 0))), (q3, .inl (cJ, 0, .inr (.inl (fun _ => 0)))), (q4, .inl (cI, 0, .inl (fun _ => 0)))] H := hP
  have hD : va_D A [(h0, .inr (1, [.ref s1, .ref s2, .ref s3, .ref q2, .ref q3, .ref q4, .int 0])), (q2, .inl (cI, 9, .inl (fun _ => 0))), (q3, .inl (cJ, 0, .inr (.inl (fun _ => 0)))), (q4, .inl (cI, 0, .inl (fun _ => 0)))] := hD
  rw [← hQ]
  have hP9 := hP.sub (ws' := [(h0, .inr (1, [.ref s1, .ref s2, .ref s3, .ref q2, .ref q3, .ref q4, .int 0])), (q2, .inl (cI, 9, .inl (fun _ => 0))), (q3, .inl (cJ, 0, .inr (.inl (fun _ => 0)))), (q4, .inl (cI, 0, .inl (fun _ => 0)))]) [0, 1, 2, 3] rfl
  have hD9 := hD.sub (ws' := [(h0, .inr (1, [.ref s1, .ref s2, .ref s3, .ref q2, .ref q3, .ref q4, .int 0])), (q2, .inl (cI, 9, .inl (fun _ => 0))), (q3, .inl (cJ, 0, .inr (.inl (fun _ => 0)))), (q4, .inl (cI, 0, .inl (fun _ => 0)))]) [0, 1, 2, 3] (by decide) rfl
  exact W.vret hx hb hr (fun t ht hW => ⟨⟨(), rfl, trivial, q2, q3, q4, m_at ht hP9, hD9⟩, hS.F ht⟩) hS.2.2 dX1_init_41
def rm_c_X0_init : Room := { frames := 1, cells := 1, slots := 512, locals := 20 }
set_option maxHeartbeats 4000000 in
set_option maxRecDepth 100000 in
theorem c_X0_init (l : Launch) (D : va_G) (cI cJ cZ : ClassId) (sz : Nat) (h0 : Nat) (s1 : Nat) (s2 : Nat)  : Met l yX0_init wsX0_init rm_c_X0_init (pn_ D cI cJ cZ sz [.ref h0, .ref s1, .ref s2] [(h0, .inr (0, [.null, .null, .null]))]) (va_Qv (fun (u : Unit) => True) (fun (u : Unit) t => ∃ (l3 : Nat), va_P D vwCl [(h0, .inr (0, [.ref s1, .ref s2, .ref l3])), (l3, .inl (cI, 512, .inl (fun _ => 0)))] t.heap ∧ va_D (va_A [(h0, .inr (0, [.null, .null, .null]))] sz) [(h0, .inr (0, [.ref s1, .ref s2, .ref l3])), (l3, .inl (cI, 512, .inl (fun _ => 0)))]) (va_A [(h0, .inr (0, [.null, .null, .null]))] sz)) 1 512 (va_A [(h0, .inr (0, [.null, .null, .null]))] sz) := by
  refine Met.ofW (cc := cX0_init) (maxL := 3) (ret := none) (by decide) rfl ?_
  intro p e s m args below meth c s₁ B hml hv
  obtain ⟨rfl, hsz, hP, hKN, hD0⟩ := hv
  have hK := hKN.1
  have hx := B.exec
  have hb := B.bytes
  have hr := B.returns
  have hts := atoms_spec (ws := wsX0_init) B.pre
  have hown : s.vm.findClass RX0 = some m.cls := findClass_of_methodNamed B.named
  have hlocks := B.notSynchronized
  have hin : meth.name = "<init>" := (name_of_methodNamed B.named B.method).1
  have hiX0 : ∀ w ∈ wsX00, w ∈ wsX0_init := by decide +kernel
  have hf9 := hts (.fieldLink RX0 9 "LookBench$Bounds" "leastPrice" "[I") (by decide +kernel)
  have hf15 := hts (.fieldLink RX0 15 "LookBench$Bounds" "shelf" "LLookBench$Shelf;") (by decide +kernel)
  have hf19 := hts (.fieldLink RX0 19 "LookBench$Bounds" "rules" "LLookBench$Rules;") (by decide +kernel)
  subst hsz
  have hD := hD0.self (sz := s.heap.size)
  generalize hAe : va_A [(h0, .inr (0, [.null, .null, .null]))] s.heap.size = A at hD ⊢
  have hA : ∀ q : Nat, s.heap.size ≤ q → A q := fun q h => by rw [← hAe]; exact Or.inr h
  have hS : va_S A s.heap s.heap [] := va_S.rf
  have hl := lv_entry ([.ref h0, .ref s1, .ref s2]) (n := 3) (Nat.le_of_ble_eq_true rfl)
  rw [lg_entry_eq]
  generalize (lg_sl ([.ref h0, .ref s1, .ref s2]) ++ List.replicate (3 - (lg_sl ([.ref h0, .ref s1, .ref s2])).length) Slot.unset).toArray = ls at hl ⊢
  have hl : lv_has ls 3 [(0, .ref h0), (1, .ref s1), (2, .ref s2)] := hl
  generalize hQ : MQ below _ _ s _ _ _ = Q
  obtain ⟨H, hH⟩ : ∃ z, z = s.heap := ⟨_, rfl⟩
  have hP : va_P D vwCl [(h0, .inr (0, [.null, .null, .null]))] H := by rw [hH]; exact hP
  have hS : va_S A s.heap H [] := by rw [hH]; exact hS
  refine m_heap hH ?_
  clear hH
  refine lv_aload_n hx hb dX0_init_0 rfl (lv_at hl 0 rfl) ?_
  refine W.objInit hx hb hown (hts (.methodLink RX0 3 objectInit) (by decide +kernel)) (hts (.instanceMethod objectInit) (by decide +kernel)) (hts (.code objectInit ⟨#[0xb1]⟩ 1 none) (by decide +kernel)) rfl (by rw [hml]; exact hl.1) rfl dX0_init_1 (Nat.le_of_ble_eq_true rfl) (Nat.le_of_ble_eq_true rfl) ?_
  refine W.eq (g2 := F0 m 4 ls []) rfl ?_
  refine lv_aload_n hx hb dX0_init_4 rfl (lv_at hl 0 rfl) ?_
  refine lv_sipush (v := nI 512) hx hb dX0_init_5 (by decide) ?_
  refine va_newa hx hb (hts (.arrayClass .int) (by decide +kernel)) rfl hK hP hD hS hA (n := nI 512) (N' := 512) (a0 := (512, .inl (fun _ => 0))) (fun _ => rfl) (by decide) (nI_clamp (by decide)) (by decide) (Nat.le_of_ble_eq_true rfl) (Nat.le_of_ble_eq_true rfl) dX0_init_8 (fun q2 cA2 H hK2 hP hD hS => ?_)
  obtain rfl : cI = cA2 := m_arr hK hK2 0 3 rfl rfl rfl
  have hP : va_P D vwCl [(h0, .inr (0, [.null, .null, .null])), (q2, .inl (cI, 512, .inl (fun _ => 0)))] H := hP
  have hD : va_D A [(h0, .inr (0, [.null, .null, .null])), (q2, .inl (cI, 512, .inl (fun _ => 0)))] := hD
  refine W.widen (k := 1) (n := 512) (by omega) (by omega) ?_
  refine va_putF (D := D) (ci := 0) (v := .ref q2) (ty := tyX0 2) (C := RX0) (T := TX0) (N := 3) hx hb hts hiX0 tyX0 tyX0_ok nmX0 hown hK hP hD hS 0 rfl rfl 2 (by decide) hf9 (fun _ h9 => h9) rfl hin rfl (by decide +kernel) rfl rfl (Nat.le_of_ble_eq_true rfl) dX0_init_10 (fun H locs hP hD hS => ?_)
  have hP : va_P D vwCl [(h0, .inr (0, [.null, .null, .ref q2])), (q2, .inl (cI, 512, .inl (fun _ => 0)))] H := hP
  have hD : va_D A [(h0, .inr (0, [.null, .null, .ref q2])), (q2, .inl (cI, 512, .inl (fun _ => 0)))] := hD
  refine lv_aload_n hx hb dX0_init_13 rfl (lv_at hl 0 rfl) ?_
  refine lv_aload_n hx hb dX0_init_14 rfl (lv_at hl 1 rfl) ?_
  refine va_putF (D := D) (ci := 0) (v := .ref s1) (ty := tyX0 0) (C := RX0) (T := TX0) (N := 3) hx hb hts hiX0 tyX0 tyX0_ok nmX0 hown hK hP hD hS 0 rfl rfl 0 (by decide) hf15 (fun _ h9 => h9) rfl hin rfl (by decide +kernel) rfl rfl (Nat.le_of_ble_eq_true rfl) dX0_init_15 (fun H locs hP hD hS => ?_)
  have hP : va_P D vwCl [(h0, .inr (0, [.ref s1, .null, .ref q2])), (q2, .inl (cI, 512, .inl (fun _ => 0)))] H := hP
  have hD : va_D A [(h0, .inr (0, [.ref s1, .null, .ref q2])), (q2, .inl (cI, 512, .inl (fun _ => 0)))] := hD
  refine lv_aload_n hx hb dX0_init_18 rfl (lv_at hl 0 rfl) ?_
  refine lv_aload_n hx hb dX0_init_19 rfl (lv_at hl 2 rfl) ?_
  refine va_putF (D := D) (ci := 0) (v := .ref s2) (ty := tyX0 1) (C := RX0) (T := TX0) (N := 3) hx hb hts hiX0 tyX0 tyX0_ok nmX0 hown hK hP hD hS 0 rfl rfl 1 (by decide) hf19 (fun _ h9 => h9) rfl hin rfl (by decide +kernel) rfl rfl (Nat.le_of_ble_eq_true rfl) dX0_init_20 (fun H locs hP hD hS => ?_)
  have hP : va_P D vwCl [(h0, .inr (0, [.ref s1, .ref s2, .ref q2])), (q2, .inl (cI, 512, .inl (fun _ => 0)))] H := hP
  have hD : va_D A [(h0, .inr (0, [.ref s1, .ref s2, .ref q2])), (q2, .inl (cI, 512, .inl (fun _ => 0)))] := hD
  rw [← hQ]
  have hP9 := hP.sub (ws' := [(h0, .inr (0, [.ref s1, .ref s2, .ref q2])), (q2, .inl (cI, 512, .inl (fun _ => 0)))]) [0, 1] rfl
  have hD9 := hD.sub (ws' := [(h0, .inr (0, [.ref s1, .ref s2, .ref q2])), (q2, .inl (cI, 512, .inl (fun _ => 0)))]) [0, 1] (by decide) rfl
  exact W.vret hx hb hr (fun t ht hW => ⟨⟨(), rfl, trivial, q2, m_at ht hP9, hD9⟩, hS.F ht⟩) hS.2.2 dX0_init_23
def rm_c_X6_init : Room := { frames := 3, cells := 17, slots := 920, locals := 66 }
set_option maxHeartbeats 4000000 in
set_option maxRecDepth 100000 in
theorem c_X6_init (l : Launch) (D : va_G) (cI cJ cZ : ClassId) (sz : Nat) (x0 : Nat)  : Met l yX6_init wsX6_init rm_c_X6_init (pn_ D cI cJ cZ sz [.ref x0] [(x0, .inr (6, [.null, .null, .null, .null, .null, .null]))]) (va_Qv (fun (u : (Nat → Int32) × (Nat → Int32) × (Nat → Int32)) => ∀ z, z < 9 → u.1 z = nI 1 ∧ u.2.1 z = nI 1 ∧ u.2.2 z = nI 1) (fun (u : (Nat → Int32) × (Nat → Int32) × (Nat → Int32)) t => ∃ (h4 a1 a2 a3 h3 b1 b2 h2 r1 h1 p4 p5 p6 hB l3 h5 lk1 : Nat), va_P D vwCl [(x0, .inr (6, [.ref h4, .ref h3, .ref h2, .ref h1, .ref hB, .ref h5])), (h4, .inr (4, [.ref a1, .ref a2, .ref a3, .int (nI 1), .int (nI 0), .int (nI 0)])), (a1, .inl (cI, 9, .inl u.1)), (a2, .inl (cI, 9, .inl u.2.1)), (a3, .inl (cI, 9, .inl u.2.2)), (h3, .inr (3, [.ref b1, .ref b2, .int (nI 1), .int (nI 0), .int (-1)])), (b1, .inl (cJ, 320, .inr (.inl (fun _ => 0)))), (b2, .inl (cI, 9, .inl (fun _ => 0))), (h2, .inr (2, [.ref r1, .int 0])), (r1, .inl (cI, 9, .inl (fun _ => 0))), (h1, .inr (1, [.ref h4, .ref h3, .ref h2, .ref p4, .ref p5, .ref p6, .int 0])), (p4, .inl (cI, 9, .inl (fun _ => 0))), (p5, .inl (cJ, 0, .inr (.inl (fun _ => 0)))), (p6, .inl (cI, 0, .inl (fun _ => 0))), (hB, .inr (0, [.ref h4, .ref h3, .ref l3])), (l3, .inl (cI, 512, .inl (fun _ => 0))), (h5, .inr (5, [.ref lk1, .int 0])), (lk1, .inl (cI, 9, .inl (fun _ => 0)))] t.heap ∧ va_D (va_A [(x0, .inr (6, [.null, .null, .null, .null, .null, .null]))] sz) [(x0, .inr (6, [.ref h4, .ref h3, .ref h2, .ref h1, .ref hB, .ref h5])), (h4, .inr (4, [.ref a1, .ref a2, .ref a3, .int (nI 1), .int (nI 0), .int (nI 0)])), (a1, .inl (cI, 9, .inl u.1)), (a2, .inl (cI, 9, .inl u.2.1)), (a3, .inl (cI, 9, .inl u.2.2)), (h3, .inr (3, [.ref b1, .ref b2, .int (nI 1), .int (nI 0), .int (-1)])), (b1, .inl (cJ, 320, .inr (.inl (fun _ => 0)))), (b2, .inl (cI, 9, .inl (fun _ => 0))), (h2, .inr (2, [.ref r1, .int 0])), (r1, .inl (cI, 9, .inl (fun _ => 0))), (h1, .inr (1, [.ref h4, .ref h3, .ref h2, .ref p4, .ref p5, .ref p6, .int 0])), (p4, .inl (cI, 9, .inl (fun _ => 0))), (p5, .inl (cJ, 0, .inr (.inl (fun _ => 0)))), (p6, .inl (cI, 0, .inl (fun _ => 0))), (hB, .inr (0, [.ref h4, .ref h3, .ref l3])), (l3, .inl (cI, 512, .inl (fun _ => 0))), (h5, .inr (5, [.ref lk1, .int 0])), (lk1, .inl (cI, 9, .inl (fun _ => 0)))]) (va_A [(x0, .inr (6, [.null, .null, .null, .null, .null, .null]))] sz)) 17 920 (va_A [(x0, .inr (6, [.null, .null, .null, .null, .null, .null]))] sz) := by
  refine Met.ofW (cc := cX6_init) (maxL := 1) (ret := none) (by decide) rfl ?_
  intro p e s m args below meth c s₁ B hml hv
  obtain ⟨rfl, hsz, hP, hKN, hD0⟩ := hv
  have hK := hKN.1
  have hx := B.exec
  have hb := B.bytes
  have hr := B.returns
  have hts := atoms_spec (ws := wsX6_init) B.pre
  have hown : s.vm.findClass RX6 = some m.cls := findClass_of_methodNamed B.named
  have hlocks := B.notSynchronized
  have hin : meth.name = "<init>" := (name_of_methodNamed B.named B.method).1
  have hiX0 : ∀ w ∈ wsX00, w ∈ wsX6_init := by decide +kernel
  have hiX1 : ∀ w ∈ wsX10, w ∈ wsX6_init := by decide +kernel
  have hiX2 : ∀ w ∈ wsX20, w ∈ wsX6_init := by decide +kernel
  have hiX3 : ∀ w ∈ wsX30, w ∈ wsX6_init := by decide +kernel
  have hiX4 : ∀ w ∈ wsX40, w ∈ wsX6_init := by decide +kernel
  have hiX5 : ∀ w ∈ wsX50, w ∈ wsX6_init := by decide +kernel
  have hiX6 : ∀ w ∈ wsX60, w ∈ wsX6_init := by decide +kernel
  have hf10 := hts (.fieldLink RX6 10 "LookBench" "shelf" "LLookBench$Shelf;") (by decide +kernel)
  have hf19 := hts (.fieldLink RX6 19 "LookBench" "rules" "LLookBench$Rules;") (by decide +kernel)
  have hf26 := hts (.fieldLink RX6 26 "LookBench" "queue" "LLookBench$Queue;") (by decide +kernel)
  have hf35 := hts (.fieldLink RX6 35 "LookBench" "plans" "LLookBench$Plans;") (by decide +kernel)
  have hf44 := hts (.fieldLink RX6 44 "LookBench" "bounds" "LLookBench$Bounds;") (by decide +kernel)
  have hf51 := hts (.fieldLink RX6 51 "LookBench" "trail" "LLookBench$Trail;") (by decide +kernel)
  subst hsz
  have hD := hD0.self (sz := s.heap.size)
  generalize hAe : va_A [(x0, .inr (6, [.null, .null, .null, .null, .null, .null]))] s.heap.size = A at hD ⊢
  have hA : ∀ q : Nat, s.heap.size ≤ q → A q := fun q h => by rw [← hAe]; exact Or.inr h
  have hS : va_S A s.heap s.heap [] := va_S.rf
  have hl := lv_entry ([.ref x0]) (n := 1) (Nat.le_of_ble_eq_true rfl)
  rw [lg_entry_eq]
  generalize (lg_sl ([.ref x0]) ++ List.replicate (1 - (lg_sl ([.ref x0])).length) Slot.unset).toArray = ls at hl ⊢
  have hl : lv_has ls 1 [(0, .ref x0)] := hl
  generalize hQ : MQ below _ _ s _ _ _ = Q
  obtain ⟨H, hH⟩ : ∃ z, z = s.heap := ⟨_, rfl⟩
  have hP : va_P D vwCl [(x0, .inr (6, [.null, .null, .null, .null, .null, .null]))] H := by rw [hH]; exact hP
  have hS : va_S A s.heap H [] := by rw [hH]; exact hS
  refine m_heap hH ?_
  clear hH
  refine lv_aload_n hx hb dX6_init_0 rfl (lv_at hl 0 rfl) ?_
  refine W.objInit hx hb hown (hts (.methodLink RX6 1 objectInit) (by decide +kernel)) (hts (.instanceMethod objectInit) (by decide +kernel)) (hts (.code objectInit ⟨#[0xb1]⟩ 1 none) (by decide +kernel)) rfl (by rw [hml]; exact hl.1) rfl dX6_init_1 (Nat.le_of_ble_eq_true rfl) (Nat.le_of_ble_eq_true rfl) ?_
  refine W.eq (g2 := F0 m 4 ls []) rfl ?_
  refine lv_aload_n hx hb dX6_init_4 rfl (lv_at hl 0 rfl) ?_
  refine va_new (ci := 4) (fs := [.null, .null, .null, .int 0, .int 0, .int 0]) (C := RX4) (T := TX4) (N := 6) hx hb hts hiX4 tyX4 tyX4_ok hown (hts (.classLink RX6 7 RX4) (by decide +kernel)) (hts (.instantiable RX4 6) (by decide +kernel)) (hts (.initialized RX4) (by decide +kernel)) hK hP hD hS hA rfl (fun j hj => by rcases (show j = 0 ∨ j = 1 ∨ j = 2 ∨ j = 3 ∨ j = 4 ∨ j = 5 by omega) with rfl | rfl | rfl | rfl | rfl | rfl <;> rfl) (Nat.le_of_ble_eq_true rfl) (Nat.le_of_ble_eq_true rfl) dX6_init_5 (fun q2 H hP hD hS => ?_)
  have hP : va_P D vwCl [(x0, .inr (6, [.null, .null, .null, .null, .null, .null])), (q2, .inr (4, [.null, .null, .null, .int 0, .int 0, .int 0]))] H := hP
  have hD : va_D A [(x0, .inr (6, [.null, .null, .null, .null, .null, .null])), (q2, .inr (4, [.null, .null, .null, .int 0, .int 0, .int 0]))] := hD
  refine W.widen (k := 1) (n := 6) (by omega) (by omega) ?_
  refine lv_dup hx hb dX6_init_8 rfl ?_
  have hPc := hP.sub (ws' := [(q2, .inr (4, [.null, .null, .null, .int 0, .int 0, .int 0]))]) [1] rfl
  have hDc := hD.sub (ws' := [(q2, .inr (4, [.null, .null, .null, .int 0, .int 0, .int 0]))]) [1] (by decide) rfl
  have hFc := va_free (wc := [(q2, .inr (4, [.null, .null, .null, .int 0, .int 0, .int 0]))]) hD hS hA [1] rfl
  refine va_callv (va_runI (As := []) (rest := [.ref q2, .ref x0]) ⟨hx, hb, hml, hown, hts⟩ (c_X4_init l D cI cJ cZ H.size q2) (cwI 0 hts gX6_init_X4_init rfl rfl rfl (hts (.initialized RX4) (by decide +kernel)) (hts (.methodLink RX6 9 yX4_init) (by decide +kernel)) (hts (.instanceMethod yX4_init) (by decide +kernel)) rfl (by decide +kernel) ⟨Nat.le_of_ble_eq_true rfl, Nat.le_of_ble_eq_true rfl⟩) ⟨pn_blind, fun U hU hW => ⟨rfl, by rw [hU], by rw [hU]; exact hPc, hKN.warm hW, hDc.weaken (fun _ _ _ _ => trivial)⟩⟩ rfl rfl hl.1 rfl (lv_room (Nat.le_of_ble_eq_true rfl)) dX6_init_9 ⟨Nat.le_of_ble_eq_true rfl, Nat.le_of_ble_eq_true rfl⟩) hS (fun q _ h => hFc q h) hFc (fun u t H1 locs ht hvm hw hB hz1 hk1 hS => ?_)
  obtain ⟨u3_ug, u3_ub, u3_ur⟩ := u
  have w3 : ∀ z, z < 9 → u3_ug z = nI 1 ∧ u3_ub z = nI 1 ∧ u3_ur z = nI 1 := hw
  obtain ⟨q3_a1, q3_a2, q3_a3, hP1, hD1⟩ := hB
  rw [ht] at hP1
  have hP1 : va_P D vwCl [(q2, .inr (4, [.ref q3_a1, .ref q3_a2, .ref q3_a3, .int (nI 1), .int (nI 0), .int (nI 0)])), (q3_a1, .inl (cI, 9, .inl u3_ug)), (q3_a2, .inl (cI, 9, .inl u3_ub)), (q3_a3, .inl (cI, 9, .inl u3_ur))] H1 := hP1
  have hD1 : va_D _ [(q2, .inr (4, [.ref q3_a1, .ref q3_a2, .ref q3_a3, .int (nI 1), .int (nI 0), .int (nI 0)])), (q3_a1, .inl (cI, 9, .inl u3_ug)), (q3_a2, .inl (cI, 9, .inl u3_ub)), (q3_a3, .inl (cI, 9, .inl u3_ur))] := hD1
  obtain ⟨hP, hD⟩ := va_join (wr := [(x0, .inr (6, [.null, .null, .null, .null, .null, .null]))]) (w1 := [(q2, .inr (4, [.ref q3_a1, .ref q3_a2, .ref q3_a3, .int (nI 1), .int (nI 0), .int (nI 0)])), (q3_a1, .inl (cI, 9, .inl u3_ug)), (q3_a2, .inl (cI, 9, .inl u3_ub)), (q3_a3, .inl (cI, 9, .inl u3_ur))]) hP hD [1] [0] rfl rfl (by decide) (by decide) hk1 hFc hP1 hD1
  generalize H1 = H at hP hS ⊢
  have hP : va_P D vwCl [(x0, .inr (6, [.null, .null, .null, .null, .null, .null])), (q2, .inr (4, [.ref q3_a1, .ref q3_a2, .ref q3_a3, .int (nI 1), .int (nI 0), .int (nI 0)])), (q3_a1, .inl (cI, 9, .inl u3_ug)), (q3_a2, .inl (cI, 9, .inl u3_ub)), (q3_a3, .inl (cI, 9, .inl u3_ur))] H := hP
  have hD : va_D A [(x0, .inr (6, [.null, .null, .null, .null, .null, .null])), (q2, .inr (4, [.ref q3_a1, .ref q3_a2, .ref q3_a3, .int (nI 1), .int (nI 0), .int (nI 0)])), (q3_a1, .inl (cI, 9, .inl u3_ug)), (q3_a2, .inl (cI, 9, .inl u3_ub)), (q3_a3, .inl (cI, 9, .inl u3_ur))] := hD
  refine W.widen (k := 4) (n := 33) (by omega) (by omega) ?_
  refine va_putF (D := D) (ci := 6) (v := .ref q2) (ty := tyX6 0) (C := RX6) (T := TX6) (N := 6) hx hb hts hiX6 tyX6 tyX6_ok nmX6 hown hK hP hD hS 0 rfl rfl 0 (by decide) hf10 (fun _ h9 => h9) rfl hin rfl (by decide +kernel) rfl rfl (Nat.le_of_ble_eq_true rfl) dX6_init_12 (fun H locs hP hD hS => ?_)
  have hP : va_P D vwCl [(x0, .inr (6, [.ref q2, .null, .null, .null, .null, .null])), (q2, .inr (4, [.ref q3_a1, .ref q3_a2, .ref q3_a3, .int (nI 1), .int (nI 0), .int (nI 0)])), (q3_a1, .inl (cI, 9, .inl u3_ug)), (q3_a2, .inl (cI, 9, .inl u3_ub)), (q3_a3, .inl (cI, 9, .inl u3_ur))] H := hP
  have hD : va_D A [(x0, .inr (6, [.ref q2, .null, .null, .null, .null, .null])), (q2, .inr (4, [.ref q3_a1, .ref q3_a2, .ref q3_a3, .int (nI 1), .int (nI 0), .int (nI 0)])), (q3_a1, .inl (cI, 9, .inl u3_ug)), (q3_a2, .inl (cI, 9, .inl u3_ub)), (q3_a3, .inl (cI, 9, .inl u3_ur))] := hD
  refine lv_aload_n hx hb dX6_init_15 rfl (lv_at hl 0 rfl) ?_
  refine va_new (ci := 3) (fs := [.null, .null, .int 0, .int 0, .int 0]) (C := RX3) (T := TX3) (N := 5) hx hb hts hiX3 tyX3 tyX3_ok hown (hts (.classLink RX6 16 RX3) (by decide +kernel)) (hts (.instantiable RX3 5) (by decide +kernel)) (hts (.initialized RX3) (by decide +kernel)) hK hP hD hS hA rfl (fun j hj => by rcases (show j = 0 ∨ j = 1 ∨ j = 2 ∨ j = 3 ∨ j = 4 by omega) with rfl | rfl | rfl | rfl | rfl <;> rfl) (Nat.le_of_ble_eq_true rfl) (Nat.le_of_ble_eq_true rfl) dX6_init_16 (fun q4 H hP hD hS => ?_)
  have hP : va_P D vwCl [(x0, .inr (6, [.ref q2, .null, .null, .null, .null, .null])), (q2, .inr (4, [.ref q3_a1, .ref q3_a2, .ref q3_a3, .int (nI 1), .int (nI 0), .int (nI 0)])), (q3_a1, .inl (cI, 9, .inl u3_ug)), (q3_a2, .inl (cI, 9, .inl u3_ub)), (q3_a3, .inl (cI, 9, .inl u3_ur)), (q4, .inr (3, [.null, .null, .int 0, .int 0, .int 0]))] H := hP
  have hD : va_D A [(x0, .inr (6, [.ref q2, .null, .null, .null, .null, .null])), (q2, .inr (4, [.ref q3_a1, .ref q3_a2, .ref q3_a3, .int (nI 1), .int (nI 0), .int (nI 0)])), (q3_a1, .inl (cI, 9, .inl u3_ug)), (q3_a2, .inl (cI, 9, .inl u3_ub)), (q3_a3, .inl (cI, 9, .inl u3_ur)), (q4, .inr (3, [.null, .null, .int 0, .int 0, .int 0]))] := hD
  refine W.widen (k := 5) (n := 38) (by omega) (by omega) ?_
  refine lv_dup hx hb dX6_init_19 rfl ?_
  have hPc := hP.sub (ws' := [(q4, .inr (3, [.null, .null, .int 0, .int 0, .int 0]))]) [5] rfl
  have hDc := hD.sub (ws' := [(q4, .inr (3, [.null, .null, .int 0, .int 0, .int 0]))]) [5] (by decide) rfl
  have hFc := va_free (wc := [(q4, .inr (3, [.null, .null, .int 0, .int 0, .int 0]))]) hD hS hA [5] rfl
  refine va_callv (va_runI (As := []) (rest := [.ref q4, .ref x0]) ⟨hx, hb, hml, hown, hts⟩ (c_X3_init l D cI cJ cZ H.size q4) (cwI 0 hts gX6_init_X3_init rfl rfl rfl (hts (.initialized RX3) (by decide +kernel)) (hts (.methodLink RX6 18 yX3_init) (by decide +kernel)) (hts (.instanceMethod yX3_init) (by decide +kernel)) rfl (by decide +kernel) ⟨Nat.le_of_ble_eq_true rfl, Nat.le_of_ble_eq_true rfl⟩) ⟨pn_blind, fun U hU hW => ⟨rfl, by rw [hU], by rw [hU]; exact hPc, hKN.warm hW, hDc.weaken (fun _ _ _ _ => trivial)⟩⟩ rfl rfl hl.1 rfl (lv_room (Nat.le_of_ble_eq_true rfl)) dX6_init_20 ⟨Nat.le_of_ble_eq_true rfl, Nat.le_of_ble_eq_true rfl⟩) hS (fun q _ h => hFc q h) hFc (fun u t H1 locs ht hvm hw hB hz1 hk1 hS => ?_)
  have w5 : True := hw
  obtain ⟨q5_b1, q5_b2, hP1, hD1⟩ := hB
  rw [ht] at hP1
  have hP1 : va_P D vwCl [(q4, .inr (3, [.ref q5_b1, .ref q5_b2, .int (nI 1), .int (nI 0), .int (-1)])), (q5_b1, .inl (cJ, 320, .inr (.inl (fun _ => 0)))), (q5_b2, .inl (cI, 9, .inl (fun _ => 0)))] H1 := hP1
  have hD1 : va_D _ [(q4, .inr (3, [.ref q5_b1, .ref q5_b2, .int (nI 1), .int (nI 0), .int (-1)])), (q5_b1, .inl (cJ, 320, .inr (.inl (fun _ => 0)))), (q5_b2, .inl (cI, 9, .inl (fun _ => 0)))] := hD1
  obtain ⟨hP, hD⟩ := va_join (wr := [(x0, .inr (6, [.ref q2, .null, .null, .null, .null, .null])), (q2, .inr (4, [.ref q3_a1, .ref q3_a2, .ref q3_a3, .int (nI 1), .int (nI 0), .int (nI 0)])), (q3_a1, .inl (cI, 9, .inl u3_ug)), (q3_a2, .inl (cI, 9, .inl u3_ub)), (q3_a3, .inl (cI, 9, .inl u3_ur))]) (w1 := [(q4, .inr (3, [.ref q5_b1, .ref q5_b2, .int (nI 1), .int (nI 0), .int (-1)])), (q5_b1, .inl (cJ, 320, .inr (.inl (fun _ => 0)))), (q5_b2, .inl (cI, 9, .inl (fun _ => 0)))]) hP hD [5] [0, 1, 2, 3, 4] rfl rfl (by decide) (by decide) hk1 hFc hP1 hD1
  generalize H1 = H at hP hS ⊢
  have hP : va_P D vwCl [(x0, .inr (6, [.ref q2, .null, .null, .null, .null, .null])), (q2, .inr (4, [.ref q3_a1, .ref q3_a2, .ref q3_a3, .int (nI 1), .int (nI 0), .int (nI 0)])), (q3_a1, .inl (cI, 9, .inl u3_ug)), (q3_a2, .inl (cI, 9, .inl u3_ub)), (q3_a3, .inl (cI, 9, .inl u3_ur)), (q4, .inr (3, [.ref q5_b1, .ref q5_b2, .int (nI 1), .int (nI 0), .int (-1)])), (q5_b1, .inl (cJ, 320, .inr (.inl (fun _ => 0)))), (q5_b2, .inl (cI, 9, .inl (fun _ => 0)))] H := hP
  have hD : va_D A [(x0, .inr (6, [.ref q2, .null, .null, .null, .null, .null])), (q2, .inr (4, [.ref q3_a1, .ref q3_a2, .ref q3_a3, .int (nI 1), .int (nI 0), .int (nI 0)])), (q3_a1, .inl (cI, 9, .inl u3_ug)), (q3_a2, .inl (cI, 9, .inl u3_ub)), (q3_a3, .inl (cI, 9, .inl u3_ur)), (q4, .inr (3, [.ref q5_b1, .ref q5_b2, .int (nI 1), .int (nI 0), .int (-1)])), (q5_b1, .inl (cJ, 320, .inr (.inl (fun _ => 0)))), (q5_b2, .inl (cI, 9, .inl (fun _ => 0)))] := hD
  refine W.widen (k := 7) (n := 367) (by omega) (by omega) ?_
  refine va_putF (D := D) (ci := 6) (v := .ref q4) (ty := tyX6 1) (C := RX6) (T := TX6) (N := 6) hx hb hts hiX6 tyX6 tyX6_ok nmX6 hown hK hP hD hS 0 rfl rfl 1 (by decide) hf19 (fun _ h9 => h9) rfl hin rfl (by decide +kernel) rfl rfl (Nat.le_of_ble_eq_true rfl) dX6_init_23 (fun H locs hP hD hS => ?_)
  have hP : va_P D vwCl [(x0, .inr (6, [.ref q2, .ref q4, .null, .null, .null, .null])), (q2, .inr (4, [.ref q3_a1, .ref q3_a2, .ref q3_a3, .int (nI 1), .int (nI 0), .int (nI 0)])), (q3_a1, .inl (cI, 9, .inl u3_ug)), (q3_a2, .inl (cI, 9, .inl u3_ub)), (q3_a3, .inl (cI, 9, .inl u3_ur)), (q4, .inr (3, [.ref q5_b1, .ref q5_b2, .int (nI 1), .int (nI 0), .int (-1)])), (q5_b1, .inl (cJ, 320, .inr (.inl (fun _ => 0)))), (q5_b2, .inl (cI, 9, .inl (fun _ => 0)))] H := hP
  have hD : va_D A [(x0, .inr (6, [.ref q2, .ref q4, .null, .null, .null, .null])), (q2, .inr (4, [.ref q3_a1, .ref q3_a2, .ref q3_a3, .int (nI 1), .int (nI 0), .int (nI 0)])), (q3_a1, .inl (cI, 9, .inl u3_ug)), (q3_a2, .inl (cI, 9, .inl u3_ub)), (q3_a3, .inl (cI, 9, .inl u3_ur)), (q4, .inr (3, [.ref q5_b1, .ref q5_b2, .int (nI 1), .int (nI 0), .int (-1)])), (q5_b1, .inl (cJ, 320, .inr (.inl (fun _ => 0)))), (q5_b2, .inl (cI, 9, .inl (fun _ => 0)))] := hD
  refine lv_aload_n hx hb dX6_init_26 rfl (lv_at hl 0 rfl) ?_
  refine va_new (ci := 2) (fs := [.null, .int 0]) (C := RX2) (T := TX2) (N := 2) hx hb hts hiX2 tyX2 tyX2_ok hown (hts (.classLink RX6 23 RX2) (by decide +kernel)) (hts (.instantiable RX2 2) (by decide +kernel)) (hts (.initialized RX2) (by decide +kernel)) hK hP hD hS hA rfl (fun j hj => by rcases (show j = 0 ∨ j = 1 by omega) with rfl | rfl <;> rfl) (Nat.le_of_ble_eq_true rfl) (Nat.le_of_ble_eq_true rfl) dX6_init_27 (fun q6 H hP hD hS => ?_)
  have hP : va_P D vwCl [(x0, .inr (6, [.ref q2, .ref q4, .null, .null, .null, .null])), (q2, .inr (4, [.ref q3_a1, .ref q3_a2, .ref q3_a3, .int (nI 1), .int (nI 0), .int (nI 0)])), (q3_a1, .inl (cI, 9, .inl u3_ug)), (q3_a2, .inl (cI, 9, .inl u3_ub)), (q3_a3, .inl (cI, 9, .inl u3_ur)), (q4, .inr (3, [.ref q5_b1, .ref q5_b2, .int (nI 1), .int (nI 0), .int (-1)])), (q5_b1, .inl (cJ, 320, .inr (.inl (fun _ => 0)))), (q5_b2, .inl (cI, 9, .inl (fun _ => 0))), (q6, .inr (2, [.null, .int 0]))] H := hP
  have hD : va_D A [(x0, .inr (6, [.ref q2, .ref q4, .null, .null, .null, .null])), (q2, .inr (4, [.ref q3_a1, .ref q3_a2, .ref q3_a3, .int (nI 1), .int (nI 0), .int (nI 0)])), (q3_a1, .inl (cI, 9, .inl u3_ug)), (q3_a2, .inl (cI, 9, .inl u3_ub)), (q3_a3, .inl (cI, 9, .inl u3_ur)), (q4, .inr (3, [.ref q5_b1, .ref q5_b2, .int (nI 1), .int (nI 0), .int (-1)])), (q5_b1, .inl (cJ, 320, .inr (.inl (fun _ => 0)))), (q5_b2, .inl (cI, 9, .inl (fun _ => 0))), (q6, .inr (2, [.null, .int 0]))] := hD
  refine W.widen (k := 8) (n := 369) (by omega) (by omega) ?_
  refine lv_dup hx hb dX6_init_30 rfl ?_
  have hPc := hP.sub (ws' := [(q6, .inr (2, [.null, .int 0]))]) [8] rfl
  have hDc := hD.sub (ws' := [(q6, .inr (2, [.null, .int 0]))]) [8] (by decide) rfl
  have hFc := va_free (wc := [(q6, .inr (2, [.null, .int 0]))]) hD hS hA [8] rfl
  refine va_callv (va_runIN (As := []) (rest := [.ref q6, .ref x0]) ⟨hx, hb, hml, hown, hts⟩ (c_X2_init l D cI cJ cZ H.size q6) ⟨va_cnB 0 hts gX6_init_X2_init_n25 rfl rfl rfl (hKN.2 (.methodLinkNest RX6 25 yX2_init RX6) (by decide +kernel)) (hts (.initialized RX2) (by decide +kernel)) (by decide +kernel) ⟨Nat.le_of_ble_eq_true rfl, Nat.le_of_ble_eq_true rfl⟩, rfl, hts (.instanceMethod yX2_init) (by decide +kernel)⟩ ⟨pn_blind, fun U hU hW => ⟨rfl, by rw [hU], by rw [hU]; exact hPc, hKN.warm hW, hDc.weaken (fun _ _ _ _ => trivial)⟩⟩ rfl rfl hl.1 rfl (lv_room (Nat.le_of_ble_eq_true rfl)) dX6_init_31 ⟨Nat.le_of_ble_eq_true rfl, Nat.le_of_ble_eq_true rfl⟩) hS (fun q _ h => hFc q h) hFc (fun u t H1 locs ht hvm hw hB hz1 hk1 hS => ?_)
  have w7 : True := hw
  obtain ⟨q7_r1, hP1, hD1⟩ := hB
  rw [ht] at hP1
  have hP1 : va_P D vwCl [(q6, .inr (2, [.ref q7_r1, .int 0])), (q7_r1, .inl (cI, 9, .inl (fun _ => 0)))] H1 := hP1
  have hD1 : va_D _ [(q6, .inr (2, [.ref q7_r1, .int 0])), (q7_r1, .inl (cI, 9, .inl (fun _ => 0)))] := hD1
  obtain ⟨hP, hD⟩ := va_join (wr := [(x0, .inr (6, [.ref q2, .ref q4, .null, .null, .null, .null])), (q2, .inr (4, [.ref q3_a1, .ref q3_a2, .ref q3_a3, .int (nI 1), .int (nI 0), .int (nI 0)])), (q3_a1, .inl (cI, 9, .inl u3_ug)), (q3_a2, .inl (cI, 9, .inl u3_ub)), (q3_a3, .inl (cI, 9, .inl u3_ur)), (q4, .inr (3, [.ref q5_b1, .ref q5_b2, .int (nI 1), .int (nI 0), .int (-1)])), (q5_b1, .inl (cJ, 320, .inr (.inl (fun _ => 0)))), (q5_b2, .inl (cI, 9, .inl (fun _ => 0)))]) (w1 := [(q6, .inr (2, [.ref q7_r1, .int 0])), (q7_r1, .inl (cI, 9, .inl (fun _ => 0)))]) hP hD [8] [0, 1, 2, 3, 4, 5, 6, 7] rfl rfl (by decide) (by decide) hk1 hFc hP1 hD1
  generalize H1 = H at hP hS ⊢
  have hP : va_P D vwCl [(x0, .inr (6, [.ref q2, .ref q4, .null, .null, .null, .null])), (q2, .inr (4, [.ref q3_a1, .ref q3_a2, .ref q3_a3, .int (nI 1), .int (nI 0), .int (nI 0)])), (q3_a1, .inl (cI, 9, .inl u3_ug)), (q3_a2, .inl (cI, 9, .inl u3_ub)), (q3_a3, .inl (cI, 9, .inl u3_ur)), (q4, .inr (3, [.ref q5_b1, .ref q5_b2, .int (nI 1), .int (nI 0), .int (-1)])), (q5_b1, .inl (cJ, 320, .inr (.inl (fun _ => 0)))), (q5_b2, .inl (cI, 9, .inl (fun _ => 0))), (q6, .inr (2, [.ref q7_r1, .int 0])), (q7_r1, .inl (cI, 9, .inl (fun _ => 0)))] H := hP
  have hD : va_D A [(x0, .inr (6, [.ref q2, .ref q4, .null, .null, .null, .null])), (q2, .inr (4, [.ref q3_a1, .ref q3_a2, .ref q3_a3, .int (nI 1), .int (nI 0), .int (nI 0)])), (q3_a1, .inl (cI, 9, .inl u3_ug)), (q3_a2, .inl (cI, 9, .inl u3_ub)), (q3_a3, .inl (cI, 9, .inl u3_ur)), (q4, .inr (3, [.ref q5_b1, .ref q5_b2, .int (nI 1), .int (nI 0), .int (-1)])), (q5_b1, .inl (cJ, 320, .inr (.inl (fun _ => 0)))), (q5_b2, .inl (cI, 9, .inl (fun _ => 0))), (q6, .inr (2, [.ref q7_r1, .int 0])), (q7_r1, .inl (cI, 9, .inl (fun _ => 0)))] := hD
  refine W.widen (k := 9) (n := 378) (by omega) (by omega) ?_
  refine va_putF (D := D) (ci := 6) (v := .ref q6) (ty := tyX6 2) (C := RX6) (T := TX6) (N := 6) hx hb hts hiX6 tyX6 tyX6_ok nmX6 hown hK hP hD hS 0 rfl rfl 2 (by decide) hf26 (fun _ h9 => h9) rfl hin rfl (by decide +kernel) rfl rfl (Nat.le_of_ble_eq_true rfl) dX6_init_34 (fun H locs hP hD hS => ?_)
  have hP : va_P D vwCl [(x0, .inr (6, [.ref q2, .ref q4, .ref q6, .null, .null, .null])), (q2, .inr (4, [.ref q3_a1, .ref q3_a2, .ref q3_a3, .int (nI 1), .int (nI 0), .int (nI 0)])), (q3_a1, .inl (cI, 9, .inl u3_ug)), (q3_a2, .inl (cI, 9, .inl u3_ub)), (q3_a3, .inl (cI, 9, .inl u3_ur)), (q4, .inr (3, [.ref q5_b1, .ref q5_b2, .int (nI 1), .int (nI 0), .int (-1)])), (q5_b1, .inl (cJ, 320, .inr (.inl (fun _ => 0)))), (q5_b2, .inl (cI, 9, .inl (fun _ => 0))), (q6, .inr (2, [.ref q7_r1, .int 0])), (q7_r1, .inl (cI, 9, .inl (fun _ => 0)))] H := hP
  have hD : va_D A [(x0, .inr (6, [.ref q2, .ref q4, .ref q6, .null, .null, .null])), (q2, .inr (4, [.ref q3_a1, .ref q3_a2, .ref q3_a3, .int (nI 1), .int (nI 0), .int (nI 0)])), (q3_a1, .inl (cI, 9, .inl u3_ug)), (q3_a2, .inl (cI, 9, .inl u3_ub)), (q3_a3, .inl (cI, 9, .inl u3_ur)), (q4, .inr (3, [.ref q5_b1, .ref q5_b2, .int (nI 1), .int (nI 0), .int (-1)])), (q5_b1, .inl (cJ, 320, .inr (.inl (fun _ => 0)))), (q5_b2, .inl (cI, 9, .inl (fun _ => 0))), (q6, .inr (2, [.ref q7_r1, .int 0])), (q7_r1, .inl (cI, 9, .inl (fun _ => 0)))] := hD
  refine lv_aload_n hx hb dX6_init_37 rfl (lv_at hl 0 rfl) ?_
  refine va_new (ci := 1) (fs := [.null, .null, .null, .null, .null, .null, .int 0]) (C := RX1) (T := TX1) (N := 7) hx hb hts hiX1 tyX1 tyX1_ok hown (hts (.classLink RX6 30 RX1) (by decide +kernel)) (hts (.instantiable RX1 7) (by decide +kernel)) (hts (.initialized RX1) (by decide +kernel)) hK hP hD hS hA rfl (fun j hj => by rcases (show j = 0 ∨ j = 1 ∨ j = 2 ∨ j = 3 ∨ j = 4 ∨ j = 5 ∨ j = 6 by omega) with rfl | rfl | rfl | rfl | rfl | rfl | rfl <;> rfl) (Nat.le_of_ble_eq_true rfl) (Nat.le_of_ble_eq_true rfl) dX6_init_38 (fun q8 H hP hD hS => ?_)
  have hP : va_P D vwCl [(x0, .inr (6, [.ref q2, .ref q4, .ref q6, .null, .null, .null])), (q2, .inr (4, [.ref q3_a1, .ref q3_a2, .ref q3_a3, .int (nI 1), .int (nI 0), .int (nI 0)])), (q3_a1, .inl (cI, 9, .inl u3_ug)), (q3_a2, .inl (cI, 9, .inl u3_ub)), (q3_a3, .inl (cI, 9, .inl u3_ur)), (q4, .inr (3, [.ref q5_b1, .ref q5_b2, .int (nI 1), .int (nI 0), .int (-1)])), (q5_b1, .inl (cJ, 320, .inr (.inl (fun _ => 0)))), (q5_b2, .inl (cI, 9, .inl (fun _ => 0))), (q6, .inr (2, [.ref q7_r1, .int 0])), (q7_r1, .inl (cI, 9, .inl (fun _ => 0))), (q8, .inr (1, [.null, .null, .null, .null, .null, .null, .int 0]))] H := hP
  have hD : va_D A [(x0, .inr (6, [.ref q2, .ref q4, .ref q6, .null, .null, .null])), (q2, .inr (4, [.ref q3_a1, .ref q3_a2, .ref q3_a3, .int (nI 1), .int (nI 0), .int (nI 0)])), (q3_a1, .inl (cI, 9, .inl u3_ug)), (q3_a2, .inl (cI, 9, .inl u3_ub)), (q3_a3, .inl (cI, 9, .inl u3_ur)), (q4, .inr (3, [.ref q5_b1, .ref q5_b2, .int (nI 1), .int (nI 0), .int (-1)])), (q5_b1, .inl (cJ, 320, .inr (.inl (fun _ => 0)))), (q5_b2, .inl (cI, 9, .inl (fun _ => 0))), (q6, .inr (2, [.ref q7_r1, .int 0])), (q7_r1, .inl (cI, 9, .inl (fun _ => 0))), (q8, .inr (1, [.null, .null, .null, .null, .null, .null, .int 0]))] := hD
  refine W.widen (k := 10) (n := 385) (by omega) (by omega) ?_
  refine lv_dup hx hb dX6_init_41 rfl ?_
  refine lv_aload_n hx hb dX6_init_42 rfl (lv_at hl 0 rfl) ?_
  refine va_get (D := D) (ci := 6) (v := .ref q2) (C := RX6) (T := TX6) (N := 6) hx hb hts hiX6 hown hK hP 0 rfl rfl 0 (by decide) hf10 (fun _ h9 => h9) rfl dX6_init_43 ?_
  refine lv_aload_n hx hb dX6_init_46 rfl (lv_at hl 0 rfl) ?_
  refine va_get (D := D) (ci := 6) (v := .ref q4) (C := RX6) (T := TX6) (N := 6) hx hb hts hiX6 hown hK hP 0 rfl rfl 1 (by decide) hf19 (fun _ h9 => h9) rfl dX6_init_47 ?_
  refine lv_aload_n hx hb dX6_init_50 rfl (lv_at hl 0 rfl) ?_
  refine va_get (D := D) (ci := 6) (v := .ref q6) (C := RX6) (T := TX6) (N := 6) hx hb hts hiX6 hown hK hP 0 rfl rfl 2 (by decide) hf26 (fun _ h9 => h9) rfl dX6_init_51 ?_
  have hPc := hP.sub (ws' := [(q8, .inr (1, [.null, .null, .null, .null, .null, .null, .int 0]))]) [10] rfl
  have hDc := hD.sub (ws' := [(q8, .inr (1, [.null, .null, .null, .null, .null, .null, .int 0]))]) [10] (by decide) rfl
  have hFc := va_free (wc := [(q8, .inr (1, [.null, .null, .null, .null, .null, .null, .int 0]))]) hD hS hA [10] rfl
  refine va_callv (va_runI (As := [.ref q2, .ref q4, .ref q6]) (rest := [.ref q8, .ref x0]) ⟨hx, hb, hml, hown, hts⟩ (c_X1_init l D cI cJ cZ H.size q8 q2 q4 q6) (cwI 3 hts gX6_init_X1_init rfl rfl rfl (hts (.initialized RX1) (by decide +kernel)) (hts (.methodLink RX6 32 yX1_init) (by decide +kernel)) (hts (.instanceMethod yX1_init) (by decide +kernel)) rfl (by decide +kernel) ⟨Nat.le_of_ble_eq_true rfl, Nat.le_of_ble_eq_true rfl⟩) ⟨pn_blind, fun U hU hW => ⟨rfl, by rw [hU], by rw [hU]; exact hPc, hKN.warm hW, hDc.weaken (fun _ _ _ _ => trivial)⟩⟩ rfl rfl hl.1 rfl (lv_room (Nat.le_of_ble_eq_true rfl)) dX6_init_54 ⟨Nat.le_of_ble_eq_true rfl, Nat.le_of_ble_eq_true rfl⟩) hS (fun q _ h => hFc q h) hFc (fun u t H1 locs ht hvm hw hB hz1 hk1 hS => ?_)
  have w9 : True := hw
  obtain ⟨q9_p4, q9_p5, q9_p6, hP1, hD1⟩ := hB
  rw [ht] at hP1
  have hP1 : va_P D vwCl [(q8, .inr (1, [.ref q2, .ref q4, .ref q6, .ref q9_p4, .ref q9_p5, .ref q9_p6, .int 0])), (q9_p4, .inl (cI, 9, .inl (fun _ => 0))), (q9_p5, .inl (cJ, 0, .inr (.inl (fun _ => 0)))), (q9_p6, .inl (cI, 0, .inl (fun _ => 0)))] H1 := hP1
  have hD1 : va_D _ [(q8, .inr (1, [.ref q2, .ref q4, .ref q6, .ref q9_p4, .ref q9_p5, .ref q9_p6, .int 0])), (q9_p4, .inl (cI, 9, .inl (fun _ => 0))), (q9_p5, .inl (cJ, 0, .inr (.inl (fun _ => 0)))), (q9_p6, .inl (cI, 0, .inl (fun _ => 0)))] := hD1
  obtain ⟨hP, hD⟩ := va_join (wr := [(x0, .inr (6, [.ref q2, .ref q4, .ref q6, .null, .null, .null])), (q2, .inr (4, [.ref q3_a1, .ref q3_a2, .ref q3_a3, .int (nI 1), .int (nI 0), .int (nI 0)])), (q3_a1, .inl (cI, 9, .inl u3_ug)), (q3_a2, .inl (cI, 9, .inl u3_ub)), (q3_a3, .inl (cI, 9, .inl u3_ur)), (q4, .inr (3, [.ref q5_b1, .ref q5_b2, .int (nI 1), .int (nI 0), .int (-1)])), (q5_b1, .inl (cJ, 320, .inr (.inl (fun _ => 0)))), (q5_b2, .inl (cI, 9, .inl (fun _ => 0))), (q6, .inr (2, [.ref q7_r1, .int 0])), (q7_r1, .inl (cI, 9, .inl (fun _ => 0)))]) (w1 := [(q8, .inr (1, [.ref q2, .ref q4, .ref q6, .ref q9_p4, .ref q9_p5, .ref q9_p6, .int 0])), (q9_p4, .inl (cI, 9, .inl (fun _ => 0))), (q9_p5, .inl (cJ, 0, .inr (.inl (fun _ => 0)))), (q9_p6, .inl (cI, 0, .inl (fun _ => 0)))]) hP hD [10] [0, 1, 2, 3, 4, 5, 6, 7, 8, 9] rfl rfl (by decide) (by decide) hk1 hFc hP1 hD1
  generalize H1 = H at hP hS ⊢
  have hP : va_P D vwCl [(x0, .inr (6, [.ref q2, .ref q4, .ref q6, .null, .null, .null])), (q2, .inr (4, [.ref q3_a1, .ref q3_a2, .ref q3_a3, .int (nI 1), .int (nI 0), .int (nI 0)])), (q3_a1, .inl (cI, 9, .inl u3_ug)), (q3_a2, .inl (cI, 9, .inl u3_ub)), (q3_a3, .inl (cI, 9, .inl u3_ur)), (q4, .inr (3, [.ref q5_b1, .ref q5_b2, .int (nI 1), .int (nI 0), .int (-1)])), (q5_b1, .inl (cJ, 320, .inr (.inl (fun _ => 0)))), (q5_b2, .inl (cI, 9, .inl (fun _ => 0))), (q6, .inr (2, [.ref q7_r1, .int 0])), (q7_r1, .inl (cI, 9, .inl (fun _ => 0))), (q8, .inr (1, [.ref q2, .ref q4, .ref q6, .ref q9_p4, .ref q9_p5, .ref q9_p6, .int 0])), (q9_p4, .inl (cI, 9, .inl (fun _ => 0))), (q9_p5, .inl (cJ, 0, .inr (.inl (fun _ => 0)))), (q9_p6, .inl (cI, 0, .inl (fun _ => 0)))] H := hP
  have hD : va_D A [(x0, .inr (6, [.ref q2, .ref q4, .ref q6, .null, .null, .null])), (q2, .inr (4, [.ref q3_a1, .ref q3_a2, .ref q3_a3, .int (nI 1), .int (nI 0), .int (nI 0)])), (q3_a1, .inl (cI, 9, .inl u3_ug)), (q3_a2, .inl (cI, 9, .inl u3_ub)), (q3_a3, .inl (cI, 9, .inl u3_ur)), (q4, .inr (3, [.ref q5_b1, .ref q5_b2, .int (nI 1), .int (nI 0), .int (-1)])), (q5_b1, .inl (cJ, 320, .inr (.inl (fun _ => 0)))), (q5_b2, .inl (cI, 9, .inl (fun _ => 0))), (q6, .inr (2, [.ref q7_r1, .int 0])), (q7_r1, .inl (cI, 9, .inl (fun _ => 0))), (q8, .inr (1, [.ref q2, .ref q4, .ref q6, .ref q9_p4, .ref q9_p5, .ref q9_p6, .int 0])), (q9_p4, .inl (cI, 9, .inl (fun _ => 0))), (q9_p5, .inl (cJ, 0, .inr (.inl (fun _ => 0)))), (q9_p6, .inl (cI, 0, .inl (fun _ => 0)))] := hD
  refine W.widen (k := 13) (n := 394) (by omega) (by omega) ?_
  refine va_putF (D := D) (ci := 6) (v := .ref q8) (ty := tyX6 3) (C := RX6) (T := TX6) (N := 6) hx hb hts hiX6 tyX6 tyX6_ok nmX6 hown hK hP hD hS 0 rfl rfl 3 (by decide) hf35 (fun _ h9 => h9) rfl hin rfl (by decide +kernel) rfl rfl (Nat.le_of_ble_eq_true rfl) dX6_init_57 (fun H locs hP hD hS => ?_)
  have hP : va_P D vwCl [(x0, .inr (6, [.ref q2, .ref q4, .ref q6, .ref q8, .null, .null])), (q2, .inr (4, [.ref q3_a1, .ref q3_a2, .ref q3_a3, .int (nI 1), .int (nI 0), .int (nI 0)])), (q3_a1, .inl (cI, 9, .inl u3_ug)), (q3_a2, .inl (cI, 9, .inl u3_ub)), (q3_a3, .inl (cI, 9, .inl u3_ur)), (q4, .inr (3, [.ref q5_b1, .ref q5_b2, .int (nI 1), .int (nI 0), .int (-1)])), (q5_b1, .inl (cJ, 320, .inr (.inl (fun _ => 0)))), (q5_b2, .inl (cI, 9, .inl (fun _ => 0))), (q6, .inr (2, [.ref q7_r1, .int 0])), (q7_r1, .inl (cI, 9, .inl (fun _ => 0))), (q8, .inr (1, [.ref q2, .ref q4, .ref q6, .ref q9_p4, .ref q9_p5, .ref q9_p6, .int 0])), (q9_p4, .inl (cI, 9, .inl (fun _ => 0))), (q9_p5, .inl (cJ, 0, .inr (.inl (fun _ => 0)))), (q9_p6, .inl (cI, 0, .inl (fun _ => 0)))] H := hP
  have hD : va_D A [(x0, .inr (6, [.ref q2, .ref q4, .ref q6, .ref q8, .null, .null])), (q2, .inr (4, [.ref q3_a1, .ref q3_a2, .ref q3_a3, .int (nI 1), .int (nI 0), .int (nI 0)])), (q3_a1, .inl (cI, 9, .inl u3_ug)), (q3_a2, .inl (cI, 9, .inl u3_ub)), (q3_a3, .inl (cI, 9, .inl u3_ur)), (q4, .inr (3, [.ref q5_b1, .ref q5_b2, .int (nI 1), .int (nI 0), .int (-1)])), (q5_b1, .inl (cJ, 320, .inr (.inl (fun _ => 0)))), (q5_b2, .inl (cI, 9, .inl (fun _ => 0))), (q6, .inr (2, [.ref q7_r1, .int 0])), (q7_r1, .inl (cI, 9, .inl (fun _ => 0))), (q8, .inr (1, [.ref q2, .ref q4, .ref q6, .ref q9_p4, .ref q9_p5, .ref q9_p6, .int 0])), (q9_p4, .inl (cI, 9, .inl (fun _ => 0))), (q9_p5, .inl (cJ, 0, .inr (.inl (fun _ => 0)))), (q9_p6, .inl (cI, 0, .inl (fun _ => 0)))] := hD
  refine lv_aload_n hx hb dX6_init_60 rfl (lv_at hl 0 rfl) ?_
  refine va_new (ci := 0) (fs := [.null, .null, .null]) (C := RX0) (T := TX0) (N := 3) hx hb hts hiX0 tyX0 tyX0_ok hown (hts (.classLink RX6 39 RX0) (by decide +kernel)) (hts (.instantiable RX0 3) (by decide +kernel)) (hts (.initialized RX0) (by decide +kernel)) hK hP hD hS hA rfl (fun j hj => by rcases (show j = 0 ∨ j = 1 ∨ j = 2 by omega) with rfl | rfl | rfl <;> rfl) (Nat.le_of_ble_eq_true rfl) (Nat.le_of_ble_eq_true rfl) dX6_init_61 (fun q10 H hP hD hS => ?_)
  have hP : va_P D vwCl [(x0, .inr (6, [.ref q2, .ref q4, .ref q6, .ref q8, .null, .null])), (q2, .inr (4, [.ref q3_a1, .ref q3_a2, .ref q3_a3, .int (nI 1), .int (nI 0), .int (nI 0)])), (q3_a1, .inl (cI, 9, .inl u3_ug)), (q3_a2, .inl (cI, 9, .inl u3_ub)), (q3_a3, .inl (cI, 9, .inl u3_ur)), (q4, .inr (3, [.ref q5_b1, .ref q5_b2, .int (nI 1), .int (nI 0), .int (-1)])), (q5_b1, .inl (cJ, 320, .inr (.inl (fun _ => 0)))), (q5_b2, .inl (cI, 9, .inl (fun _ => 0))), (q6, .inr (2, [.ref q7_r1, .int 0])), (q7_r1, .inl (cI, 9, .inl (fun _ => 0))), (q8, .inr (1, [.ref q2, .ref q4, .ref q6, .ref q9_p4, .ref q9_p5, .ref q9_p6, .int 0])), (q9_p4, .inl (cI, 9, .inl (fun _ => 0))), (q9_p5, .inl (cJ, 0, .inr (.inl (fun _ => 0)))), (q9_p6, .inl (cI, 0, .inl (fun _ => 0))), (q10, .inr (0, [.null, .null, .null]))] H := hP
  have hD : va_D A [(x0, .inr (6, [.ref q2, .ref q4, .ref q6, .ref q8, .null, .null])), (q2, .inr (4, [.ref q3_a1, .ref q3_a2, .ref q3_a3, .int (nI 1), .int (nI 0), .int (nI 0)])), (q3_a1, .inl (cI, 9, .inl u3_ug)), (q3_a2, .inl (cI, 9, .inl u3_ub)), (q3_a3, .inl (cI, 9, .inl u3_ur)), (q4, .inr (3, [.ref q5_b1, .ref q5_b2, .int (nI 1), .int (nI 0), .int (-1)])), (q5_b1, .inl (cJ, 320, .inr (.inl (fun _ => 0)))), (q5_b2, .inl (cI, 9, .inl (fun _ => 0))), (q6, .inr (2, [.ref q7_r1, .int 0])), (q7_r1, .inl (cI, 9, .inl (fun _ => 0))), (q8, .inr (1, [.ref q2, .ref q4, .ref q6, .ref q9_p4, .ref q9_p5, .ref q9_p6, .int 0])), (q9_p4, .inl (cI, 9, .inl (fun _ => 0))), (q9_p5, .inl (cJ, 0, .inr (.inl (fun _ => 0)))), (q9_p6, .inl (cI, 0, .inl (fun _ => 0))), (q10, .inr (0, [.null, .null, .null]))] := hD
  refine W.widen (k := 14) (n := 397) (by omega) (by omega) ?_
  refine lv_dup hx hb dX6_init_64 rfl ?_
  refine lv_aload_n hx hb dX6_init_65 rfl (lv_at hl 0 rfl) ?_
  refine va_get (D := D) (ci := 6) (v := .ref q2) (C := RX6) (T := TX6) (N := 6) hx hb hts hiX6 hown hK hP 0 rfl rfl 0 (by decide) hf10 (fun _ h9 => h9) rfl dX6_init_66 ?_
  refine lv_aload_n hx hb dX6_init_69 rfl (lv_at hl 0 rfl) ?_
  refine va_get (D := D) (ci := 6) (v := .ref q4) (C := RX6) (T := TX6) (N := 6) hx hb hts hiX6 hown hK hP 0 rfl rfl 1 (by decide) hf19 (fun _ h9 => h9) rfl dX6_init_70 ?_
  have hPc := hP.sub (ws' := [(q10, .inr (0, [.null, .null, .null]))]) [14] rfl
  have hDc := hD.sub (ws' := [(q10, .inr (0, [.null, .null, .null]))]) [14] (by decide) rfl
  have hFc := va_free (wc := [(q10, .inr (0, [.null, .null, .null]))]) hD hS hA [14] rfl
  refine va_callv (va_runI (As := [.ref q2, .ref q4]) (rest := [.ref q10, .ref x0]) ⟨hx, hb, hml, hown, hts⟩ (c_X0_init l D cI cJ cZ H.size q10 q2 q4) (cwI 2 hts gX6_init_X0_init rfl rfl rfl (hts (.initialized RX0) (by decide +kernel)) (hts (.methodLink RX6 41 yX0_init) (by decide +kernel)) (hts (.instanceMethod yX0_init) (by decide +kernel)) rfl (by decide +kernel) ⟨Nat.le_of_ble_eq_true rfl, Nat.le_of_ble_eq_true rfl⟩) ⟨pn_blind, fun U hU hW => ⟨rfl, by rw [hU], by rw [hU]; exact hPc, hKN.warm hW, hDc.weaken (fun _ _ _ _ => trivial)⟩⟩ rfl rfl hl.1 rfl (lv_room (Nat.le_of_ble_eq_true rfl)) dX6_init_73 ⟨Nat.le_of_ble_eq_true rfl, Nat.le_of_ble_eq_true rfl⟩) hS (fun q _ h => hFc q h) hFc (fun u t H1 locs ht hvm hw hB hz1 hk1 hS => ?_)
  have w11 : True := hw
  obtain ⟨q11_l3, hP1, hD1⟩ := hB
  rw [ht] at hP1
  have hP1 : va_P D vwCl [(q10, .inr (0, [.ref q2, .ref q4, .ref q11_l3])), (q11_l3, .inl (cI, 512, .inl (fun _ => 0)))] H1 := hP1
  have hD1 : va_D _ [(q10, .inr (0, [.ref q2, .ref q4, .ref q11_l3])), (q11_l3, .inl (cI, 512, .inl (fun _ => 0)))] := hD1
  obtain ⟨hP, hD⟩ := va_join (wr := [(x0, .inr (6, [.ref q2, .ref q4, .ref q6, .ref q8, .null, .null])), (q2, .inr (4, [.ref q3_a1, .ref q3_a2, .ref q3_a3, .int (nI 1), .int (nI 0), .int (nI 0)])), (q3_a1, .inl (cI, 9, .inl u3_ug)), (q3_a2, .inl (cI, 9, .inl u3_ub)), (q3_a3, .inl (cI, 9, .inl u3_ur)), (q4, .inr (3, [.ref q5_b1, .ref q5_b2, .int (nI 1), .int (nI 0), .int (-1)])), (q5_b1, .inl (cJ, 320, .inr (.inl (fun _ => 0)))), (q5_b2, .inl (cI, 9, .inl (fun _ => 0))), (q6, .inr (2, [.ref q7_r1, .int 0])), (q7_r1, .inl (cI, 9, .inl (fun _ => 0))), (q8, .inr (1, [.ref q2, .ref q4, .ref q6, .ref q9_p4, .ref q9_p5, .ref q9_p6, .int 0])), (q9_p4, .inl (cI, 9, .inl (fun _ => 0))), (q9_p5, .inl (cJ, 0, .inr (.inl (fun _ => 0)))), (q9_p6, .inl (cI, 0, .inl (fun _ => 0)))]) (w1 := [(q10, .inr (0, [.ref q2, .ref q4, .ref q11_l3])), (q11_l3, .inl (cI, 512, .inl (fun _ => 0)))]) hP hD [14] [0, 1, 2, 3, 4, 5, 6, 7, 8, 9, 10, 11, 12, 13] rfl rfl (by decide) (by decide) hk1 hFc hP1 hD1
  generalize H1 = H at hP hS ⊢
  have hP : va_P D vwCl [(x0, .inr (6, [.ref q2, .ref q4, .ref q6, .ref q8, .null, .null])), (q2, .inr (4, [.ref q3_a1, .ref q3_a2, .ref q3_a3, .int (nI 1), .int (nI 0), .int (nI 0)])), (q3_a1, .inl (cI, 9, .inl u3_ug)), (q3_a2, .inl (cI, 9, .inl u3_ub)), (q3_a3, .inl (cI, 9, .inl u3_ur)), (q4, .inr (3, [.ref q5_b1, .ref q5_b2, .int (nI 1), .int (nI 0), .int (-1)])), (q5_b1, .inl (cJ, 320, .inr (.inl (fun _ => 0)))), (q5_b2, .inl (cI, 9, .inl (fun _ => 0))), (q6, .inr (2, [.ref q7_r1, .int 0])), (q7_r1, .inl (cI, 9, .inl (fun _ => 0))), (q8, .inr (1, [.ref q2, .ref q4, .ref q6, .ref q9_p4, .ref q9_p5, .ref q9_p6, .int 0])), (q9_p4, .inl (cI, 9, .inl (fun _ => 0))), (q9_p5, .inl (cJ, 0, .inr (.inl (fun _ => 0)))), (q9_p6, .inl (cI, 0, .inl (fun _ => 0))), (q10, .inr (0, [.ref q2, .ref q4, .ref q11_l3])), (q11_l3, .inl (cI, 512, .inl (fun _ => 0)))] H := hP
  have hD : va_D A [(x0, .inr (6, [.ref q2, .ref q4, .ref q6, .ref q8, .null, .null])), (q2, .inr (4, [.ref q3_a1, .ref q3_a2, .ref q3_a3, .int (nI 1), .int (nI 0), .int (nI 0)])), (q3_a1, .inl (cI, 9, .inl u3_ug)), (q3_a2, .inl (cI, 9, .inl u3_ub)), (q3_a3, .inl (cI, 9, .inl u3_ur)), (q4, .inr (3, [.ref q5_b1, .ref q5_b2, .int (nI 1), .int (nI 0), .int (-1)])), (q5_b1, .inl (cJ, 320, .inr (.inl (fun _ => 0)))), (q5_b2, .inl (cI, 9, .inl (fun _ => 0))), (q6, .inr (2, [.ref q7_r1, .int 0])), (q7_r1, .inl (cI, 9, .inl (fun _ => 0))), (q8, .inr (1, [.ref q2, .ref q4, .ref q6, .ref q9_p4, .ref q9_p5, .ref q9_p6, .int 0])), (q9_p4, .inl (cI, 9, .inl (fun _ => 0))), (q9_p5, .inl (cJ, 0, .inr (.inl (fun _ => 0)))), (q9_p6, .inl (cI, 0, .inl (fun _ => 0))), (q10, .inr (0, [.ref q2, .ref q4, .ref q11_l3])), (q11_l3, .inl (cI, 512, .inl (fun _ => 0)))] := hD
  refine W.widen (k := 15) (n := 909) (by omega) (by omega) ?_
  refine va_putF (D := D) (ci := 6) (v := .ref q10) (ty := tyX6 4) (C := RX6) (T := TX6) (N := 6) hx hb hts hiX6 tyX6 tyX6_ok nmX6 hown hK hP hD hS 0 rfl rfl 4 (by decide) hf44 (fun _ h9 => h9) rfl hin rfl (by decide +kernel) rfl rfl (Nat.le_of_ble_eq_true rfl) dX6_init_76 (fun H locs hP hD hS => ?_)
  have hP : va_P D vwCl [(x0, .inr (6, [.ref q2, .ref q4, .ref q6, .ref q8, .ref q10, .null])), (q2, .inr (4, [.ref q3_a1, .ref q3_a2, .ref q3_a3, .int (nI 1), .int (nI 0), .int (nI 0)])), (q3_a1, .inl (cI, 9, .inl u3_ug)), (q3_a2, .inl (cI, 9, .inl u3_ub)), (q3_a3, .inl (cI, 9, .inl u3_ur)), (q4, .inr (3, [.ref q5_b1, .ref q5_b2, .int (nI 1), .int (nI 0), .int (-1)])), (q5_b1, .inl (cJ, 320, .inr (.inl (fun _ => 0)))), (q5_b2, .inl (cI, 9, .inl (fun _ => 0))), (q6, .inr (2, [.ref q7_r1, .int 0])), (q7_r1, .inl (cI, 9, .inl (fun _ => 0))), (q8, .inr (1, [.ref q2, .ref q4, .ref q6, .ref q9_p4, .ref q9_p5, .ref q9_p6, .int 0])), (q9_p4, .inl (cI, 9, .inl (fun _ => 0))), (q9_p5, .inl (cJ, 0, .inr (.inl (fun _ => 0)))), (q9_p6, .inl (cI, 0, .inl (fun _ => 0))), (q10, .inr (0, [.ref q2, .ref q4, .ref q11_l3])), (q11_l3, .inl (cI, 512, .inl (fun _ => 0)))] H := hP
  have hD : va_D A [(x0, .inr (6, [.ref q2, .ref q4, .ref q6, .ref q8, .ref q10, .null])), (q2, .inr (4, [.ref q3_a1, .ref q3_a2, .ref q3_a3, .int (nI 1), .int (nI 0), .int (nI 0)])), (q3_a1, .inl (cI, 9, .inl u3_ug)), (q3_a2, .inl (cI, 9, .inl u3_ub)), (q3_a3, .inl (cI, 9, .inl u3_ur)), (q4, .inr (3, [.ref q5_b1, .ref q5_b2, .int (nI 1), .int (nI 0), .int (-1)])), (q5_b1, .inl (cJ, 320, .inr (.inl (fun _ => 0)))), (q5_b2, .inl (cI, 9, .inl (fun _ => 0))), (q6, .inr (2, [.ref q7_r1, .int 0])), (q7_r1, .inl (cI, 9, .inl (fun _ => 0))), (q8, .inr (1, [.ref q2, .ref q4, .ref q6, .ref q9_p4, .ref q9_p5, .ref q9_p6, .int 0])), (q9_p4, .inl (cI, 9, .inl (fun _ => 0))), (q9_p5, .inl (cJ, 0, .inr (.inl (fun _ => 0)))), (q9_p6, .inl (cI, 0, .inl (fun _ => 0))), (q10, .inr (0, [.ref q2, .ref q4, .ref q11_l3])), (q11_l3, .inl (cI, 512, .inl (fun _ => 0)))] := hD
  refine lv_aload_n hx hb dX6_init_79 rfl (lv_at hl 0 rfl) ?_
  refine va_new (ci := 5) (fs := [.null, .int 0]) (C := RX5) (T := TX5) (N := 2) hx hb hts hiX5 tyX5 tyX5_ok hown (hts (.classLink RX6 48 RX5) (by decide +kernel)) (hts (.instantiable RX5 2) (by decide +kernel)) (hts (.initialized RX5) (by decide +kernel)) hK hP hD hS hA rfl (fun j hj => by rcases (show j = 0 ∨ j = 1 by omega) with rfl | rfl <;> rfl) (Nat.le_of_ble_eq_true rfl) (Nat.le_of_ble_eq_true rfl) dX6_init_80 (fun q12 H hP hD hS => ?_)
  have hP : va_P D vwCl [(x0, .inr (6, [.ref q2, .ref q4, .ref q6, .ref q8, .ref q10, .null])), (q2, .inr (4, [.ref q3_a1, .ref q3_a2, .ref q3_a3, .int (nI 1), .int (nI 0), .int (nI 0)])), (q3_a1, .inl (cI, 9, .inl u3_ug)), (q3_a2, .inl (cI, 9, .inl u3_ub)), (q3_a3, .inl (cI, 9, .inl u3_ur)), (q4, .inr (3, [.ref q5_b1, .ref q5_b2, .int (nI 1), .int (nI 0), .int (-1)])), (q5_b1, .inl (cJ, 320, .inr (.inl (fun _ => 0)))), (q5_b2, .inl (cI, 9, .inl (fun _ => 0))), (q6, .inr (2, [.ref q7_r1, .int 0])), (q7_r1, .inl (cI, 9, .inl (fun _ => 0))), (q8, .inr (1, [.ref q2, .ref q4, .ref q6, .ref q9_p4, .ref q9_p5, .ref q9_p6, .int 0])), (q9_p4, .inl (cI, 9, .inl (fun _ => 0))), (q9_p5, .inl (cJ, 0, .inr (.inl (fun _ => 0)))), (q9_p6, .inl (cI, 0, .inl (fun _ => 0))), (q10, .inr (0, [.ref q2, .ref q4, .ref q11_l3])), (q11_l3, .inl (cI, 512, .inl (fun _ => 0))), (q12, .inr (5, [.null, .int 0]))] H := hP
  have hD : va_D A [(x0, .inr (6, [.ref q2, .ref q4, .ref q6, .ref q8, .ref q10, .null])), (q2, .inr (4, [.ref q3_a1, .ref q3_a2, .ref q3_a3, .int (nI 1), .int (nI 0), .int (nI 0)])), (q3_a1, .inl (cI, 9, .inl u3_ug)), (q3_a2, .inl (cI, 9, .inl u3_ub)), (q3_a3, .inl (cI, 9, .inl u3_ur)), (q4, .inr (3, [.ref q5_b1, .ref q5_b2, .int (nI 1), .int (nI 0), .int (-1)])), (q5_b1, .inl (cJ, 320, .inr (.inl (fun _ => 0)))), (q5_b2, .inl (cI, 9, .inl (fun _ => 0))), (q6, .inr (2, [.ref q7_r1, .int 0])), (q7_r1, .inl (cI, 9, .inl (fun _ => 0))), (q8, .inr (1, [.ref q2, .ref q4, .ref q6, .ref q9_p4, .ref q9_p5, .ref q9_p6, .int 0])), (q9_p4, .inl (cI, 9, .inl (fun _ => 0))), (q9_p5, .inl (cJ, 0, .inr (.inl (fun _ => 0)))), (q9_p6, .inl (cI, 0, .inl (fun _ => 0))), (q10, .inr (0, [.ref q2, .ref q4, .ref q11_l3])), (q11_l3, .inl (cI, 512, .inl (fun _ => 0))), (q12, .inr (5, [.null, .int 0]))] := hD
  refine W.widen (k := 16) (n := 911) (by omega) (by omega) ?_
  refine lv_dup hx hb dX6_init_83 rfl ?_
  have hPc := hP.sub (ws' := [(q12, .inr (5, [.null, .int 0]))]) [16] rfl
  have hDc := hD.sub (ws' := [(q12, .inr (5, [.null, .int 0]))]) [16] (by decide) rfl
  have hFc := va_free (wc := [(q12, .inr (5, [.null, .int 0]))]) hD hS hA [16] rfl
  refine va_callv (va_runIN (As := []) (rest := [.ref q12, .ref x0]) ⟨hx, hb, hml, hown, hts⟩ (c_X5_init l D cI cJ cZ H.size q12) ⟨va_cnB 0 hts gX6_init_X5_init_n50 rfl rfl rfl (hKN.2 (.methodLinkNest RX6 50 yX5_init RX6) (by decide +kernel)) (hts (.initialized RX5) (by decide +kernel)) (by decide +kernel) ⟨Nat.le_of_ble_eq_true rfl, Nat.le_of_ble_eq_true rfl⟩, rfl, hts (.instanceMethod yX5_init) (by decide +kernel)⟩ ⟨pn_blind, fun U hU hW => ⟨rfl, by rw [hU], by rw [hU]; exact hPc, hKN.warm hW, hDc.weaken (fun _ _ _ _ => trivial)⟩⟩ rfl rfl hl.1 rfl (lv_room (Nat.le_of_ble_eq_true rfl)) dX6_init_84 ⟨Nat.le_of_ble_eq_true rfl, Nat.le_of_ble_eq_true rfl⟩) hS (fun q _ h => hFc q h) hFc (fun u t H1 locs ht hvm hw hB hz1 hk1 hS => ?_)
  have w13 : True := hw
  obtain ⟨q13_r1, hP1, hD1⟩ := hB
  rw [ht] at hP1
  have hP1 : va_P D vwCl [(q12, .inr (5, [.ref q13_r1, .int 0])), (q13_r1, .inl (cI, 9, .inl (fun _ => 0)))] H1 := hP1
  have hD1 : va_D _ [(q12, .inr (5, [.ref q13_r1, .int 0])), (q13_r1, .inl (cI, 9, .inl (fun _ => 0)))] := hD1
  obtain ⟨hP, hD⟩ := va_join (wr := [(x0, .inr (6, [.ref q2, .ref q4, .ref q6, .ref q8, .ref q10, .null])), (q2, .inr (4, [.ref q3_a1, .ref q3_a2, .ref q3_a3, .int (nI 1), .int (nI 0), .int (nI 0)])), (q3_a1, .inl (cI, 9, .inl u3_ug)), (q3_a2, .inl (cI, 9, .inl u3_ub)), (q3_a3, .inl (cI, 9, .inl u3_ur)), (q4, .inr (3, [.ref q5_b1, .ref q5_b2, .int (nI 1), .int (nI 0), .int (-1)])), (q5_b1, .inl (cJ, 320, .inr (.inl (fun _ => 0)))), (q5_b2, .inl (cI, 9, .inl (fun _ => 0))), (q6, .inr (2, [.ref q7_r1, .int 0])), (q7_r1, .inl (cI, 9, .inl (fun _ => 0))), (q8, .inr (1, [.ref q2, .ref q4, .ref q6, .ref q9_p4, .ref q9_p5, .ref q9_p6, .int 0])), (q9_p4, .inl (cI, 9, .inl (fun _ => 0))), (q9_p5, .inl (cJ, 0, .inr (.inl (fun _ => 0)))), (q9_p6, .inl (cI, 0, .inl (fun _ => 0))), (q10, .inr (0, [.ref q2, .ref q4, .ref q11_l3])), (q11_l3, .inl (cI, 512, .inl (fun _ => 0)))]) (w1 := [(q12, .inr (5, [.ref q13_r1, .int 0])), (q13_r1, .inl (cI, 9, .inl (fun _ => 0)))]) hP hD [16] [0, 1, 2, 3, 4, 5, 6, 7, 8, 9, 10, 11, 12, 13, 14, 15] rfl rfl (by decide) (by decide) hk1 hFc hP1 hD1
  generalize H1 = H at hP hS ⊢
  have hP : va_P D vwCl [(x0, .inr (6, [.ref q2, .ref q4, .ref q6, .ref q8, .ref q10, .null])), (q2, .inr (4, [.ref q3_a1, .ref q3_a2, .ref q3_a3, .int (nI 1), .int (nI 0), .int (nI 0)])), (q3_a1, .inl (cI, 9, .inl u3_ug)), (q3_a2, .inl (cI, 9, .inl u3_ub)), (q3_a3, .inl (cI, 9, .inl u3_ur)), (q4, .inr (3, [.ref q5_b1, .ref q5_b2, .int (nI 1), .int (nI 0), .int (-1)])), (q5_b1, .inl (cJ, 320, .inr (.inl (fun _ => 0)))), (q5_b2, .inl (cI, 9, .inl (fun _ => 0))), (q6, .inr (2, [.ref q7_r1, .int 0])), (q7_r1, .inl (cI, 9, .inl (fun _ => 0))), (q8, .inr (1, [.ref q2, .ref q4, .ref q6, .ref q9_p4, .ref q9_p5, .ref q9_p6, .int 0])), (q9_p4, .inl (cI, 9, .inl (fun _ => 0))), (q9_p5, .inl (cJ, 0, .inr (.inl (fun _ => 0)))), (q9_p6, .inl (cI, 0, .inl (fun _ => 0))), (q10, .inr (0, [.ref q2, .ref q4, .ref q11_l3])), (q11_l3, .inl (cI, 512, .inl (fun _ => 0))), (q12, .inr (5, [.ref q13_r1, .int 0])), (q13_r1, .inl (cI, 9, .inl (fun _ => 0)))] H := hP
  have hD : va_D A [(x0, .inr (6, [.ref q2, .ref q4, .ref q6, .ref q8, .ref q10, .null])), (q2, .inr (4, [.ref q3_a1, .ref q3_a2, .ref q3_a3, .int (nI 1), .int (nI 0), .int (nI 0)])), (q3_a1, .inl (cI, 9, .inl u3_ug)), (q3_a2, .inl (cI, 9, .inl u3_ub)), (q3_a3, .inl (cI, 9, .inl u3_ur)), (q4, .inr (3, [.ref q5_b1, .ref q5_b2, .int (nI 1), .int (nI 0), .int (-1)])), (q5_b1, .inl (cJ, 320, .inr (.inl (fun _ => 0)))), (q5_b2, .inl (cI, 9, .inl (fun _ => 0))), (q6, .inr (2, [.ref q7_r1, .int 0])), (q7_r1, .inl (cI, 9, .inl (fun _ => 0))), (q8, .inr (1, [.ref q2, .ref q4, .ref q6, .ref q9_p4, .ref q9_p5, .ref q9_p6, .int 0])), (q9_p4, .inl (cI, 9, .inl (fun _ => 0))), (q9_p5, .inl (cJ, 0, .inr (.inl (fun _ => 0)))), (q9_p6, .inl (cI, 0, .inl (fun _ => 0))), (q10, .inr (0, [.ref q2, .ref q4, .ref q11_l3])), (q11_l3, .inl (cI, 512, .inl (fun _ => 0))), (q12, .inr (5, [.ref q13_r1, .int 0])), (q13_r1, .inl (cI, 9, .inl (fun _ => 0)))] := hD
  refine W.widen (k := 17) (n := 920) (by omega) (by omega) ?_
  refine va_putF (D := D) (ci := 6) (v := .ref q12) (ty := tyX6 5) (C := RX6) (T := TX6) (N := 6) hx hb hts hiX6 tyX6 tyX6_ok nmX6 hown hK hP hD hS 0 rfl rfl 5 (by decide) hf51 (fun _ h9 => h9) rfl hin rfl (by decide +kernel) rfl rfl (Nat.le_of_ble_eq_true rfl) dX6_init_87 (fun H locs hP hD hS => ?_)
  have hP : va_P D vwCl [(x0, .inr (6, [.ref q2, .ref q4, .ref q6, .ref q8, .ref q10, .ref q12])), (q2, .inr (4, [.ref q3_a1, .ref q3_a2, .ref q3_a3, .int (nI 1), .int (nI 0), .int (nI 0)])), (q3_a1, .inl (cI, 9, .inl u3_ug)), (q3_a2, .inl (cI, 9, .inl u3_ub)), (q3_a3, .inl (cI, 9, .inl u3_ur)), (q4, .inr (3, [.ref q5_b1, .ref q5_b2, .int (nI 1), .int (nI 0), .int (-1)])), (q5_b1, .inl (cJ, 320, .inr (.inl (fun _ => 0)))), (q5_b2, .inl (cI, 9, .inl (fun _ => 0))), (q6, .inr (2, [.ref q7_r1, .int 0])), (q7_r1, .inl (cI, 9, .inl (fun _ => 0))), (q8, .inr (1, [.ref q2, .ref q4, .ref q6, .ref q9_p4, .ref q9_p5, .ref q9_p6, .int 0])), (q9_p4, .inl (cI, 9, .inl (fun _ => 0))), (q9_p5, .inl (cJ, 0, .inr (.inl (fun _ => 0)))), (q9_p6, .inl (cI, 0, .inl (fun _ => 0))), (q10, .inr (0, [.ref q2, .ref q4, .ref q11_l3])), (q11_l3, .inl (cI, 512, .inl (fun _ => 0))), (q12, .inr (5, [.ref q13_r1, .int 0])), (q13_r1, .inl (cI, 9, .inl (fun _ => 0)))] H := hP
  have hD : va_D A [(x0, .inr (6, [.ref q2, .ref q4, .ref q6, .ref q8, .ref q10, .ref q12])), (q2, .inr (4, [.ref q3_a1, .ref q3_a2, .ref q3_a3, .int (nI 1), .int (nI 0), .int (nI 0)])), (q3_a1, .inl (cI, 9, .inl u3_ug)), (q3_a2, .inl (cI, 9, .inl u3_ub)), (q3_a3, .inl (cI, 9, .inl u3_ur)), (q4, .inr (3, [.ref q5_b1, .ref q5_b2, .int (nI 1), .int (nI 0), .int (-1)])), (q5_b1, .inl (cJ, 320, .inr (.inl (fun _ => 0)))), (q5_b2, .inl (cI, 9, .inl (fun _ => 0))), (q6, .inr (2, [.ref q7_r1, .int 0])), (q7_r1, .inl (cI, 9, .inl (fun _ => 0))), (q8, .inr (1, [.ref q2, .ref q4, .ref q6, .ref q9_p4, .ref q9_p5, .ref q9_p6, .int 0])), (q9_p4, .inl (cI, 9, .inl (fun _ => 0))), (q9_p5, .inl (cJ, 0, .inr (.inl (fun _ => 0)))), (q9_p6, .inl (cI, 0, .inl (fun _ => 0))), (q10, .inr (0, [.ref q2, .ref q4, .ref q11_l3])), (q11_l3, .inl (cI, 512, .inl (fun _ => 0))), (q12, .inr (5, [.ref q13_r1, .int 0])), (q13_r1, .inl (cI, 9, .inl (fun _ => 0)))] := hD
  rw [← hQ]
  have hP9 := hP.sub (ws' := [(x0, .inr (6, [.ref q2, .ref q4, .ref q6, .ref q8, .ref q10, .ref q12])), (q2, .inr (4, [.ref q3_a1, .ref q3_a2, .ref q3_a3, .int (nI 1), .int (nI 0), .int (nI 0)])), (q3_a1, .inl (cI, 9, .inl u3_ug)), (q3_a2, .inl (cI, 9, .inl u3_ub)), (q3_a3, .inl (cI, 9, .inl u3_ur)), (q4, .inr (3, [.ref q5_b1, .ref q5_b2, .int (nI 1), .int (nI 0), .int (-1)])), (q5_b1, .inl (cJ, 320, .inr (.inl (fun _ => 0)))), (q5_b2, .inl (cI, 9, .inl (fun _ => 0))), (q6, .inr (2, [.ref q7_r1, .int 0])), (q7_r1, .inl (cI, 9, .inl (fun _ => 0))), (q8, .inr (1, [.ref q2, .ref q4, .ref q6, .ref q9_p4, .ref q9_p5, .ref q9_p6, .int 0])), (q9_p4, .inl (cI, 9, .inl (fun _ => 0))), (q9_p5, .inl (cJ, 0, .inr (.inl (fun _ => 0)))), (q9_p6, .inl (cI, 0, .inl (fun _ => 0))), (q10, .inr (0, [.ref q2, .ref q4, .ref q11_l3])), (q11_l3, .inl (cI, 512, .inl (fun _ => 0))), (q12, .inr (5, [.ref q13_r1, .int 0])), (q13_r1, .inl (cI, 9, .inl (fun _ => 0)))]) [0, 1, 2, 3, 4, 5, 6, 7, 8, 9, 10, 11, 12, 13, 14, 15, 16, 17] rfl
  have hD9 := hD.sub (ws' := [(x0, .inr (6, [.ref q2, .ref q4, .ref q6, .ref q8, .ref q10, .ref q12])), (q2, .inr (4, [.ref q3_a1, .ref q3_a2, .ref q3_a3, .int (nI 1), .int (nI 0), .int (nI 0)])), (q3_a1, .inl (cI, 9, .inl u3_ug)), (q3_a2, .inl (cI, 9, .inl u3_ub)), (q3_a3, .inl (cI, 9, .inl u3_ur)), (q4, .inr (3, [.ref q5_b1, .ref q5_b2, .int (nI 1), .int (nI 0), .int (-1)])), (q5_b1, .inl (cJ, 320, .inr (.inl (fun _ => 0)))), (q5_b2, .inl (cI, 9, .inl (fun _ => 0))), (q6, .inr (2, [.ref q7_r1, .int 0])), (q7_r1, .inl (cI, 9, .inl (fun _ => 0))), (q8, .inr (1, [.ref q2, .ref q4, .ref q6, .ref q9_p4, .ref q9_p5, .ref q9_p6, .int 0])), (q9_p4, .inl (cI, 9, .inl (fun _ => 0))), (q9_p5, .inl (cJ, 0, .inr (.inl (fun _ => 0)))), (q9_p6, .inl (cI, 0, .inl (fun _ => 0))), (q10, .inr (0, [.ref q2, .ref q4, .ref q11_l3])), (q11_l3, .inl (cI, 512, .inl (fun _ => 0))), (q12, .inr (5, [.ref q13_r1, .int 0])), (q13_r1, .inl (cI, 9, .inl (fun _ => 0)))]) [0, 1, 2, 3, 4, 5, 6, 7, 8, 9, 10, 11, 12, 13, 14, 15, 16, 17] (by decide) rfl
  exact W.vret hx hb hr (fun t ht hW => ⟨⟨(u3_ug, u3_ub, u3_ur), rfl, by assumption, q2, q3_a1, q3_a2, q3_a3, q4, q5_b1, q5_b2, q6, q7_r1, q8, q9_p4, q9_p5, q9_p6, q10, q11_l3, q12, q13_r1, m_at ht hP9, hD9⟩, hS.F ht⟩) hS.2.2 dX6_init_90
