
theorem m_pow {n : Nat} (h : n ≤ 9) : 2 ^ n ≤ 512 := by
  have : 2 ^ n ≤ 2 ^ 9 := Nat.pow_le_pow_right (by decide) h
  omega
theorem m_powp (n : Nat) : 0 < 2 ^ n := Nat.two_pow_pos n
/-- the product over the parts below k -/
def lf (fg fb : Nat → Int32) (lk gd : Int32) : Nat → Int64
  | 0 => lN 1
  | k + 1 => lf fg fb lk gd k * (if sb lk k = 0 then (fg k + fb k).toInt64 else if sb gd k = 1 then (fg k).toInt64 else (fb k).toInt64)
def nt_s (sn ho : Int32) (j : Nat) : Int32 := if ho = -1 then sn &&& (nI (2 ^ j) ^^^ (-1)) else sn ||| nI (2 ^ j)
def nt_g (sg ho : Int32) (j : Nat) : Int32 := if ho = nI 1 then sg ||| nI (2 ^ j) else sg &&& (nI (2 ^ j) ^^^ (-1))
def pf (fp : Nat → Int32) (st : Int32) : Nat → Int32
  | 0 => nI 0
  | k + 1 => if sb st k = 1 then pf fp st k + fp k else pf fp st k
def rm_c_X4_has : Room := { frames := 0, cells := 0, slots := 0, locals := 0 }
set_option maxHeartbeats 400000 in
set_option maxRecDepth 100000 in
theorem c_X4_has (l : Launch) (D : va_G) (cI cJ cZ : ClassId) (h0 : Nat) (a1 : Nat) (a2 : Nat) (a3 : Nat) (n : Nat) (sn : Int32) (sg : Int32) (p0 : Int32) (hn : n ≤ 9) : Met l yX4_has wsX4_has rm_c_X4_has (pc_ D cI cJ cZ [.ref h0, .int p0] [(h0, .inr (4, [.ref a1, .ref a2, .ref a3, .int (nI n), .int sn, .int sg]))]) (va_Qi (fun (r : Int32) (_ : Unit) => B01 r (0 ≤ p0.toInt ∧ p0.toInt < n)) (fun _ _ => True) aN) 0 0 aN := by
  refine Met.ofW (cc := cX4_has) (maxL := 2) (ret := (some .boolean)) (by decide) rfl ?_
  intro p e s m args below meth c s₁ B hml hv
  obtain ⟨rfl, hP, hKN⟩ := hv
  have hK := hKN.1
  have hx := B.exec
  have hb := B.bytes
  have hr := B.returns
  have hts := atoms_spec (ws := wsX4_has) B.pre
  have hown : s.vm.findClass RX4 = some m.cls := findClass_of_methodNamed B.named
  have hlocks := B.notSynchronized
  have hiX4 : ∀ w ∈ wsX40, w ∈ wsX4_has := by decide +kernel
  have hf25 := hts (.fieldLink RX4 25 "LookBench$Shelf" "count" "I") (by decide +kernel)
  have hS : va_S aN s.heap s.heap [] := va_S.rf
  have hl := lv_entry ([.ref h0, .int p0]) (n := 2) (Nat.le_of_ble_eq_true rfl)
  rw [lg_entry_eq]
  generalize (lg_sl ([.ref h0, .int p0]) ++ List.replicate (2 - (lg_sl ([.ref h0, .int p0])).length) Slot.unset).toArray = ls at hl ⊢
  have hl : lv_has ls 2 [(0, .ref h0), (1, .int p0)] := hl
  generalize hQ : MQ below _ _ s _ _ _ = Q
  obtain ⟨H, hH⟩ : ∃ z, z = s.heap := ⟨_, rfl⟩
  have hP : va_P D vwCl [(h0, .inr (4, [.ref a1, .ref a2, .ref a3, .int (nI n), .int sn, .int sg]))] H := by rw [hH]; exact hP
  have hS : va_S aN s.heap H [] := by rw [hH]; exact hS
  refine m_heap hH ?_
  clear hH
  refine lv_iload_n hx hb dX4_has_0 rfl (lv_at hl 1 rfl) ?_
  refine lv_if_lt (tgt := 16) hx hb dX4_has_1 (by decide) (fun c1 => ?_) (fun c1 => ?_)
  · skip
    have d1 := c1
    rw [i_lt, i_z] at d1
    refine lv_iconst (v := nI 0) hx hb dX4_has_16 (by decide) ?_
    rw [← hQ]
    exact W.zret (v := nI 0) hx hb hr (by first | decide | (rw [nar_b01])) (fun tS htS hWS => ⟨⟨(nI 0), (), rfl, Or.inr ⟨rfl, by omega⟩, trivial⟩, hS.F htS⟩) hS.2.2 dX4_has_17
  · skip
    have d1 := c1
    rw [i_lt, i_z] at d1
    refine lv_iload_n hx hb dX4_has_4 rfl (lv_at hl 1 rfl) ?_
    refine lv_aload_n hx hb dX4_has_5 rfl (lv_at hl 0 rfl) ?_
    refine va_get (D := D) (ci := 4) (v := .int (nI n)) (C := RX4) (T := TX4) (N := 6) hx hb hts hiX4 hown hK hP 0 rfl rfl 3 (by decide) hf25 (fun _ h9 => h9) rfl dX4_has_6 ?_
    refine lv_icmp_ge (tgt := 16) hx hb dX4_has_9 (by decide) (fun c2 => ?_) (fun c2 => ?_)
    · skip
      have d2 := c2
      rw [i_le, nI_toInt (n := n) (by omega)] at d2
      refine lv_iconst (v := nI 0) hx hb dX4_has_16 (by decide) ?_
      rw [← hQ]
      exact W.zret (v := nI 0) hx hb hr (by first | decide | (rw [nar_b01])) (fun tS htS hWS => ⟨⟨(nI 0), (), rfl, Or.inr ⟨rfl, by omega⟩, trivial⟩, hS.F htS⟩) hS.2.2 dX4_has_17
    · skip
      have d2 := c2
      rw [i_le, nI_toInt (n := n) (by omega)] at d2
      refine lv_iconst (v := nI 1) hx hb dX4_has_12 (by decide) ?_
      refine lv_goto (tgt := 17) hx hb dX4_has_13 (by decide) ?_
      rw [← hQ]
      exact W.zret (v := nI 1) hx hb hr (by first | decide | (rw [nar_b01])) (fun tS htS hWS => ⟨⟨(nI 1), (), rfl, Or.inl ⟨rfl, by omega⟩, trivial⟩, hS.F htS⟩) hS.2.2 dX4_has_17
def rm_c_X4_hasSet : Room := { frames := 0, cells := 0, slots := 0, locals := 0 }
set_option maxHeartbeats 400000 in
set_option maxRecDepth 100000 in
theorem c_X4_hasSet (l : Launch) (D : va_G) (cI cJ cZ : ClassId) (h0 : Nat) (a1 : Nat) (a2 : Nat) (a3 : Nat) (n : Nat) (sn : Int32) (sg : Int32) (p0 : Int32) (hn : n ≤ 9) : Met l yX4_hasSet wsX4_hasSet rm_c_X4_hasSet (pc_ D cI cJ cZ [.ref h0, .int p0] [(h0, .inr (4, [.ref a1, .ref a2, .ref a3, .int (nI n), .int sn, .int sg]))]) (va_Qi (fun (r : Int32) (_ : Unit) => B01 r (0 ≤ p0.toInt ∧ p0.toInt < (2 ^ n : Nat))) (fun _ _ => True) aN) 0 0 aN := by
  refine Met.ofW (cc := cX4_hasSet) (maxL := 2) (ret := (some .boolean)) (by decide) rfl ?_
  intro p e s m args below meth c s₁ B hml hv
  obtain ⟨rfl, hP, hKN⟩ := hv
  have hK := hKN.1
  have hx := B.exec
  have hb := B.bytes
  have hr := B.returns
  have hts := atoms_spec (ws := wsX4_hasSet) B.pre
  have hown : s.vm.findClass RX4 = some m.cls := findClass_of_methodNamed B.named
  have hlocks := B.notSynchronized
  have hiX4 : ∀ w ∈ wsX40, w ∈ wsX4_hasSet := by decide +kernel
  have hf25 := hts (.fieldLink RX4 25 "LookBench$Shelf" "count" "I") (by decide +kernel)
  have hS : va_S aN s.heap s.heap [] := va_S.rf
  have hl := lv_entry ([.ref h0, .int p0]) (n := 2) (Nat.le_of_ble_eq_true rfl)
  rw [lg_entry_eq]
  generalize (lg_sl ([.ref h0, .int p0]) ++ List.replicate (2 - (lg_sl ([.ref h0, .int p0])).length) Slot.unset).toArray = ls at hl ⊢
  have hl : lv_has ls 2 [(0, .ref h0), (1, .int p0)] := hl
  generalize hQ : MQ below _ _ s _ _ _ = Q
  obtain ⟨H, hH⟩ : ∃ z, z = s.heap := ⟨_, rfl⟩
  have hP : va_P D vwCl [(h0, .inr (4, [.ref a1, .ref a2, .ref a3, .int (nI n), .int sn, .int sg]))] H := by rw [hH]; exact hP
  have hS : va_S aN s.heap H [] := by rw [hH]; exact hS
  refine m_heap hH ?_
  clear hH
  have h2n := m_pow hn
  refine lv_iload_n hx hb dX4_hasSet_0 rfl (lv_at hl 1 rfl) ?_
  refine lv_if_lt (tgt := 18) hx hb dX4_hasSet_1 (by decide) (fun c1 => ?_) (fun c1 => ?_)
  · skip
    have d1 := c1
    rw [i_lt, i_z] at d1
    refine lv_iconst (v := nI 0) hx hb dX4_hasSet_18 (by decide) ?_
    rw [← hQ]
    exact W.zret (v := nI 0) hx hb hr (by first | decide | (rw [nar_b01])) (fun tS htS hWS => ⟨⟨(nI 0), (), rfl, Or.inr ⟨rfl, by omega⟩, trivial⟩, hS.F htS⟩) hS.2.2 dX4_hasSet_19
  · skip
    have d1 := c1
    rw [i_lt, i_z] at d1
    refine lv_iload_n hx hb dX4_hasSet_4 rfl (lv_at hl 1 rfl) ?_
    refine lv_iconst (v := nI 1) hx hb dX4_hasSet_5 (by decide) ?_
    refine lv_aload_n hx hb dX4_hasSet_6 rfl (lv_at hl 0 rfl) ?_
    refine va_get (D := D) (ci := 4) (v := .int (nI n)) (C := RX4) (T := TX4) (N := 6) hx hb hts hiX4 hown hK hP 0 rfl rfl 3 (by decide) hf25 (fun _ h9 => h9) rfl dX4_hasSet_7 ?_
    refine lv_ishl hx hb dX4_hasSet_10 ?_
    refine cn_i (y := nI (2 ^ n)) (m_shl1 (by omega)) ?_
    refine lv_icmp_ge (tgt := 18) hx hb dX4_hasSet_11 (by decide) (fun c2 => ?_) (fun c2 => ?_)
    · skip
      have d2 := c2
      rw [i_le, nI_toInt (n := (2 ^ n)) (by omega)] at d2
      refine lv_iconst (v := nI 0) hx hb dX4_hasSet_18 (by decide) ?_
      rw [← hQ]
      exact W.zret (v := nI 0) hx hb hr (by first | decide | (rw [nar_b01])) (fun tS htS hWS => ⟨⟨(nI 0), (), rfl, Or.inr ⟨rfl, by omega⟩, trivial⟩, hS.F htS⟩) hS.2.2 dX4_hasSet_19
    · skip
      have d2 := c2
      rw [i_le, nI_toInt (n := (2 ^ n)) (by omega)] at d2
      refine lv_iconst (v := nI 1) hx hb dX4_hasSet_14 (by decide) ?_
      refine lv_goto (tgt := 19) hx hb dX4_hasSet_15 (by decide) ?_
      rw [← hQ]
      exact W.zret (v := nI 1) hx hb hr (by first | decide | (rw [nar_b01])) (fun tS htS hWS => ⟨⟨(nI 1), (), rfl, Or.inl ⟨rfl, by omega⟩, trivial⟩, hS.F htS⟩) hS.2.2 dX4_hasSet_19
def rm_c_X4_change : Room := { frames := 0, cells := 0, slots := 0, locals := 0 }
set_option maxHeartbeats 400000 in
set_option maxRecDepth 100000 in
theorem c_X4_change (l : Launch) (D : va_G) (cI cJ cZ : ClassId) (h0 : Nat) (a1 : Nat) (a2 : Nat) (a3 : Nat) (j : Nat) (cn : Int32) (sn : Int32) (sg : Int32) (g0 : Int32) (f0 : Int32) (r0 : Int32) (fg : Nat → Int32) (fb : Nat → Int32) (fp : Nat → Int32) (hj : j < 9) : Met l yX4_change wsX4_change rm_c_X4_change (pm_ D cI cJ cZ [.ref h0, .int (nI j), .int g0, .int f0, .int r0] [(h0, .inr (4, [.ref a1, .ref a2, .ref a3, .int cn, .int sn, .int sg])), (a1, .inl (cI, 9, .inl fg)), (a2, .inl (cI, 9, .inl fb)), (a3, .inl (cI, 9, .inl fp))]) (va_Qv (fun (u : Unit) => True) (fun (u : Unit) tS => va_P D vwCl [(h0, .inr (4, [.ref a1, .ref a2, .ref a3, .int cn, .int sn, .int sg])), (a1, .inl (cI, 9, .inl (upd fg j g0))), (a2, .inl (cI, 9, .inl (upd fb j f0))), (a3, .inl (cI, 9, .inl (upd fp j r0)))] tS.heap) (aA [h0, a1, a2, a3])) 0 0 (aA [h0, a1, a2, a3]) := by
  refine Met.ofW (cc := cX4_change) (maxL := 5) (ret := none) (by decide) rfl ?_
  intro p e s m args below meth c s₁ B hml hv
  obtain ⟨rfl, hP, hKN, hD0⟩ := hv
  have hK := hKN.1
  have hx := B.exec
  have hb := B.bytes
  have hr := B.returns
  have hts := atoms_spec (ws := wsX4_change) B.pre
  have hown : s.vm.findClass RX4 = some m.cls := findClass_of_methodNamed B.named
  have hlocks := B.notSynchronized
  have hiX4 : ∀ w ∈ wsX40, w ∈ wsX4_change := by decide +kernel
  have hf9 := hts (.fieldLink RX4 9 "LookBench$Shelf" "goods" "[I") (by decide +kernel)
  have hf15 := hts (.fieldLink RX4 15 "LookBench$Shelf" "bads" "[I") (by decide +kernel)
  have hf18 := hts (.fieldLink RX4 18 "LookBench$Shelf" "prices" "[I") (by decide +kernel)
  obtain ⟨as, has⟩ : ∃ z : List Nat, z = [h0, a1, a2, a3] := ⟨_, rfl⟩
  have hD := hD0.addr (as := as) (by rw [has]; rfl)
  have hS : va_S (aA as) s.heap s.heap [] := va_S.rf
  have hl := lv_entry ([.ref h0, .int (nI j), .int g0, .int f0, .int r0]) (n := 5) (Nat.le_of_ble_eq_true rfl)
  rw [lg_entry_eq]
  generalize (lg_sl ([.ref h0, .int (nI j), .int g0, .int f0, .int r0]) ++ List.replicate (5 - (lg_sl ([.ref h0, .int (nI j), .int g0, .int f0, .int r0])).length) Slot.unset).toArray = ls at hl ⊢
  have hl : lv_has ls 5 [(0, .ref h0), (1, .int (nI j)), (2, .int g0), (3, .int f0), (4, .int r0)] := hl
  generalize hQ : MQ below _ _ s _ _ _ = Q
  obtain ⟨H, hH⟩ : ∃ z, z = s.heap := ⟨_, rfl⟩
  have hP : va_P D vwCl [(h0, .inr (4, [.ref a1, .ref a2, .ref a3, .int cn, .int sn, .int sg])), (a1, .inl (cI, 9, .inl fg)), (a2, .inl (cI, 9, .inl fb)), (a3, .inl (cI, 9, .inl fp))] H := by rw [hH]; exact hP
  have hS : va_S (aA as) s.heap H [] := by rw [hH]; exact hS
  refine m_heap hH ?_
  clear hH
  refine lv_aload_n hx hb dX4_change_0 rfl (lv_at hl 0 rfl) ?_
  refine va_get (D := D) (ci := 4) (v := .ref a1) (C := RX4) (T := TX4) (N := 6) hx hb hts hiX4 hown hK hP 0 rfl rfl 0 (by decide) hf9 (fun _ h9 => h9) rfl dX4_change_1 ?_
  refine lv_iload_n hx hb dX4_change_4 rfl (lv_at hl 1 rfl) ?_
  refine lv_iload_n hx hb dX4_change_5 rfl (lv_at hl 2 rfl) ?_
  refine va_iast hx hb hK hP hD hS 1 0 rfl rfl (i := nI j) (vp_in_nI (by omega) (by omega)) dX4_change_6 (fun H locs hP hD hS => ?_)
  have hP : va_P D vwCl [(h0, .inr (4, [.ref a1, .ref a2, .ref a3, .int cn, .int sn, .int sg])), (a1, .inl (cI, 9, .inl (upd fg (nI j).toNatClampNeg g0))), (a2, .inl (cI, 9, .inl fb)), (a3, .inl (cI, 9, .inl fp))] H := hP
  have hD : va_D (aA as) [(h0, .inr (4, [.ref a1, .ref a2, .ref a3, .int cn, .int sn, .int sg])), (a1, .inl (cI, 9, .inl (upd fg (nI j).toNatClampNeg g0))), (a2, .inl (cI, 9, .inl fb)), (a3, .inl (cI, 9, .inl fp))] := hD
  rw [nI_clamp (n := j) (by omega)] at hP hD
  refine lv_aload_n hx hb dX4_change_7 rfl (lv_at hl 0 rfl) ?_
  refine va_get (D := D) (ci := 4) (v := .ref a2) (C := RX4) (T := TX4) (N := 6) hx hb hts hiX4 hown hK hP 0 rfl rfl 1 (by decide) hf15 (fun _ h9 => h9) rfl dX4_change_8 ?_
  refine lv_iload_n hx hb dX4_change_11 rfl (lv_at hl 1 rfl) ?_
  refine lv_iload_n hx hb dX4_change_12 rfl (lv_at hl 3 rfl) ?_
  refine va_iast hx hb hK hP hD hS 2 0 rfl rfl (i := nI j) (vp_in_nI (by omega) (by omega)) dX4_change_13 (fun H locs hP hD hS => ?_)
  have hP : va_P D vwCl [(h0, .inr (4, [.ref a1, .ref a2, .ref a3, .int cn, .int sn, .int sg])), (a1, .inl (cI, 9, .inl (upd fg j g0))), (a2, .inl (cI, 9, .inl (upd fb (nI j).toNatClampNeg f0))), (a3, .inl (cI, 9, .inl fp))] H := hP
  have hD : va_D (aA as) [(h0, .inr (4, [.ref a1, .ref a2, .ref a3, .int cn, .int sn, .int sg])), (a1, .inl (cI, 9, .inl (upd fg j g0))), (a2, .inl (cI, 9, .inl (upd fb (nI j).toNatClampNeg f0))), (a3, .inl (cI, 9, .inl fp))] := hD
  rw [nI_clamp (n := j) (by omega)] at hP hD
  refine lv_aload_n hx hb dX4_change_14 rfl (lv_at hl 0 rfl) ?_
  refine va_get (D := D) (ci := 4) (v := .ref a3) (C := RX4) (T := TX4) (N := 6) hx hb hts hiX4 hown hK hP 0 rfl rfl 2 (by decide) hf18 (fun _ h9 => h9) rfl dX4_change_15 ?_
  refine lv_iload_n hx hb dX4_change_18 rfl (lv_at hl 1 rfl) ?_
  refine lv_iload hx hb dX4_change_19 (lv_at hl 4 rfl) ?_
  refine va_iast hx hb hK hP hD hS 3 0 rfl rfl (i := nI j) (vp_in_nI (by omega) (by omega)) dX4_change_21 (fun H locs hP hD hS => ?_)
  have hP : va_P D vwCl [(h0, .inr (4, [.ref a1, .ref a2, .ref a3, .int cn, .int sn, .int sg])), (a1, .inl (cI, 9, .inl (upd fg j g0))), (a2, .inl (cI, 9, .inl (upd fb j f0))), (a3, .inl (cI, 9, .inl (upd fp (nI j).toNatClampNeg r0)))] H := hP
  have hD : va_D (aA as) [(h0, .inr (4, [.ref a1, .ref a2, .ref a3, .int cn, .int sn, .int sg])), (a1, .inl (cI, 9, .inl (upd fg j g0))), (a2, .inl (cI, 9, .inl (upd fb j f0))), (a3, .inl (cI, 9, .inl (upd fp (nI j).toNatClampNeg r0)))] := hD
  rw [nI_clamp (n := j) (by omega)] at hP hD
  rw [← hQ]
  exact W.vret hx hb hr (fun tS htS hWS => ⟨⟨(), rfl, trivial, m_at htS hP⟩, by rw [← has]; exact hS.F htS⟩) (by rw [← has]; exact hS.2.2) dX4_change_22
def rm_c_X4_lay : Room := { frames := 1, cells := 0, slots := 0, locals := 24 }
set_option maxHeartbeats 400000 in
set_option maxRecDepth 100000 in
theorem c_X4_lay (l : Launch) (D : va_G) (cI cJ cZ : ClassId) (h0 : Nat) (a1 : Nat) (a2 : Nat) (a3 : Nat) (cn : Int32) (sn : Int32) (sg : Int32) (n0 : Int32) (fg : Nat → Int32) (fb : Nat → Int32) (fp : Nat → Int32)  : Met l yX4_lay wsX4_lay rm_c_X4_lay (pm_ D cI cJ cZ [.ref h0, .int n0] [(h0, .inr (4, [.ref a1, .ref a2, .ref a3, .int cn, .int sn, .int sg])), (a1, .inl (cI, 9, .inl fg)), (a2, .inl (cI, 9, .inl fb)), (a3, .inl (cI, 9, .inl fp))]) (va_Qv (fun (u : (Nat → Int32) × (Nat → Int32) × (Nat → Int32)) => ∀ z, z < 9 → u.1 z = nI 1 ∧ u.2.1 z = nI 1 ∧ u.2.2 z = nI 1) (fun (u : (Nat → Int32) × (Nat → Int32) × (Nat → Int32)) tS => va_P D vwCl [(h0, .inr (4, [.ref a1, .ref a2, .ref a3, .int n0, .int (nI 0), .int (nI 0)])), (a1, .inl (cI, 9, .inl u.1)), (a2, .inl (cI, 9, .inl u.2.1)), (a3, .inl (cI, 9, .inl u.2.2))] tS.heap) (aA [h0, a1, a2, a3])) 0 0 (aA [h0, a1, a2, a3]) := by
  refine Met.ofW (cc := cX4_lay) (maxL := 3) (ret := none) (by decide) rfl ?_
  intro p e s m args below meth c s₁ B hml hv
  obtain ⟨rfl, hP, hKN, hD0⟩ := hv
  have hK := hKN.1
  have hx := B.exec
  have hb := B.bytes
  have hr := B.returns
  have hts := atoms_spec (ws := wsX4_lay) B.pre
  have hown : s.vm.findClass RX4 = some m.cls := findClass_of_methodNamed B.named
  have hlocks := B.notSynchronized
  have hiX4 : ∀ w ∈ wsX40, w ∈ wsX4_lay := by decide +kernel
  have hf25 := hts (.fieldLink RX4 25 "LookBench$Shelf" "count" "I") (by decide +kernel)
  have hf29 := hts (.fieldLink RX4 29 "LookBench$Shelf" "seen" "I") (by decide +kernel)
  have hf32 := hts (.fieldLink RX4 32 "LookBench$Shelf" "seenGood" "I") (by decide +kernel)
  obtain ⟨as, has⟩ : ∃ z : List Nat, z = [h0, a1, a2, a3] := ⟨_, rfl⟩
  have hD := hD0.addr (as := as) (by rw [has]; rfl)
  have hS : va_S (aA as) s.heap s.heap [] := va_S.rf
  have hl := lv_entry ([.ref h0, .int n0]) (n := 3) (Nat.le_of_ble_eq_true rfl)
  rw [lg_entry_eq]
  generalize (lg_sl ([.ref h0, .int n0]) ++ List.replicate (3 - (lg_sl ([.ref h0, .int n0])).length) Slot.unset).toArray = ls at hl ⊢
  have hl : lv_has ls 3 [(0, .ref h0), (1, .int n0)] := hl
  generalize hQ : MQ below _ _ s _ _ _ = Q
  obtain ⟨H, hH⟩ : ∃ z, z = s.heap := ⟨_, rfl⟩
  have hP : va_P D vwCl [(h0, .inr (4, [.ref a1, .ref a2, .ref a3, .int cn, .int sn, .int sg])), (a1, .inl (cI, 9, .inl fg)), (a2, .inl (cI, 9, .inl fb)), (a3, .inl (cI, 9, .inl fp))] H := by rw [hH]; exact hP
  have hS : va_S (aA as) s.heap H [] := by rw [hH]; exact hS
  refine m_heap hH ?_
  clear hH
  refine lv_aload_n hx hb dX4_lay_0 rfl (lv_at hl 0 rfl) ?_
  refine lv_iload_n hx hb dX4_lay_1 rfl (lv_at hl 1 rfl) ?_
  refine va_put (D := D) (ci := 4) (v := .int n0) (ty := tyX4 3) (C := RX4) (T := TX4) (N := 6) hx hb hts hiX4 tyX4 tyX4_ok nmX4 hown hK hP hD hS 0 rfl rfl 3 (by decide) hf25 (fun _ h9 => h9) rfl (by decide +kernel) rfl rfl (Nat.le_of_ble_eq_true rfl) dX4_lay_2 (fun H locs hP hD hS => ?_)
  have hP : va_P D vwCl [(h0, .inr (4, [.ref a1, .ref a2, .ref a3, .int n0, .int sn, .int sg])), (a1, .inl (cI, 9, .inl fg)), (a2, .inl (cI, 9, .inl fb)), (a3, .inl (cI, 9, .inl fp))] H := hP
  have hD : va_D (aA as) [(h0, .inr (4, [.ref a1, .ref a2, .ref a3, .int n0, .int sn, .int sg])), (a1, .inl (cI, 9, .inl fg)), (a2, .inl (cI, 9, .inl fb)), (a3, .inl (cI, 9, .inl fp))] := hD
  refine lv_aload_n hx hb dX4_lay_5 rfl (lv_at hl 0 rfl) ?_
  refine lv_iconst (v := nI 0) hx hb dX4_lay_6 (by decide) ?_
  refine va_put (D := D) (ci := 4) (v := .int (nI 0)) (ty := tyX4 4) (C := RX4) (T := TX4) (N := 6) hx hb hts hiX4 tyX4 tyX4_ok nmX4 hown hK hP hD hS 0 rfl rfl 4 (by decide) hf29 (fun _ h9 => h9) rfl (by decide +kernel) rfl rfl (Nat.le_of_ble_eq_true rfl) dX4_lay_7 (fun H locs hP hD hS => ?_)
  have hP : va_P D vwCl [(h0, .inr (4, [.ref a1, .ref a2, .ref a3, .int n0, .int (nI 0), .int sg])), (a1, .inl (cI, 9, .inl fg)), (a2, .inl (cI, 9, .inl fb)), (a3, .inl (cI, 9, .inl fp))] H := hP
  have hD : va_D (aA as) [(h0, .inr (4, [.ref a1, .ref a2, .ref a3, .int n0, .int (nI 0), .int sg])), (a1, .inl (cI, 9, .inl fg)), (a2, .inl (cI, 9, .inl fb)), (a3, .inl (cI, 9, .inl fp))] := hD
  refine lv_aload_n hx hb dX4_lay_10 rfl (lv_at hl 0 rfl) ?_
  refine lv_iconst (v := nI 0) hx hb dX4_lay_11 (by decide) ?_
  refine va_put (D := D) (ci := 4) (v := .int (nI 0)) (ty := tyX4 5) (C := RX4) (T := TX4) (N := 6) hx hb hts hiX4 tyX4 tyX4_ok nmX4 hown hK hP hD hS 0 rfl rfl 5 (by decide) hf32 (fun _ h9 => h9) rfl (by decide +kernel) rfl rfl (Nat.le_of_ble_eq_true rfl) dX4_lay_12 (fun H locs hP hD hS => ?_)
  have hP : va_P D vwCl [(h0, .inr (4, [.ref a1, .ref a2, .ref a3, .int n0, .int (nI 0), .int (nI 0)])), (a1, .inl (cI, 9, .inl fg)), (a2, .inl (cI, 9, .inl fb)), (a3, .inl (cI, 9, .inl fp))] H := hP
  have hD : va_D (aA as) [(h0, .inr (4, [.ref a1, .ref a2, .ref a3, .int n0, .int (nI 0), .int (nI 0)])), (a1, .inl (cI, 9, .inl fg)), (a2, .inl (cI, 9, .inl fb)), (a3, .inl (cI, 9, .inl fp))] := hD
  refine lv_iconst (v := nI 0) hx hb dX4_lay_15 (by decide) ?_
  refine lv_istore_n (lv' := [(2, .int (nI 0)), (0, .ref h0), (1, .int n0)]) hx hb dX4_lay_16 rfl hl (by decide) rfl (fun ls hl => ?_)
  have loop1 : ∀ (fu : Nat) (k : Nat) (ug : Nat → Int32) (ub : Nat → Int32) (ur : Nat → Int32) (H : Heap) (locs : List Loc) (ls : Array Slot), (k ≤ 9 ∧ 9 < k + fu) → (∀ z, z < k → ug z = nI 1 ∧ ub z = nI 1 ∧ ur z = nI 1) → va_P D vwCl [(h0, .inr (4, [.ref a1, .ref a2, .ref a3, .int n0, .int (nI 0), .int (nI 0)])), (a1, .inl (cI, 9, .inl ug)), (a2, .inl (cI, 9, .inl ub)), (a3, .inl (cI, 9, .inl ur))] H → va_D (aA as) [(h0, .inr (4, [.ref a1, .ref a2, .ref a3, .int n0, .int (nI 0), .int (nI 0)])), (a1, .inl (cI, 9, .inl ug)), (a2, .inl (cI, 9, .inl ub)), (a3, .inl (cI, 9, .inl ur))] → va_S (aA as) s.heap H locs → lv_has ls 3 [(2, .int (nI k)), (0, .ref h0), (1, .int n0)] → W p l e (headSpec wsX4_lay rm_c_X4_lay).room s m ([.ref h0, .int n0] : List Value).toArray below meth c H locs 0 0 Q (F0 m 17 ls []) := by
    intro fu
    induction fu with
    | zero => intro k ug ub ur H locs ls hk hi; exact absurd hk (by omega)
    | succ fu ih1 =>
      intro k ug ub ur H locs ls hk hi hP hD hS hl
      refine lv_iload_n hx hb dX4_lay_17 rfl (lv_at hl 0 rfl) ?_
      refine lv_bipush (v := nI 9) hx hb dX4_lay_18 (by decide) ?_
      refine lv_icmp_ge (tgt := 37) hx hb dX4_lay_20 (by decide) (fun c2 => ?_) (fun c2 => ?_)
      · skip
        have d2 := c2
        rw [nI_leI (by omega) (by omega)] at d2
        rw [← hQ]
        exact W.vret hx hb hr (fun tS htS hWS => ⟨⟨(ug, ub, ur), rfl, fun z hz => hi z (by omega), m_at htS hP⟩, by rw [← has]; exact hS.F htS⟩) (by rw [← has]; exact hS.2.2) dX4_lay_37
      · skip
        have d2 := c2
        rw [nI_leI (by omega) (by omega)] at d2
        refine lv_aload_n hx hb dX4_lay_23 rfl (lv_at hl 1 rfl) ?_
        refine lv_iload_n hx hb dX4_lay_24 rfl (lv_at hl 0 rfl) ?_
        refine lv_iconst (v := nI 1) hx hb dX4_lay_25 (by decide) ?_
        refine lv_iconst (v := nI 1) hx hb dX4_lay_26 (by decide) ?_
        refine lv_iconst (v := nI 1) hx hb dX4_lay_27 (by decide) ?_
        refine mu_v (n := 4) (wc := [(h0, .inr (4, [.ref a1, .ref a2, .ref a3, .int n0, .int (nI 0), .int (nI 0)])), (a1, .inl (cI, 9, .inl ug)), (a2, .inl (cI, 9, .inl ub)), (a3, .inl (cI, 9, .inl ur))]) (va_runV (As := [.int (nI k), .int (nI 1), .int (nI 1), .int (nI 1)]) (rest := []) ⟨hx, hb, hml, hown, hts⟩ (c_X4_change l D cI cJ cZ h0 a1 a2 a3 k n0 (nI 0) (nI 0) (nI 1) (nI 1) (nI 1) ug ub ur (by first | assumption | omega)) (cwV 4 hts gX4_lay_X4_change rfl rfl rfl (by decide +kernel) ⟨Nat.le_of_ble_eq_true rfl, Nat.le_of_ble_eq_true rfl⟩) ⟨pm_blind, va_recv hK hP (ci := 4) (q0 := 0) rfl rfl, fun U hU hW => ⟨rfl, by rw [hU]; exact hP.sub (ws' := [(h0, .inr (4, [.ref a1, .ref a2, .ref a3, .int n0, .int (nI 0), .int (nI 0)])), (a1, .inl (cI, 9, .inl ug)), (a2, .inl (cI, 9, .inl ub)), (a3, .inl (cI, 9, .inl ur))]) [0, 1, 2, 3] rfl, hKN.warm hW, (hD.sub (ws' := [(h0, .inr (4, [.ref a1, .ref a2, .ref a3, .int n0, .int (nI 0), .int (nI 0)])), (a1, .inl (cI, 9, .inl ug)), (a2, .inl (cI, 9, .inl ub)), (a3, .inl (cI, 9, .inl ur))]) [0, 1, 2, 3] (by decide) rfl).weaken (fun _ _ _ _ => trivial)⟩⟩ rfl rfl hl.1 rfl (lv_room (Nat.le_of_ble_eq_true rfl)) dX4_lay_28 ⟨Nat.le_of_ble_eq_true rfl, Nat.le_of_ble_eq_true rfl⟩) hS hP hD (fun (u : Unit) => [(h0, .inr (4, [.ref a1, .ref a2, .ref a3, .int n0, .int (nI 0), .int (nI 0)])), (a1, .inl (cI, 9, .inl (upd ug k (nI 1)))), (a2, .inl (cI, 9, .inl (upd ub k (nI 1)))), (a3, .inl (cI, 9, .inl (upd ur k (nI 1))))]) [0, 1, 2, 3] [] rfl rfl (fun _ => rfl) (fun _ => rfl) (fun _ => rfl) (fun _ => rfl) (by decide) (by decide) (fun u3 H locs w3r hP hD hS => ?_)
        have hP : va_P D vwCl [(h0, .inr (4, [.ref a1, .ref a2, .ref a3, .int n0, .int (nI 0), .int (nI 0)])), (a1, .inl (cI, 9, .inl (upd ug k (nI 1)))), (a2, .inl (cI, 9, .inl (upd ub k (nI 1)))), (a3, .inl (cI, 9, .inl (upd ur k (nI 1))))] H := hP
        have hD : va_D (aA as) [(h0, .inr (4, [.ref a1, .ref a2, .ref a3, .int n0, .int (nI 0), .int (nI 0)])), (a1, .inl (cI, 9, .inl (upd ug k (nI 1)))), (a2, .inl (cI, 9, .inl (upd ub k (nI 1)))), (a3, .inl (cI, 9, .inl (upd ur k (nI 1))))] := hD
        have w3 : True := w3r
        clear w3r
        refine lv_iinc (v := nI (k + 1)) (lv' := [(2, .int (nI (k + 1))), (0, .ref h0), (1, .int n0)]) hx hb dX4_lay_31 hl (k := 0) rfl (nI_1 k) (by decide) rfl (fun ls hl => ?_)
        refine lv_goto (tgt := 17) hx hb dX4_lay_34 (by decide) ?_
        exact ih1 (k + 1) (upd ug k (nI 1)) (upd ub k (nI 1)) (upd ur k (nI 1)) _ _ _ (by omega) (fun z hz => by rcases Nat.lt_or_ge z k with h | h; exact (by have h2 := hi z h; have e9 : z ≠ k := (by omega); simp [upd, e9, h2]); exact (by have e9 : z = k := (by omega); subst e9; simp [upd])) hP hD hS (lv_sub hl [0, 1, 2] rfl)
  exact loop1 10 0 fg fb fp _ _ _ (by omega) (fun z hz => absurd hz (by omega)) hP hD hS (lv_sub hl [0, 1, 2] rfl)
def rm_c_X4_noted : Room := { frames := 0, cells := 0, slots := 0, locals := 0 }
set_option maxHeartbeats 400000 in
set_option maxRecDepth 100000 in
theorem c_X4_noted (l : Launch) (D : va_G) (cI cJ cZ : ClassId) (h0 : Nat) (a1 : Nat) (a2 : Nat) (a3 : Nat) (j : Nat) (cn : Int32) (sn : Int32) (sg : Int32)  : Met l yX4_noted wsX4_noted rm_c_X4_noted (pc_ D cI cJ cZ [.ref h0, .int (nI j)] [(h0, .inr (4, [.ref a1, .ref a2, .ref a3, .int cn, .int sn, .int sg]))]) (va_Qi (fun (r : Int32) (_ : Unit) => r = if sb sn j = 0 then -1 else nI (sb sg j)) (fun _ _ => True) aN) 0 0 aN := by
  refine Met.ofW (cc := cX4_noted) (maxL := 2) (ret := (some .int)) (by decide) rfl ?_
  intro p e s m args below meth c s₁ B hml hv
  obtain ⟨rfl, hP, hKN⟩ := hv
  have hK := hKN.1
  have hx := B.exec
  have hb := B.bytes
  have hr := B.returns
  have hts := atoms_spec (ws := wsX4_noted) B.pre
  have hown : s.vm.findClass RX4 = some m.cls := findClass_of_methodNamed B.named
  have hlocks := B.notSynchronized
  have hiX4 : ∀ w ∈ wsX40, w ∈ wsX4_noted := by decide +kernel
  have hf29 := hts (.fieldLink RX4 29 "LookBench$Shelf" "seen" "I") (by decide +kernel)
  have hf32 := hts (.fieldLink RX4 32 "LookBench$Shelf" "seenGood" "I") (by decide +kernel)
  have hS : va_S aN s.heap s.heap [] := va_S.rf
  have hl := lv_entry ([.ref h0, .int (nI j)]) (n := 2) (Nat.le_of_ble_eq_true rfl)
  rw [lg_entry_eq]
  generalize (lg_sl ([.ref h0, .int (nI j)]) ++ List.replicate (2 - (lg_sl ([.ref h0, .int (nI j)])).length) Slot.unset).toArray = ls at hl ⊢
  have hl : lv_has ls 2 [(0, .ref h0), (1, .int (nI j))] := hl
  generalize hQ : MQ below _ _ s _ _ _ = Q
  obtain ⟨H, hH⟩ : ∃ z, z = s.heap := ⟨_, rfl⟩
  have hP : va_P D vwCl [(h0, .inr (4, [.ref a1, .ref a2, .ref a3, .int cn, .int sn, .int sg]))] H := by rw [hH]; exact hP
  have hS : va_S aN s.heap H [] := by rw [hH]; exact hS
  refine m_heap hH ?_
  clear hH
  have hs1 := sb_lt sn j
  refine lv_aload_n hx hb dX4_noted_0 rfl (lv_at hl 0 rfl) ?_
  refine va_get (D := D) (ci := 4) (v := .int sn) (C := RX4) (T := TX4) (N := 6) hx hb hts hiX4 hown hK hP 0 rfl rfl 4 (by decide) hf29 (fun _ h9 => h9) rfl dX4_noted_1 ?_
  refine lv_iload_n hx hb dX4_noted_4 rfl (lv_at hl 1 rfl) ?_
  refine lv_ishr hx hb dX4_noted_5 ?_
  refine lv_iconst (v := nI 1) hx hb dX4_noted_6 (by decide) ?_
  refine lv_iand hx hb dX4_noted_7 ?_
  refine cn_i (y := nI (sb sn j)) (sb_ok sn j) ?_
  refine lv_if_ne (tgt := 13) hx hb dX4_noted_8 (by decide) (fun c1 => ?_) (fun c1 => ?_)
  · skip
    have d1 := c1
    rw [nz_eq (by omega)] at d1
    refine lv_aload_n hx hb dX4_noted_13 rfl (lv_at hl 0 rfl) ?_
    refine va_get (D := D) (ci := 4) (v := .int sg) (C := RX4) (T := TX4) (N := 6) hx hb hts hiX4 hown hK hP 0 rfl rfl 5 (by decide) hf32 (fun _ h9 => h9) rfl dX4_noted_14 ?_
    refine lv_iload_n hx hb dX4_noted_17 rfl (lv_at hl 1 rfl) ?_
    refine lv_ishr hx hb dX4_noted_18 ?_
    refine lv_iconst (v := nI 1) hx hb dX4_noted_19 (by decide) ?_
    refine lv_iand hx hb dX4_noted_20 ?_
    refine cn_i (y := nI (sb sg j)) (sb_ok sg j) ?_
    rw [← hQ]
    exact W.iret (v := nI (sb sg j)) hx hb hr (fun tS htS hWS => ⟨⟨(nI (sb sg j)), (), rfl, by rw [if_neg (by omega)], trivial⟩, hS.F htS⟩) hS.2.2 dX4_noted_21
  · skip
    have d1 := c1
    rw [nz_eq (by omega)] at d1
    refine lv_iconst (v := (-1 : Int32)) hx hb dX4_noted_11 (by decide) ?_
    rw [← hQ]
    exact W.iret (v := (-1 : Int32)) hx hb hr (fun tS htS hWS => ⟨⟨(-1 : Int32), (), rfl, by rw [if_pos (by omega)], trivial⟩, hS.F htS⟩) hS.2.2 dX4_noted_12
def rm_c_X4_note : Room := { frames := 0, cells := 0, slots := 0, locals := 0 }
set_option maxHeartbeats 400000 in
set_option maxRecDepth 100000 in
theorem c_X4_note (l : Launch) (D : va_G) (cI cJ cZ : ClassId) (h0 : Nat) (a1 : Nat) (a2 : Nat) (a3 : Nat) (j : Nat) (cn : Int32) (sn : Int32) (sg : Int32) (ho : Int32) (hj : j < 9) : Met l yX4_note wsX4_note rm_c_X4_note (pm_ D cI cJ cZ [.ref h0, .int (nI j), .int ho] [(h0, .inr (4, [.ref a1, .ref a2, .ref a3, .int cn, .int sn, .int sg]))]) (va_Qv (fun (u : Int32 × Int32) => u.1 = nt_s sn ho j ∧ u.2 = nt_g sg ho j) (fun (u : Int32 × Int32) tS => va_P D vwCl [(h0, .inr (4, [.ref a1, .ref a2, .ref a3, .int cn, .int u.1, .int u.2]))] tS.heap) (aA [h0])) 0 0 (aA [h0]) := by
  refine Met.ofW (cc := cX4_note) (maxL := 4) (ret := none) (by decide) rfl ?_
  intro p e s m args below meth c s₁ B hml hv
  obtain ⟨rfl, hP, hKN, hD0⟩ := hv
  have hK := hKN.1
  have hx := B.exec
  have hb := B.bytes
  have hr := B.returns
  have hts := atoms_spec (ws := wsX4_note) B.pre
  have hown : s.vm.findClass RX4 = some m.cls := findClass_of_methodNamed B.named
  have hlocks := B.notSynchronized
  have hiX4 : ∀ w ∈ wsX40, w ∈ wsX4_note := by decide +kernel
  have hf29 := hts (.fieldLink RX4 29 "LookBench$Shelf" "seen" "I") (by decide +kernel)
  have hf32 := hts (.fieldLink RX4 32 "LookBench$Shelf" "seenGood" "I") (by decide +kernel)
  obtain ⟨as, has⟩ : ∃ z : List Nat, z = [h0] := ⟨_, rfl⟩
  have hD := hD0.addr (as := as) (by rw [has]; rfl)
  have hS : va_S (aA as) s.heap s.heap [] := va_S.rf
  have hl := lv_entry ([.ref h0, .int (nI j), .int ho]) (n := 4) (Nat.le_of_ble_eq_true rfl)
  rw [lg_entry_eq]
  generalize (lg_sl ([.ref h0, .int (nI j), .int ho]) ++ List.replicate (4 - (lg_sl ([.ref h0, .int (nI j), .int ho])).length) Slot.unset).toArray = ls at hl ⊢
  have hl : lv_has ls 4 [(0, .ref h0), (1, .int (nI j)), (2, .int ho)] := hl
  generalize hQ : MQ below _ _ s _ _ _ = Q
  obtain ⟨H, hH⟩ : ∃ z, z = s.heap := ⟨_, rfl⟩
  have hP : va_P D vwCl [(h0, .inr (4, [.ref a1, .ref a2, .ref a3, .int cn, .int sn, .int sg]))] H := by rw [hH]; exact hP
  have hS : va_S (aA as) s.heap H [] := by rw [hH]; exact hS
  refine m_heap hH ?_
  clear hH
  refine lv_iconst (v := nI 1) hx hb dX4_note_0 (by decide) ?_
  refine lv_iload_n hx hb dX4_note_1 rfl (lv_at hl 1 rfl) ?_
  refine lv_ishl hx hb dX4_note_2 ?_
  refine cn_i (y := nI (2 ^ j)) (m_shl1 (by omega)) ?_
  refine lv_istore_n (lv' := [(3, .int (nI (2 ^ j))), (0, .ref h0), (1, .int (nI j)), (2, .int ho)]) hx hb dX4_note_3 rfl hl (by decide) rfl (fun ls hl => ?_)
  refine lv_aload_n hx hb dX4_note_4 rfl (lv_at hl 1 rfl) ?_
  refine lv_iload_n hx hb dX4_note_5 rfl (lv_at hl 3 rfl) ?_
  refine lv_iconst (v := (-1 : Int32)) hx hb dX4_note_6 (by decide) ?_
  refine lv_icmp_ne (tgt := 21) hx hb dX4_note_7 (by decide) (fun c1 => ?_) (fun c1 => ?_)
  · skip
    refine lv_aload_n hx hb dX4_note_21 rfl (lv_at hl 1 rfl) ?_
    refine va_get (D := D) (ci := 4) (v := .int sn) (C := RX4) (T := TX4) (N := 6) hx hb hts hiX4 hown hK hP 0 rfl rfl 4 (by decide) hf29 (fun _ h9 => h9) rfl dX4_note_22 ?_
    refine lv_iload_n hx hb dX4_note_25 rfl (lv_at hl 0 rfl) ?_
    refine lv_ior hx hb dX4_note_26 ?_
    refine va_put (D := D) (ci := 4) (v := .int (sn ||| (nI (2 ^ j)))) (ty := tyX4 4) (C := RX4) (T := TX4) (N := 6) hx hb hts hiX4 tyX4 tyX4_ok nmX4 hown hK hP hD hS 0 rfl rfl 4 (by decide) hf29 (fun _ h9 => h9) rfl (by decide +kernel) rfl rfl (Nat.le_of_ble_eq_true rfl) dX4_note_27 (fun H locs hP hD hS => ?_)
    have hP : va_P D vwCl [(h0, .inr (4, [.ref a1, .ref a2, .ref a3, .int cn, .int (sn ||| (nI (2 ^ j))), .int sg]))] H := hP
    have hD : va_D (aA as) [(h0, .inr (4, [.ref a1, .ref a2, .ref a3, .int cn, .int (sn ||| (nI (2 ^ j))), .int sg]))] := hD
    refine lv_aload_n hx hb dX4_note_30 rfl (lv_at hl 1 rfl) ?_
    refine lv_iload_n hx hb dX4_note_31 rfl (lv_at hl 3 rfl) ?_
    refine lv_iconst (v := nI 1) hx hb dX4_note_32 (by decide) ?_
    refine lv_icmp_ne (tgt := 45) hx hb dX4_note_33 (by decide) (fun c2 => ?_) (fun c2 => ?_)
    · skip
      refine lv_aload_n hx hb dX4_note_45 rfl (lv_at hl 1 rfl) ?_
      refine va_get (D := D) (ci := 4) (v := .int sg) (C := RX4) (T := TX4) (N := 6) hx hb hts hiX4 hown hK hP 0 rfl rfl 5 (by decide) hf32 (fun _ h9 => h9) rfl dX4_note_46 ?_
      refine lv_iload_n hx hb dX4_note_49 rfl (lv_at hl 0 rfl) ?_
      refine lv_iconst (v := (-1 : Int32)) hx hb dX4_note_50 (by decide) ?_
      refine lv_ixor hx hb dX4_note_51 ?_
      refine lv_iand hx hb dX4_note_52 ?_
      refine va_put (D := D) (ci := 4) (v := .int (sg &&& ((nI (2 ^ j)) ^^^ (-1 : Int32)))) (ty := tyX4 5) (C := RX4) (T := TX4) (N := 6) hx hb hts hiX4 tyX4 tyX4_ok nmX4 hown hK hP hD hS 0 rfl rfl 5 (by decide) hf32 (fun _ h9 => h9) rfl (by decide +kernel) rfl rfl (Nat.le_of_ble_eq_true rfl) dX4_note_53 (fun H locs hP hD hS => ?_)
      have hP : va_P D vwCl [(h0, .inr (4, [.ref a1, .ref a2, .ref a3, .int cn, .int (sn ||| (nI (2 ^ j))), .int (sg &&& ((nI (2 ^ j)) ^^^ (-1 : Int32)))]))] H := hP
      have hD : va_D (aA as) [(h0, .inr (4, [.ref a1, .ref a2, .ref a3, .int cn, .int (sn ||| (nI (2 ^ j))), .int (sg &&& ((nI (2 ^ j)) ^^^ (-1 : Int32)))]))] := hD
      rw [← hQ]
      exact W.vret hx hb hr (fun tS htS hWS => ⟨⟨(sn ||| (nI (2 ^ j)), sg &&& ((nI (2 ^ j)) ^^^ (-1 : Int32))), rfl, by constructor <;> simp_all [nt_s, nt_g], m_at htS hP⟩, by rw [← has]; exact hS.F htS⟩) (by rw [← has]; exact hS.2.2) dX4_note_56
    · skip
      refine lv_aload_n hx hb dX4_note_36 rfl (lv_at hl 1 rfl) ?_
      refine va_get (D := D) (ci := 4) (v := .int sg) (C := RX4) (T := TX4) (N := 6) hx hb hts hiX4 hown hK hP 0 rfl rfl 5 (by decide) hf32 (fun _ h9 => h9) rfl dX4_note_37 ?_
      refine lv_iload_n hx hb dX4_note_40 rfl (lv_at hl 0 rfl) ?_
      refine lv_ior hx hb dX4_note_41 ?_
      refine lv_goto (tgt := 53) hx hb dX4_note_42 (by decide) ?_
      refine va_put (D := D) (ci := 4) (v := .int (sg ||| (nI (2 ^ j)))) (ty := tyX4 5) (C := RX4) (T := TX4) (N := 6) hx hb hts hiX4 tyX4 tyX4_ok nmX4 hown hK hP hD hS 0 rfl rfl 5 (by decide) hf32 (fun _ h9 => h9) rfl (by decide +kernel) rfl rfl (Nat.le_of_ble_eq_true rfl) dX4_note_53 (fun H locs hP hD hS => ?_)
      have hP : va_P D vwCl [(h0, .inr (4, [.ref a1, .ref a2, .ref a3, .int cn, .int (sn ||| (nI (2 ^ j))), .int (sg ||| (nI (2 ^ j)))]))] H := hP
      have hD : va_D (aA as) [(h0, .inr (4, [.ref a1, .ref a2, .ref a3, .int cn, .int (sn ||| (nI (2 ^ j))), .int (sg ||| (nI (2 ^ j)))]))] := hD
      rw [← hQ]
      exact W.vret hx hb hr (fun tS htS hWS => ⟨⟨(sn ||| (nI (2 ^ j)), sg ||| (nI (2 ^ j))), rfl, by constructor <;> simp_all [nt_s, nt_g], m_at htS hP⟩, by rw [← has]; exact hS.F htS⟩) (by rw [← has]; exact hS.2.2) dX4_note_56
  · skip
    refine lv_aload_n hx hb dX4_note_10 rfl (lv_at hl 1 rfl) ?_
    refine va_get (D := D) (ci := 4) (v := .int sn) (C := RX4) (T := TX4) (N := 6) hx hb hts hiX4 hown hK hP 0 rfl rfl 4 (by decide) hf29 (fun _ h9 => h9) rfl dX4_note_11 ?_
    refine lv_iload_n hx hb dX4_note_14 rfl (lv_at hl 0 rfl) ?_
    refine lv_iconst (v := (-1 : Int32)) hx hb dX4_note_15 (by decide) ?_
    refine lv_ixor hx hb dX4_note_16 ?_
    refine lv_iand hx hb dX4_note_17 ?_
    refine lv_goto (tgt := 27) hx hb dX4_note_18 (by decide) ?_
    refine va_put (D := D) (ci := 4) (v := .int (sn &&& ((nI (2 ^ j)) ^^^ (-1 : Int32)))) (ty := tyX4 4) (C := RX4) (T := TX4) (N := 6) hx hb hts hiX4 tyX4 tyX4_ok nmX4 hown hK hP hD hS 0 rfl rfl 4 (by decide) hf29 (fun _ h9 => h9) rfl (by decide +kernel) rfl rfl (Nat.le_of_ble_eq_true rfl) dX4_note_27 (fun H locs hP hD hS => ?_)
    have hP : va_P D vwCl [(h0, .inr (4, [.ref a1, .ref a2, .ref a3, .int cn, .int (sn &&& ((nI (2 ^ j)) ^^^ (-1 : Int32))), .int sg]))] H := hP
    have hD : va_D (aA as) [(h0, .inr (4, [.ref a1, .ref a2, .ref a3, .int cn, .int (sn &&& ((nI (2 ^ j)) ^^^ (-1 : Int32))), .int sg]))] := hD
    refine lv_aload_n hx hb dX4_note_30 rfl (lv_at hl 1 rfl) ?_
    refine lv_iload_n hx hb dX4_note_31 rfl (lv_at hl 3 rfl) ?_
    refine lv_iconst (v := nI 1) hx hb dX4_note_32 (by decide) ?_
    refine lv_icmp_ne (tgt := 45) hx hb dX4_note_33 (by decide) (fun c3 => ?_) (fun c3 => ?_)
    · skip
      refine lv_aload_n hx hb dX4_note_45 rfl (lv_at hl 1 rfl) ?_
      refine va_get (D := D) (ci := 4) (v := .int sg) (C := RX4) (T := TX4) (N := 6) hx hb hts hiX4 hown hK hP 0 rfl rfl 5 (by decide) hf32 (fun _ h9 => h9) rfl dX4_note_46 ?_
      refine lv_iload_n hx hb dX4_note_49 rfl (lv_at hl 0 rfl) ?_
      refine lv_iconst (v := (-1 : Int32)) hx hb dX4_note_50 (by decide) ?_
      refine lv_ixor hx hb dX4_note_51 ?_
      refine lv_iand hx hb dX4_note_52 ?_
      refine va_put (D := D) (ci := 4) (v := .int (sg &&& ((nI (2 ^ j)) ^^^ (-1 : Int32)))) (ty := tyX4 5) (C := RX4) (T := TX4) (N := 6) hx hb hts hiX4 tyX4 tyX4_ok nmX4 hown hK hP hD hS 0 rfl rfl 5 (by decide) hf32 (fun _ h9 => h9) rfl (by decide +kernel) rfl rfl (Nat.le_of_ble_eq_true rfl) dX4_note_53 (fun H locs hP hD hS => ?_)
      have hP : va_P D vwCl [(h0, .inr (4, [.ref a1, .ref a2, .ref a3, .int cn, .int (sn &&& ((nI (2 ^ j)) ^^^ (-1 : Int32))), .int (sg &&& ((nI (2 ^ j)) ^^^ (-1 : Int32)))]))] H := hP
      have hD : va_D (aA as) [(h0, .inr (4, [.ref a1, .ref a2, .ref a3, .int cn, .int (sn &&& ((nI (2 ^ j)) ^^^ (-1 : Int32))), .int (sg &&& ((nI (2 ^ j)) ^^^ (-1 : Int32)))]))] := hD
      rw [← hQ]
      exact W.vret hx hb hr (fun tS htS hWS => ⟨⟨(sn &&& ((nI (2 ^ j)) ^^^ (-1 : Int32)), sg &&& ((nI (2 ^ j)) ^^^ (-1 : Int32))), rfl, by constructor <;> simp_all [nt_s, nt_g], m_at htS hP⟩, by rw [← has]; exact hS.F htS⟩) (by rw [← has]; exact hS.2.2) dX4_note_56
    · skip
      refine lv_aload_n hx hb dX4_note_36 rfl (lv_at hl 1 rfl) ?_
      refine va_get (D := D) (ci := 4) (v := .int sg) (C := RX4) (T := TX4) (N := 6) hx hb hts hiX4 hown hK hP 0 rfl rfl 5 (by decide) hf32 (fun _ h9 => h9) rfl dX4_note_37 ?_
      refine lv_iload_n hx hb dX4_note_40 rfl (lv_at hl 0 rfl) ?_
      refine lv_ior hx hb dX4_note_41 ?_
      refine lv_goto (tgt := 53) hx hb dX4_note_42 (by decide) ?_
      refine va_put (D := D) (ci := 4) (v := .int (sg ||| (nI (2 ^ j)))) (ty := tyX4 5) (C := RX4) (T := TX4) (N := 6) hx hb hts hiX4 tyX4 tyX4_ok nmX4 hown hK hP hD hS 0 rfl rfl 5 (by decide) hf32 (fun _ h9 => h9) rfl (by decide +kernel) rfl rfl (Nat.le_of_ble_eq_true rfl) dX4_note_53 (fun H locs hP hD hS => ?_)
      have hP : va_P D vwCl [(h0, .inr (4, [.ref a1, .ref a2, .ref a3, .int cn, .int (sn &&& ((nI (2 ^ j)) ^^^ (-1 : Int32))), .int (sg ||| (nI (2 ^ j)))]))] H := hP
      have hD : va_D (aA as) [(h0, .inr (4, [.ref a1, .ref a2, .ref a3, .int cn, .int (sn &&& ((nI (2 ^ j)) ^^^ (-1 : Int32))), .int (sg ||| (nI (2 ^ j)))]))] := hD
      rw [← hQ]
      exact W.vret hx hb hr (fun tS htS hWS => ⟨⟨(sn &&& ((nI (2 ^ j)) ^^^ (-1 : Int32)), sg ||| (nI (2 ^ j))), rfl, by constructor <;> simp_all [nt_s, nt_g], m_at htS hP⟩, by rw [← has]; exact hS.F htS⟩) (by rw [← has]; exact hS.2.2) dX4_note_56
def rm_c_X4_unseen : Room := { frames := 0, cells := 0, slots := 0, locals := 0 }
set_option maxHeartbeats 400000 in
set_option maxRecDepth 100000 in
theorem c_X4_unseen (l : Launch) (D : va_G) (cI cJ cZ : ClassId) (h0 : Nat) (a1 : Nat) (a2 : Nat) (a3 : Nat) (n : Nat) (sn : Int32) (sg : Int32) (hn : n ≤ 9) : Met l yX4_unseen wsX4_unseen rm_c_X4_unseen (pc_ D cI cJ cZ [.ref h0] [(h0, .inr (4, [.ref a1, .ref a2, .ref a3, .int (nI n), .int sn, .int sg]))]) (va_Qi (fun (r : Int32) (_ : Unit) => r = nI (2 ^ n - 1) &&& (sn ^^^ (-1))) (fun _ _ => True) aN) 0 0 aN := by
  refine Met.ofW (cc := cX4_unseen) (maxL := 1) (ret := (some .int)) (by decide) rfl ?_
  intro p e s m args below meth c s₁ B hml hv
  obtain ⟨rfl, hP, hKN⟩ := hv
  have hK := hKN.1
  have hx := B.exec
  have hb := B.bytes
  have hr := B.returns
  have hts := atoms_spec (ws := wsX4_unseen) B.pre
  have hown : s.vm.findClass RX4 = some m.cls := findClass_of_methodNamed B.named
  have hlocks := B.notSynchronized
  have hiX4 : ∀ w ∈ wsX40, w ∈ wsX4_unseen := by decide +kernel
  have hf25 := hts (.fieldLink RX4 25 "LookBench$Shelf" "count" "I") (by decide +kernel)
  have hf29 := hts (.fieldLink RX4 29 "LookBench$Shelf" "seen" "I") (by decide +kernel)
  have hS : va_S aN s.heap s.heap [] := va_S.rf
  have hl := lv_entry ([.ref h0]) (n := 1) (Nat.le_of_ble_eq_true rfl)
  rw [lg_entry_eq]
  generalize (lg_sl ([.ref h0]) ++ List.replicate (1 - (lg_sl ([.ref h0])).length) Slot.unset).toArray = ls at hl ⊢
  have hl : lv_has ls 1 [(0, .ref h0)] := hl
  generalize hQ : MQ below _ _ s _ _ _ = Q
  obtain ⟨H, hH⟩ : ∃ z, z = s.heap := ⟨_, rfl⟩
  have hP : va_P D vwCl [(h0, .inr (4, [.ref a1, .ref a2, .ref a3, .int (nI n), .int sn, .int sg]))] H := by rw [hH]; exact hP
  have hS : va_S aN s.heap H [] := by rw [hH]; exact hS
  refine m_heap hH ?_
  clear hH
  have h2n := m_pow hn
  have h2p := m_powp n
  refine lv_iconst (v := nI 1) hx hb dX4_unseen_0 (by decide) ?_
  refine lv_aload_n hx hb dX4_unseen_1 rfl (lv_at hl 0 rfl) ?_
  refine va_get (D := D) (ci := 4) (v := .int (nI n)) (C := RX4) (T := TX4) (N := 6) hx hb hts hiX4 hown hK hP 0 rfl rfl 3 (by decide) hf25 (fun _ h9 => h9) rfl dX4_unseen_2 ?_
  refine lv_ishl hx hb dX4_unseen_5 ?_
  refine cn_i (y := nI (2 ^ n)) (m_shl1 (by omega)) ?_
  refine lv_iconst (v := nI 1) hx hb dX4_unseen_6 (by decide) ?_
  refine lv_isub hx hb dX4_unseen_7 ?_
  refine cn_i (y := nI ((2 ^ n) - 1)) (pk_sub (a := (2 ^ n)) (b := 1) (by omega)) ?_
  refine lv_aload_n hx hb dX4_unseen_8 rfl (lv_at hl 0 rfl) ?_
  refine va_get (D := D) (ci := 4) (v := .int sn) (C := RX4) (T := TX4) (N := 6) hx hb hts hiX4 hown hK hP 0 rfl rfl 4 (by decide) hf29 (fun _ h9 => h9) rfl dX4_unseen_9 ?_
  refine lv_iconst (v := (-1 : Int32)) hx hb dX4_unseen_12 (by decide) ?_
  refine lv_ixor hx hb dX4_unseen_13 ?_
  refine lv_iand hx hb dX4_unseen_14 ?_
  rw [← hQ]
  exact W.iret (v := (nI ((2 ^ n) - 1)) &&& (sn ^^^ (-1 : Int32))) hx hb hr (fun tS htS hWS => ⟨⟨((nI ((2 ^ n) - 1)) &&& (sn ^^^ (-1 : Int32))), (), rfl, rfl, trivial⟩, hS.F htS⟩) hS.2.2 dX4_unseen_15
def rm_c_X4_fits : Room := { frames := 0, cells := 0, slots := 0, locals := 0 }
set_option maxHeartbeats 400000 in
set_option maxRecDepth 100000 in
theorem c_X4_fits (l : Launch) (D : va_G) (cI cJ cZ : ClassId) (h0 : Nat) (a1 : Nat) (a2 : Nat) (a3 : Nat) (cn : Int32) (sn : Int32) (sg : Int32) (st : Int32)  : Met l yX4_fits wsX4_fits rm_c_X4_fits (pc_ D cI cJ cZ [.ref h0, .int st] [(h0, .inr (4, [.ref a1, .ref a2, .ref a3, .int cn, .int sn, .int sg]))]) (va_Qi (fun (r : Int32) (_ : Unit) => B01 r (st &&& sn = sg)) (fun _ _ => True) aN) 0 0 aN := by
  refine Met.ofW (cc := cX4_fits) (maxL := 2) (ret := (some .boolean)) (by decide) rfl ?_
  intro p e s m args below meth c s₁ B hml hv
  obtain ⟨rfl, hP, hKN⟩ := hv
  have hK := hKN.1
  have hx := B.exec
  have hb := B.bytes
  have hr := B.returns
  have hts := atoms_spec (ws := wsX4_fits) B.pre
  have hown : s.vm.findClass RX4 = some m.cls := findClass_of_methodNamed B.named
  have hlocks := B.notSynchronized
  have hiX4 : ∀ w ∈ wsX40, w ∈ wsX4_fits := by decide +kernel
  have hf29 := hts (.fieldLink RX4 29 "LookBench$Shelf" "seen" "I") (by decide +kernel)
  have hf32 := hts (.fieldLink RX4 32 "LookBench$Shelf" "seenGood" "I") (by decide +kernel)
  have hS : va_S aN s.heap s.heap [] := va_S.rf
  have hl := lv_entry ([.ref h0, .int st]) (n := 2) (Nat.le_of_ble_eq_true rfl)
  rw [lg_entry_eq]
  generalize (lg_sl ([.ref h0, .int st]) ++ List.replicate (2 - (lg_sl ([.ref h0, .int st])).length) Slot.unset).toArray = ls at hl ⊢
  have hl : lv_has ls 2 [(0, .ref h0), (1, .int st)] := hl
  generalize hQ : MQ below _ _ s _ _ _ = Q
  obtain ⟨H, hH⟩ : ∃ z, z = s.heap := ⟨_, rfl⟩
  have hP : va_P D vwCl [(h0, .inr (4, [.ref a1, .ref a2, .ref a3, .int cn, .int sn, .int sg]))] H := by rw [hH]; exact hP
  have hS : va_S aN s.heap H [] := by rw [hH]; exact hS
  refine m_heap hH ?_
  clear hH
  refine lv_iload_n hx hb dX4_fits_0 rfl (lv_at hl 1 rfl) ?_
  refine lv_aload_n hx hb dX4_fits_1 rfl (lv_at hl 0 rfl) ?_
  refine va_get (D := D) (ci := 4) (v := .int sn) (C := RX4) (T := TX4) (N := 6) hx hb hts hiX4 hown hK hP 0 rfl rfl 4 (by decide) hf29 (fun _ h9 => h9) rfl dX4_fits_2 ?_
  refine lv_iand hx hb dX4_fits_5 ?_
  refine lv_aload_n hx hb dX4_fits_6 rfl (lv_at hl 0 rfl) ?_
  refine va_get (D := D) (ci := 4) (v := .int sg) (C := RX4) (T := TX4) (N := 6) hx hb hts hiX4 hown hK hP 0 rfl rfl 5 (by decide) hf32 (fun _ h9 => h9) rfl dX4_fits_7 ?_
  refine lv_icmp_ne (tgt := 17) hx hb dX4_fits_10 (by decide) (fun c1 => ?_) (fun c1 => ?_)
  · skip
    refine lv_iconst (v := nI 0) hx hb dX4_fits_17 (by decide) ?_
    rw [← hQ]
    exact W.zret (v := nI 0) hx hb hr (by first | decide | (rw [nar_b01])) (fun tS htS hWS => ⟨⟨(nI 0), (), rfl, Or.inr ⟨rfl, by simp_all⟩, trivial⟩, hS.F htS⟩) hS.2.2 dX4_fits_18
  · skip
    refine lv_iconst (v := nI 1) hx hb dX4_fits_13 (by decide) ?_
    refine lv_goto (tgt := 18) hx hb dX4_fits_14 (by decide) ?_
    rw [← hQ]
    exact W.zret (v := nI 1) hx hb hr (by first | decide | (rw [nar_b01])) (fun tS htS hWS => ⟨⟨(nI 1), (), rfl, Or.inl ⟨rfl, by simp_all⟩, trivial⟩, hS.F htS⟩) hS.2.2 dX4_fits_18
def rm_c_X4_left : Room := { frames := 0, cells := 0, slots := 0, locals := 0 }
set_option maxHeartbeats 400000 in
set_option maxRecDepth 100000 in
theorem c_X4_left (l : Launch) (D : va_G) (cI cJ cZ : ClassId) (h0 : Nat) (a1 : Nat) (a2 : Nat) (a3 : Nat) (n : Nat) (sn : Int32) (sg : Int32) (lk : Int32) (gd : Int32) (fg : Nat → Int32) (fb : Nat → Int32) (hn : n ≤ 9) : Met l yX4_left wsX4_left rm_c_X4_left (pc_ D cI cJ cZ [.ref h0, .int lk, .int gd] [(h0, .inr (4, [.ref a1, .ref a2, .ref a3, .int (nI n), .int sn, .int sg])), (a1, .inl (cI, 9, .inl fg)), (a2, .inl (cI, 9, .inl fb))]) (va_Ql (fun (r : Int64) (_ : Unit) => r = lf fg fb lk gd n) (fun _ _ => True) aN) 0 0 aN := by
  refine Met.ofW (cc := cX4_left) (maxL := 6) (ret := (some .long)) (by decide) rfl ?_
  intro p e s m args below meth c s₁ B hml hv
  obtain ⟨rfl, hP, hKN⟩ := hv
  have hK := hKN.1
  have hx := B.exec
  have hb := B.bytes
  have hr := B.returns
  have hts := atoms_spec (ws := wsX4_left) B.pre
  have hown : s.vm.findClass RX4 = some m.cls := findClass_of_methodNamed B.named
  have hlocks := B.notSynchronized
  have hiX4 : ∀ w ∈ wsX40, w ∈ wsX4_left := by decide +kernel
  have hf9 := hts (.fieldLink RX4 9 "LookBench$Shelf" "goods" "[I") (by decide +kernel)
  have hf15 := hts (.fieldLink RX4 15 "LookBench$Shelf" "bads" "[I") (by decide +kernel)
  have hf25 := hts (.fieldLink RX4 25 "LookBench$Shelf" "count" "I") (by decide +kernel)
  have hS : va_S aN s.heap s.heap [] := va_S.rf
  have hl := lv_entry ([.ref h0, .int lk, .int gd]) (n := 6) (Nat.le_of_ble_eq_true rfl)
  rw [lg_entry_eq]
  generalize (lg_sl ([.ref h0, .int lk, .int gd]) ++ List.replicate (6 - (lg_sl ([.ref h0, .int lk, .int gd])).length) Slot.unset).toArray = ls at hl ⊢
  have hl : lv_has ls 6 [(0, .ref h0), (1, .int lk), (2, .int gd)] := hl
  generalize hQ : MQ below _ _ s _ _ _ = Q
  obtain ⟨H, hH⟩ : ∃ z, z = s.heap := ⟨_, rfl⟩
  have hP : va_P D vwCl [(h0, .inr (4, [.ref a1, .ref a2, .ref a3, .int (nI n), .int sn, .int sg])), (a1, .inl (cI, 9, .inl fg)), (a2, .inl (cI, 9, .inl fb))] H := by rw [hH]; exact hP
  have hS : va_S aN s.heap H [] := by rw [hH]; exact hS
  refine m_heap hH ?_
  clear hH
  refine lv_lconst (v := lN 1) hx hb dX4_left_0 (by decide) ?_
  refine lv_lstore_n (lv' := [(3, .long (lN 1)), (0, .ref h0), (1, .int lk), (2, .int gd)]) hx hb dX4_left_1 rfl hl (by decide) rfl (fun ls hl => ?_)
  refine lv_iconst (v := nI 0) hx hb dX4_left_2 (by decide) ?_
  refine lv_istore (lv' := [(5, .int (nI 0)), (3, .long (lN 1)), (0, .ref h0), (1, .int lk), (2, .int gd)]) hx hb dX4_left_3 hl (by decide) rfl (fun ls hl => ?_)
  have loop1 : ∀ (fu : Nat) (k : Nat) (v : Int64) (H : Heap) (locs : List Loc) (ls : Array Slot), (k ≤ n ∧ n < k + fu) → (v = lf fg fb lk gd k) → va_P D vwCl [(h0, .inr (4, [.ref a1, .ref a2, .ref a3, .int (nI n), .int sn, .int sg])), (a1, .inl (cI, 9, .inl fg)), (a2, .inl (cI, 9, .inl fb))] H → va_S aN s.heap H locs → lv_has ls 6 [(5, .int (nI k)), (3, .long v), (0, .ref h0), (1, .int lk), (2, .int gd)] → W p l e (headSpec wsX4_left rm_c_X4_left).room s m ([.ref h0, .int lk, .int gd] : List Value).toArray below meth c H locs 0 0 Q (F0 m 5 ls []) := by
    intro fu
    induction fu with
    | zero => intro k v H locs ls hk hv; exact absurd hk (by omega)
    | succ fu ih1 =>
      intro k v H locs ls hk hv hP hS hl
      have hs1 := sb_lt lk k
      have hs2 := sb_lt gd k
      refine lv_iload hx hb dX4_left_5 (lv_at hl 0 rfl) ?_
      refine lv_aload_n hx hb dX4_left_7 rfl (lv_at hl 2 rfl) ?_
      refine va_get (D := D) (ci := 4) (v := .int (nI n)) (C := RX4) (T := TX4) (N := 6) hx hb hts hiX4 hown hK hP 0 rfl rfl 3 (by decide) hf25 (fun _ h9 => h9) rfl dX4_left_8 ?_
      refine lv_icmp_ge (tgt := 83) hx hb dX4_left_11 (by decide) (fun c2 => ?_) (fun c2 => ?_)
      · skip
        have d2 := c2
        rw [nI_leI (by omega) (by omega)] at d2
        refine lv_lload_n hx hb dX4_left_83 rfl (lv_at hl 1 rfl) ?_
        rw [← hQ]
        exact W.lret (v := v) hx hb hr (fun tS htS hWS => ⟨⟨v, (), rfl, by rw [hv, show k = n by omega], trivial⟩, hS.F htS⟩) hS.2.2 dX4_left_84
      · skip
        have d2 := c2
        rw [nI_leI (by omega) (by omega)] at d2
        refine lv_iload_n hx hb dX4_left_14 rfl (lv_at hl 3 rfl) ?_
        refine lv_iload hx hb dX4_left_15 (lv_at hl 0 rfl) ?_
        refine lv_ishr hx hb dX4_left_17 ?_
        refine lv_iconst (v := nI 1) hx hb dX4_left_18 (by decide) ?_
        refine lv_iand hx hb dX4_left_19 ?_
        refine cn_i (y := nI (sb lk k)) (sb_ok lk k) ?_
        refine lv_if_ne (tgt := 45) hx hb dX4_left_20 (by decide) (fun c3 => ?_) (fun c3 => ?_)
        · skip
          have d3 := c3
          rw [nz_eq (by omega)] at d3
          refine lv_lload_n hx hb dX4_left_45 rfl (lv_at hl 1 rfl) ?_
          refine lv_iload_n hx hb dX4_left_46 rfl (lv_at hl 4 rfl) ?_
          refine lv_iload hx hb dX4_left_47 (lv_at hl 0 rfl) ?_
          refine lv_ishr hx hb dX4_left_49 ?_
          refine lv_iconst (v := nI 1) hx hb dX4_left_50 (by decide) ?_
          refine lv_iand hx hb dX4_left_51 ?_
          refine cn_i (y := nI (sb gd k)) (sb_ok gd k) ?_
          refine lv_iconst (v := nI 1) hx hb dX4_left_52 (by decide) ?_
          refine lv_icmp_ne (tgt := 67) hx hb dX4_left_53 (by decide) (fun c4 => ?_) (fun c4 => ?_)
          · skip
            have d4 := c4
            rw [nI_eq (by omega) (by omega)] at d4
            refine lv_aload_n hx hb dX4_left_67 rfl (lv_at hl 2 rfl) ?_
            refine va_get (D := D) (ci := 4) (v := .ref a2) (C := RX4) (T := TX4) (N := 6) hx hb hts hiX4 hown hK hP 0 rfl rfl 1 (by decide) hf15 (fun _ h9 => h9) rfl dX4_left_68 ?_
            refine lv_iload hx hb dX4_left_71 (lv_at hl 0 rfl) ?_
            refine va_iald hx hb hK hP 2 0 rfl rfl (i := nI k) (vp_in_nI (by omega) (by omega)) dX4_left_73 ?_
            refine cn_i (y := fb k) (congrArg fb (nI_clamp (by omega))) ?_
            refine lv_i2l hx hb dX4_left_74 rfl ?_
            refine lv_lmul hx hb dX4_left_75 ?_
            refine lv_lstore_n (lv' := [(3, .long (v * ((fb k).toInt64))), (5, .int (nI k)), (0, .ref h0), (1, .int lk), (2, .int gd)]) hx hb dX4_left_76 rfl hl (by decide) rfl (fun ls hl => ?_)
            refine lv_iinc (v := nI (k + 1)) (lv' := [(5, .int (nI (k + 1))), (3, .long (v * ((fb k).toInt64))), (0, .ref h0), (1, .int lk), (2, .int gd)]) hx hb dX4_left_77 hl (k := 1) rfl (nI_1 k) (by decide) rfl (fun ls hl => ?_)
            refine lv_goto (tgt := 5) hx hb dX4_left_80 (by decide) ?_
            exact ih1 (k + 1) (v * ((fb k).toInt64)) _ _ _ (by omega) (by rw [hv]; simp only [lf]; first | rw [if_pos (by omega)] | rw [if_neg (by omega), if_pos (by omega)] | rw [if_neg (by omega), if_neg (by omega)]) hP hS (lv_sub hl [0, 1, 2, 3, 4] rfl)
          · skip
            have d4 := c4
            rw [nI_eq (by omega) (by omega)] at d4
            refine lv_aload_n hx hb dX4_left_56 rfl (lv_at hl 2 rfl) ?_
            refine va_get (D := D) (ci := 4) (v := .ref a1) (C := RX4) (T := TX4) (N := 6) hx hb hts hiX4 hown hK hP 0 rfl rfl 0 (by decide) hf9 (fun _ h9 => h9) rfl dX4_left_57 ?_
            refine lv_iload hx hb dX4_left_60 (lv_at hl 0 rfl) ?_
            refine va_iald hx hb hK hP 1 0 rfl rfl (i := nI k) (vp_in_nI (by omega) (by omega)) dX4_left_62 ?_
            refine cn_i (y := fg k) (congrArg fg (nI_clamp (by omega))) ?_
            refine lv_i2l hx hb dX4_left_63 rfl ?_
            refine lv_goto (tgt := 75) hx hb dX4_left_64 (by decide) ?_
            refine lv_lmul hx hb dX4_left_75 ?_
            refine lv_lstore_n (lv' := [(3, .long (v * ((fg k).toInt64))), (5, .int (nI k)), (0, .ref h0), (1, .int lk), (2, .int gd)]) hx hb dX4_left_76 rfl hl (by decide) rfl (fun ls hl => ?_)
            refine lv_iinc (v := nI (k + 1)) (lv' := [(5, .int (nI (k + 1))), (3, .long (v * ((fg k).toInt64))), (0, .ref h0), (1, .int lk), (2, .int gd)]) hx hb dX4_left_77 hl (k := 1) rfl (nI_1 k) (by decide) rfl (fun ls hl => ?_)
            refine lv_goto (tgt := 5) hx hb dX4_left_80 (by decide) ?_
            exact ih1 (k + 1) (v * ((fg k).toInt64)) _ _ _ (by omega) (by rw [hv]; simp only [lf]; first | rw [if_pos (by omega)] | rw [if_neg (by omega), if_pos (by omega)] | rw [if_neg (by omega), if_neg (by omega)]) hP hS (lv_sub hl [0, 1, 2, 3, 4] rfl)
        · skip
          have d3 := c3
          rw [nz_eq (by omega)] at d3
          refine lv_lload_n hx hb dX4_left_23 rfl (lv_at hl 1 rfl) ?_
          refine lv_aload_n hx hb dX4_left_24 rfl (lv_at hl 2 rfl) ?_
          refine va_get (D := D) (ci := 4) (v := .ref a1) (C := RX4) (T := TX4) (N := 6) hx hb hts hiX4 hown hK hP 0 rfl rfl 0 (by decide) hf9 (fun _ h9 => h9) rfl dX4_left_25 ?_
          refine lv_iload hx hb dX4_left_28 (lv_at hl 0 rfl) ?_
          refine va_iald hx hb hK hP 1 0 rfl rfl (i := nI k) (vp_in_nI (by omega) (by omega)) dX4_left_30 ?_
          refine cn_i (y := fg k) (congrArg fg (nI_clamp (by omega))) ?_
          refine lv_aload_n hx hb dX4_left_31 rfl (lv_at hl 2 rfl) ?_
          refine va_get (D := D) (ci := 4) (v := .ref a2) (C := RX4) (T := TX4) (N := 6) hx hb hts hiX4 hown hK hP 0 rfl rfl 1 (by decide) hf15 (fun _ h9 => h9) rfl dX4_left_32 ?_
          refine lv_iload hx hb dX4_left_35 (lv_at hl 0 rfl) ?_
          refine va_iald hx hb hK hP 2 0 rfl rfl (i := nI k) (vp_in_nI (by omega) (by omega)) dX4_left_37 ?_
          refine cn_i (y := fb k) (congrArg fb (nI_clamp (by omega))) ?_
          refine lv_iadd hx hb dX4_left_38 ?_
          refine lv_i2l hx hb dX4_left_39 rfl ?_
          refine lv_lmul hx hb dX4_left_40 ?_
          refine lv_lstore_n (lv' := [(3, .long (v * (((fg k) + (fb k)).toInt64))), (5, .int (nI k)), (0, .ref h0), (1, .int lk), (2, .int gd)]) hx hb dX4_left_41 rfl hl (by decide) rfl (fun ls hl => ?_)
          refine lv_goto (tgt := 77) hx hb dX4_left_42 (by decide) ?_
          refine lv_iinc (v := nI (k + 1)) (lv' := [(5, .int (nI (k + 1))), (3, .long (v * (((fg k) + (fb k)).toInt64))), (0, .ref h0), (1, .int lk), (2, .int gd)]) hx hb dX4_left_77 hl (k := 1) rfl (nI_1 k) (by decide) rfl (fun ls hl => ?_)
          refine lv_goto (tgt := 5) hx hb dX4_left_80 (by decide) ?_
          exact ih1 (k + 1) (v * (((fg k) + (fb k)).toInt64)) _ _ _ (by omega) (by rw [hv]; simp only [lf]; first | rw [if_pos (by omega)] | rw [if_neg (by omega), if_pos (by omega)] | rw [if_neg (by omega), if_neg (by omega)]) hP hS (lv_sub hl [0, 1, 2, 3, 4] rfl)
  exact loop1 (n + 1) 0 (lN 1) _ _ _ (by omega) rfl hP hS (lv_sub hl [0, 1, 2, 3, 4] rfl)
def rm_c_X4_weight : Room := { frames := 1, cells := 0, slots := 0, locals := 25 }
set_option maxHeartbeats 400000 in
set_option maxRecDepth 100000 in
theorem c_X4_weight (l : Launch) (D : va_G) (cI cJ cZ : ClassId) (h0 : Nat) (a1 : Nat) (a2 : Nat) (a3 : Nat) (n : Nat) (sn : Int32) (sg : Int32) (st : Int32) (fg : Nat → Int32) (fb : Nat → Int32) (hn : n ≤ 9) : Met l yX4_weight wsX4_weight rm_c_X4_weight (pc_ D cI cJ cZ [.ref h0, .int st] [(h0, .inr (4, [.ref a1, .ref a2, .ref a3, .int (nI n), .int sn, .int sg])), (a1, .inl (cI, 9, .inl fg)), (a2, .inl (cI, 9, .inl fb))]) (va_Ql (fun (r : Int64) (_ : Unit) => r = lf fg fb (nI (2 ^ n - 1)) st n) (fun _ _ => True) aN) 0 0 aN := by
  refine Met.ofW (cc := cX4_weight) (maxL := 2) (ret := (some .long)) (by decide) rfl ?_
  intro p e s m args below meth c s₁ B hml hv
  obtain ⟨rfl, hP, hKN⟩ := hv
  have hK := hKN.1
  have hx := B.exec
  have hb := B.bytes
  have hr := B.returns
  have hts := atoms_spec (ws := wsX4_weight) B.pre
  have hown : s.vm.findClass RX4 = some m.cls := findClass_of_methodNamed B.named
  have hlocks := B.notSynchronized
  have hiX4 : ∀ w ∈ wsX40, w ∈ wsX4_weight := by decide +kernel
  have hf25 := hts (.fieldLink RX4 25 "LookBench$Shelf" "count" "I") (by decide +kernel)
  have hS : va_S aN s.heap s.heap [] := va_S.rf
  have hl := lv_entry ([.ref h0, .int st]) (n := 2) (Nat.le_of_ble_eq_true rfl)
  rw [lg_entry_eq]
  generalize (lg_sl ([.ref h0, .int st]) ++ List.replicate (2 - (lg_sl ([.ref h0, .int st])).length) Slot.unset).toArray = ls at hl ⊢
  have hl : lv_has ls 2 [(0, .ref h0), (1, .int st)] := hl
  generalize hQ : MQ below _ _ s _ _ _ = Q
  obtain ⟨H, hH⟩ : ∃ z, z = s.heap := ⟨_, rfl⟩
  have hP : va_P D vwCl [(h0, .inr (4, [.ref a1, .ref a2, .ref a3, .int (nI n), .int sn, .int sg])), (a1, .inl (cI, 9, .inl fg)), (a2, .inl (cI, 9, .inl fb))] H := by rw [hH]; exact hP
  have hS : va_S aN s.heap H [] := by rw [hH]; exact hS
  refine m_heap hH ?_
  clear hH
  have h2n := m_pow hn
  have h2p := m_powp n
  refine lv_aload_n hx hb dX4_weight_0 rfl (lv_at hl 0 rfl) ?_
  refine lv_iconst (v := nI 1) hx hb dX4_weight_1 (by decide) ?_
  refine lv_aload_n hx hb dX4_weight_2 rfl (lv_at hl 0 rfl) ?_
  refine va_get (D := D) (ci := 4) (v := .int (nI n)) (C := RX4) (T := TX4) (N := 6) hx hb hts hiX4 hown hK hP 0 rfl rfl 3 (by decide) hf25 (fun _ h9 => h9) rfl dX4_weight_3 ?_
  refine lv_ishl hx hb dX4_weight_6 ?_
  refine cn_i (y := nI (2 ^ n)) (m_shl1 (by omega)) ?_
  refine lv_iconst (v := nI 1) hx hb dX4_weight_7 (by decide) ?_
  refine lv_isub hx hb dX4_weight_8 ?_
  refine cn_i (y := nI ((2 ^ n) - 1)) (pk_sub (a := (2 ^ n)) (b := 1) (by omega)) ?_
  refine lv_iload_n hx hb dX4_weight_9 rfl (lv_at hl 1 rfl) ?_
  refine pu_l (va_runV (As := [.int (nI ((2 ^ n) - 1)), .int st]) (rest := []) ⟨hx, hb, hml, hown, hts⟩ (c_X4_left l D cI cJ cZ h0 a1 a2 a3 n sn sg (nI ((2 ^ n) - 1)) st fg fb (by first | assumption | omega)) (cwV 2 hts gX4_weight_X4_left rfl rfl rfl (by decide +kernel) ⟨Nat.le_of_ble_eq_true rfl, Nat.le_of_ble_eq_true rfl⟩) ⟨pc_blind, va_recv hK hP (ci := 4) (q0 := 0) rfl rfl, fun U hU hW => ⟨rfl, by rw [hU]; exact hP.sub (ws' := [(h0, .inr (4, [.ref a1, .ref a2, .ref a3, .int (nI n), .int sn, .int sg])), (a1, .inl (cI, 9, .inl fg)), (a2, .inl (cI, 9, .inl fb))]) [0, 1, 2] rfl, hKN.warm hW⟩⟩ rfl rfl hl.1 rfl (lv_room (Nat.le_of_ble_eq_true rfl)) dX4_weight_10 ⟨Nat.le_of_ble_eq_true rfl, Nat.le_of_ble_eq_true rfl⟩) hS hP (fun r1 H locs w1r hP hS => ?_)
  have w1 : r1 = lf fg fb (nI ((2 ^ n) - 1)) st n := w1r
  clear w1r
  rw [← hQ]
  exact W.lret (v := r1) hx hb hr (fun tS htS hWS => ⟨⟨r1, (), rfl, w1, trivial⟩, hS.F htS⟩) hS.2.2 dX4_weight_13
def rm_c_X4_priceOfSet : Room := { frames := 0, cells := 0, slots := 0, locals := 0 }
set_option maxHeartbeats 400000 in
set_option maxRecDepth 100000 in
theorem c_X4_priceOfSet (l : Launch) (D : va_G) (cI cJ cZ : ClassId) (h0 : Nat) (a1 : Nat) (a2 : Nat) (a3 : Nat) (n : Nat) (sn : Int32) (sg : Int32) (st : Int32) (fp : Nat → Int32) (hn : n ≤ 9) : Met l yX4_priceOfSet wsX4_priceOfSet rm_c_X4_priceOfSet (pc_ D cI cJ cZ [.ref h0, .int st] [(h0, .inr (4, [.ref a1, .ref a2, .ref a3, .int (nI n), .int sn, .int sg])), (a3, .inl (cI, 9, .inl fp))]) (va_Qi (fun (r : Int32) (_ : Unit) => r = pf fp st n) (fun _ _ => True) aN) 0 0 aN := by
  refine Met.ofW (cc := cX4_priceOfSet) (maxL := 4) (ret := (some .int)) (by decide) rfl ?_
  intro p e s m args below meth c s₁ B hml hv
  obtain ⟨rfl, hP, hKN⟩ := hv
  have hK := hKN.1
  have hx := B.exec
  have hb := B.bytes
  have hr := B.returns
  have hts := atoms_spec (ws := wsX4_priceOfSet) B.pre
  have hown : s.vm.findClass RX4 = some m.cls := findClass_of_methodNamed B.named
  have hlocks := B.notSynchronized
  have hiX4 : ∀ w ∈ wsX40, w ∈ wsX4_priceOfSet := by decide +kernel
  have hf18 := hts (.fieldLink RX4 18 "LookBench$Shelf" "prices" "[I") (by decide +kernel)
  have hf25 := hts (.fieldLink RX4 25 "LookBench$Shelf" "count" "I") (by decide +kernel)
  have hS : va_S aN s.heap s.heap [] := va_S.rf
  have hl := lv_entry ([.ref h0, .int st]) (n := 4) (Nat.le_of_ble_eq_true rfl)
  rw [lg_entry_eq]
  generalize (lg_sl ([.ref h0, .int st]) ++ List.replicate (4 - (lg_sl ([.ref h0, .int st])).length) Slot.unset).toArray = ls at hl ⊢
  have hl : lv_has ls 4 [(0, .ref h0), (1, .int st)] := hl
  generalize hQ : MQ below _ _ s _ _ _ = Q
  obtain ⟨H, hH⟩ : ∃ z, z = s.heap := ⟨_, rfl⟩
  have hP : va_P D vwCl [(h0, .inr (4, [.ref a1, .ref a2, .ref a3, .int (nI n), .int sn, .int sg])), (a3, .inl (cI, 9, .inl fp))] H := by rw [hH]; exact hP
  have hS : va_S aN s.heap H [] := by rw [hH]; exact hS
  refine m_heap hH ?_
  clear hH
  refine lv_iconst (v := nI 0) hx hb dX4_priceOfSet_0 (by decide) ?_
  refine lv_istore_n (lv' := [(2, .int (nI 0)), (0, .ref h0), (1, .int st)]) hx hb dX4_priceOfSet_1 rfl hl (by decide) rfl (fun ls hl => ?_)
  refine lv_iconst (v := nI 0) hx hb dX4_priceOfSet_2 (by decide) ?_
  refine lv_istore_n (lv' := [(3, .int (nI 0)), (2, .int (nI 0)), (0, .ref h0), (1, .int st)]) hx hb dX4_priceOfSet_3 rfl hl (by decide) rfl (fun ls hl => ?_)
  have loop1 : ∀ (fu : Nat) (k : Nat) (v : Int32) (H : Heap) (locs : List Loc) (ls : Array Slot), (k ≤ n ∧ n < k + fu) → (v = pf fp st k) → va_P D vwCl [(h0, .inr (4, [.ref a1, .ref a2, .ref a3, .int (nI n), .int sn, .int sg])), (a3, .inl (cI, 9, .inl fp))] H → va_S aN s.heap H locs → lv_has ls 4 [(3, .int (nI k)), (2, .int v), (0, .ref h0), (1, .int st)] → W p l e (headSpec wsX4_priceOfSet rm_c_X4_priceOfSet).room s m ([.ref h0, .int st] : List Value).toArray below meth c H locs 0 0 Q (F0 m 4 ls []) := by
    intro fu
    induction fu with
    | zero => intro k v H locs ls hk hv; exact absurd hk (by omega)
    | succ fu ih1 =>
      intro k v H locs ls hk hv hP hS hl
      have hs1 := sb_lt st k
      refine lv_iload_n hx hb dX4_priceOfSet_4 rfl (lv_at hl 0 rfl) ?_
      refine lv_aload_n hx hb dX4_priceOfSet_5 rfl (lv_at hl 2 rfl) ?_
      refine va_get (D := D) (ci := 4) (v := .int (nI n)) (C := RX4) (T := TX4) (N := 6) hx hb hts hiX4 hown hK hP 0 rfl rfl 3 (by decide) hf25 (fun _ h9 => h9) rfl dX4_priceOfSet_6 ?_
      refine lv_icmp_ge (tgt := 36) hx hb dX4_priceOfSet_9 (by decide) (fun c2 => ?_) (fun c2 => ?_)
      · skip
        have d2 := c2
        rw [nI_leI (by omega) (by omega)] at d2
        refine lv_iload_n hx hb dX4_priceOfSet_36 rfl (lv_at hl 1 rfl) ?_
        rw [← hQ]
        exact W.iret (v := v) hx hb hr (fun tS htS hWS => ⟨⟨v, (), rfl, by rw [hv, show k = n by omega], trivial⟩, hS.F htS⟩) hS.2.2 dX4_priceOfSet_37
      · skip
        have d2 := c2
        rw [nI_leI (by omega) (by omega)] at d2
        refine lv_iload_n hx hb dX4_priceOfSet_12 rfl (lv_at hl 3 rfl) ?_
        refine lv_iload_n hx hb dX4_priceOfSet_13 rfl (lv_at hl 0 rfl) ?_
        refine lv_ishr hx hb dX4_priceOfSet_14 ?_
        refine lv_iconst (v := nI 1) hx hb dX4_priceOfSet_15 (by decide) ?_
        refine lv_iand hx hb dX4_priceOfSet_16 ?_
        refine cn_i (y := nI (sb st k)) (sb_ok st k) ?_
        refine lv_iconst (v := nI 1) hx hb dX4_priceOfSet_17 (by decide) ?_
        refine lv_icmp_ne (tgt := 30) hx hb dX4_priceOfSet_18 (by decide) (fun c3 => ?_) (fun c3 => ?_)
        · skip
          have d3 := c3
          rw [nI_eq (by omega) (by omega)] at d3
          refine lv_iinc (v := nI (k + 1)) (lv' := [(3, .int (nI (k + 1))), (2, .int v), (0, .ref h0), (1, .int st)]) hx hb dX4_priceOfSet_30 hl (k := 0) rfl (nI_1 k) (by decide) rfl (fun ls hl => ?_)
          refine lv_goto (tgt := 4) hx hb dX4_priceOfSet_33 (by decide) ?_
          exact ih1 (k + 1) v _ _ _ (by omega) (by rw [hv]; simp only [pf]; first | rw [if_pos (by omega)] | rw [if_neg (by omega)]) hP hS (lv_sub hl [0, 1, 2, 3] rfl)
        · skip
          have d3 := c3
          rw [nI_eq (by omega) (by omega)] at d3
          refine lv_iload_n hx hb dX4_priceOfSet_21 rfl (lv_at hl 1 rfl) ?_
          refine lv_aload_n hx hb dX4_priceOfSet_22 rfl (lv_at hl 2 rfl) ?_
          refine va_get (D := D) (ci := 4) (v := .ref a3) (C := RX4) (T := TX4) (N := 6) hx hb hts hiX4 hown hK hP 0 rfl rfl 2 (by decide) hf18 (fun _ h9 => h9) rfl dX4_priceOfSet_23 ?_
          refine lv_iload_n hx hb dX4_priceOfSet_26 rfl (lv_at hl 0 rfl) ?_
          refine va_iald hx hb hK hP 1 0 rfl rfl (i := nI k) (vp_in_nI (by omega) (by omega)) dX4_priceOfSet_27 ?_
          refine cn_i (y := fp k) (congrArg fp (nI_clamp (by omega))) ?_
          refine lv_iadd hx hb dX4_priceOfSet_28 ?_
          refine lv_istore_n (lv' := [(2, .int (v + (fp k))), (3, .int (nI k)), (0, .ref h0), (1, .int st)]) hx hb dX4_priceOfSet_29 rfl hl (by decide) rfl (fun ls hl => ?_)
          refine lv_iinc (v := nI (k + 1)) (lv' := [(3, .int (nI (k + 1))), (2, .int (v + (fp k))), (0, .ref h0), (1, .int st)]) hx hb dX4_priceOfSet_30 hl (k := 1) rfl (nI_1 k) (by decide) rfl (fun ls hl => ?_)
          refine lv_goto (tgt := 4) hx hb dX4_priceOfSet_33 (by decide) ?_
          exact ih1 (k + 1) (v + (fp k)) _ _ _ (by omega) (by rw [hv]; simp only [pf]; first | rw [if_pos (by omega)] | rw [if_neg (by omega)]) hP hS (lv_sub hl [0, 1, 2, 3] rfl)
  exact loop1 (n + 1) 0 (nI 0) _ _ _ (by omega) rfl hP hS (lv_sub hl [0, 1, 2, 3] rfl)
