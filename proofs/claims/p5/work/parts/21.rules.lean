
theorem m_and63 {t : Nat} (h : t < 2 ^ 31) : nI t &&& nI 63 = nI (t % 64) := pk_andN (by omega) 6 (by decide)
theorem m_andn1 {a : Nat} (h : a < 2 ^ 31) : nI a &&& nI 1 = nI (a % 2) := pk_andN (by omega) 1 (by decide)
/-- the bit of a rule at a setting -/
def isG (fw : Nat → Int64) (a t : Nat) : Prop := ¬ (((fw (a * 8 + t / 2 ^ 6)).toUInt64 >>> ((nI (t % 64)).toInt64.toUInt64 &&& Int64.toUInt64 63)).toInt64 &&& lN 1 = lN 0)
def mkG (fw : Nat → Int64) (a t : Nat) : Nat → Int64 := vp_updL fw (a * 8 + t / 2 ^ 6) (fw (a * 8 + t / 2 ^ 6) ||| (lN 1 <<< ((nI (t % 64)).toInt64 &&& 63)))
def rm_c_X3_begin : Room := { frames := 0, cells := 0, slots := 0, locals := 0 }
set_option maxHeartbeats 400000 in
set_option maxRecDepth 100000 in
theorem c_X3_begin (l : Launch) (D : va_G) (cI cJ cZ : ClassId) (h0 : Nat) (b1 : Nat) (b2 : Nat) (pt : Int32) (rc : Int32) (ry : Int32) (n0 : Int32)  : Met l yX3_begin wsX3_begin rm_c_X3_begin (pm_ D cI cJ cZ [.ref h0, .int n0] [(h0, .inr (3, [.ref b1, .ref b2, .int pt, .int rc, .int ry]))]) (va_Qv (fun (u : Unit) => True) (fun (u : Unit) tS => va_P D vwCl [(h0, .inr (3, [.ref b1, .ref b2, .int n0, .int (nI 0), .int (-1 : Int32)]))] tS.heap) (aA [h0])) 0 0 (aA [h0]) := by
  refine Met.ofW (cc := cX3_begin) (maxL := 2) (ret := none) (by decide) rfl ?_
  intro p e s m args below meth c s₁ B hml hv
  obtain ⟨rfl, hP, hKN, hD0⟩ := hv
  have hK := hKN.1
  have hx := B.exec
  have hb := B.bytes
  have hr := B.returns
  have hts := atoms_spec (ws := wsX3_begin) B.pre
  have hown : s.vm.findClass RX3 = some m.cls := findClass_of_methodNamed B.named
  have hlocks := B.notSynchronized
  have hiX3 : ∀ w ∈ wsX30, w ∈ wsX3_begin := by decide +kernel
  have hf23 := hts (.fieldLink RX3 23 "LookBench$Rules" "parts" "I") (by decide +kernel)
  have hf27 := hts (.fieldLink RX3 27 "LookBench$Rules" "count" "I") (by decide +kernel)
  have hf30 := hts (.fieldLink RX3 30 "LookBench$Rules" "system" "I") (by decide +kernel)
  obtain ⟨as, has⟩ : ∃ z : List Nat, z = [h0] := ⟨_, rfl⟩
  have hD := hD0.addr (as := as) (by rw [has]; rfl)
  have hS : va_S (aA as) s.heap s.heap [] := va_S.rf
  have hl := lv_entry ([.ref h0, .int n0]) (n := 2) (Nat.le_of_ble_eq_true rfl)
  rw [lg_entry_eq]
  generalize (lg_sl ([.ref h0, .int n0]) ++ List.replicate (2 - (lg_sl ([.ref h0, .int n0])).length) Slot.unset).toArray = ls at hl ⊢
  have hl : lv_has ls 2 [(0, .ref h0), (1, .int n0)] := hl
  generalize hQ : MQ below _ _ s _ _ _ = Q
  obtain ⟨H, hH⟩ : ∃ z, z = s.heap := ⟨_, rfl⟩
  have hP : va_P D vwCl [(h0, .inr (3, [.ref b1, .ref b2, .int pt, .int rc, .int ry]))] H := by rw [hH]; exact hP
  have hS : va_S (aA as) s.heap H [] := by rw [hH]; exact hS
  refine m_heap hH ?_
  clear hH
  refine lv_aload_n hx hb dX3_begin_0 rfl (lv_at hl 0 rfl) ?_
  refine lv_iload_n hx hb dX3_begin_1 rfl (lv_at hl 1 rfl) ?_
  refine va_put (D := D) (ci := 3) (v := .int n0) (ty := tyX3 2) (C := RX3) (T := TX3) (N := 5) hx hb hts hiX3 tyX3 tyX3_ok nmX3 hown hK hP hD hS 0 rfl rfl 2 (by decide) hf23 (fun _ h9 => h9) rfl (by decide +kernel) rfl rfl (Nat.le_of_ble_eq_true rfl) dX3_begin_2 (fun H locs hP hD hS => ?_)
  have hP : va_P D vwCl [(h0, .inr (3, [.ref b1, .ref b2, .int n0, .int rc, .int ry]))] H := hP
  have hD : va_D (aA as) [(h0, .inr (3, [.ref b1, .ref b2, .int n0, .int rc, .int ry]))] := hD
  refine lv_aload_n hx hb dX3_begin_5 rfl (lv_at hl 0 rfl) ?_
  refine lv_iconst (v := nI 0) hx hb dX3_begin_6 (by decide) ?_
  refine va_put (D := D) (ci := 3) (v := .int (nI 0)) (ty := tyX3 3) (C := RX3) (T := TX3) (N := 5) hx hb hts hiX3 tyX3 tyX3_ok nmX3 hown hK hP hD hS 0 rfl rfl 3 (by decide) hf27 (fun _ h9 => h9) rfl (by decide +kernel) rfl rfl (Nat.le_of_ble_eq_true rfl) dX3_begin_7 (fun H locs hP hD hS => ?_)
  have hP : va_P D vwCl [(h0, .inr (3, [.ref b1, .ref b2, .int n0, .int (nI 0), .int ry]))] H := hP
  have hD : va_D (aA as) [(h0, .inr (3, [.ref b1, .ref b2, .int n0, .int (nI 0), .int ry]))] := hD
  refine lv_aload_n hx hb dX3_begin_10 rfl (lv_at hl 0 rfl) ?_
  refine lv_iconst (v := (-1 : Int32)) hx hb dX3_begin_11 (by decide) ?_
  refine va_put (D := D) (ci := 3) (v := .int (-1 : Int32)) (ty := tyX3 4) (C := RX3) (T := TX3) (N := 5) hx hb hts hiX3 tyX3 tyX3_ok nmX3 hown hK hP hD hS 0 rfl rfl 4 (by decide) hf30 (fun _ h9 => h9) rfl (by decide +kernel) rfl rfl (Nat.le_of_ble_eq_true rfl) dX3_begin_12 (fun H locs hP hD hS => ?_)
  have hP : va_P D vwCl [(h0, .inr (3, [.ref b1, .ref b2, .int n0, .int (nI 0), .int (-1 : Int32)]))] H := hP
  have hD : va_D (aA as) [(h0, .inr (3, [.ref b1, .ref b2, .int n0, .int (nI 0), .int (-1 : Int32)]))] := hD
  rw [← hQ]
  exact W.vret hx hb hr (fun tS htS hWS => ⟨⟨(), rfl, trivial, m_at htS hP⟩, by rw [← has]; exact hS.F htS⟩) (by rw [← has]; exact hS.2.2) dX3_begin_15
def rm_c_X3_has : Room := { frames := 0, cells := 0, slots := 0, locals := 0 }
set_option maxHeartbeats 400000 in
set_option maxRecDepth 100000 in
theorem c_X3_has (l : Launch) (D : va_G) (cI cJ cZ : ClassId) (h0 : Nat) (b1 : Nat) (b2 : Nat) (c0 : Nat) (pt : Int32) (ry : Int32) (p0 : Int32) (hc : c0 ≤ 40) : Met l yX3_has wsX3_has rm_c_X3_has (pc_ D cI cJ cZ [.ref h0, .int p0] [(h0, .inr (3, [.ref b1, .ref b2, .int pt, .int (nI c0), .int ry]))]) (va_Qi (fun (r : Int32) (_ : Unit) => B01 r (0 ≤ p0.toInt ∧ p0.toInt < c0)) (fun _ _ => True) aN) 0 0 aN := by
  refine Met.ofW (cc := cX3_has) (maxL := 2) (ret := (some .boolean)) (by decide) rfl ?_
  intro p e s m args below meth c s₁ B hml hv
  obtain ⟨rfl, hP, hKN⟩ := hv
  have hK := hKN.1
  have hx := B.exec
  have hb := B.bytes
  have hr := B.returns
  have hts := atoms_spec (ws := wsX3_has) B.pre
  have hown : s.vm.findClass RX3 = some m.cls := findClass_of_methodNamed B.named
  have hlocks := B.notSynchronized
  have hiX3 : ∀ w ∈ wsX30, w ∈ wsX3_has := by decide +kernel
  have hf27 := hts (.fieldLink RX3 27 "LookBench$Rules" "count" "I") (by decide +kernel)
  have hS : va_S aN s.heap s.heap [] := va_S.rf
  have hl := lv_entry ([.ref h0, .int p0]) (n := 2) (Nat.le_of_ble_eq_true rfl)
  rw [lg_entry_eq]
  generalize (lg_sl ([.ref h0, .int p0]) ++ List.replicate (2 - (lg_sl ([.ref h0, .int p0])).length) Slot.unset).toArray = ls at hl ⊢
  have hl : lv_has ls 2 [(0, .ref h0), (1, .int p0)] := hl
  generalize hQ : MQ below _ _ s _ _ _ = Q
  obtain ⟨H, hH⟩ : ∃ z, z = s.heap := ⟨_, rfl⟩
  have hP : va_P D vwCl [(h0, .inr (3, [.ref b1, .ref b2, .int pt, .int (nI c0), .int ry]))] H := by rw [hH]; exact hP
  have hS : va_S aN s.heap H [] := by rw [hH]; exact hS
  refine m_heap hH ?_
  clear hH
  refine lv_iload_n hx hb dX3_has_0 rfl (lv_at hl 1 rfl) ?_
  refine lv_if_lt (tgt := 16) hx hb dX3_has_1 (by decide) (fun c1 => ?_) (fun c1 => ?_)
  · skip
    have d1 := c1
    rw [i_lt, i_z] at d1
    refine lv_iconst (v := nI 0) hx hb dX3_has_16 (by decide) ?_
    rw [← hQ]
    exact W.zret (v := nI 0) hx hb hr (by first | decide | (rw [nar_b01])) (fun tS htS hWS => ⟨⟨(nI 0), (), rfl, Or.inr ⟨rfl, by omega⟩, trivial⟩, hS.F htS⟩) hS.2.2 dX3_has_17
  · skip
    have d1 := c1
    rw [i_lt, i_z] at d1
    refine lv_iload_n hx hb dX3_has_4 rfl (lv_at hl 1 rfl) ?_
    refine lv_aload_n hx hb dX3_has_5 rfl (lv_at hl 0 rfl) ?_
    refine va_get (D := D) (ci := 3) (v := .int (nI c0)) (C := RX3) (T := TX3) (N := 5) hx hb hts hiX3 hown hK hP 0 rfl rfl 3 (by decide) hf27 (fun _ h9 => h9) rfl dX3_has_6 ?_
    refine lv_icmp_ge (tgt := 16) hx hb dX3_has_9 (by decide) (fun c2 => ?_) (fun c2 => ?_)
    · skip
      have d2 := c2
      rw [i_le, nI_toInt (n := c0) (by omega)] at d2
      refine lv_iconst (v := nI 0) hx hb dX3_has_16 (by decide) ?_
      rw [← hQ]
      exact W.zret (v := nI 0) hx hb hr (by first | decide | (rw [nar_b01])) (fun tS htS hWS => ⟨⟨(nI 0), (), rfl, Or.inr ⟨rfl, by omega⟩, trivial⟩, hS.F htS⟩) hS.2.2 dX3_has_17
    · skip
      have d2 := c2
      rw [i_le, nI_toInt (n := c0) (by omega)] at d2
      refine lv_iconst (v := nI 1) hx hb dX3_has_12 (by decide) ?_
      refine lv_goto (tgt := 17) hx hb dX3_has_13 (by decide) ?_
      rw [← hQ]
      exact W.zret (v := nI 1) hx hb hr (by first | decide | (rw [nar_b01])) (fun tS htS hWS => ⟨⟨(nI 1), (), rfl, Or.inl ⟨rfl, by omega⟩, trivial⟩, hS.F htS⟩) hS.2.2 dX3_has_17
def rm_c_X3_hasRoom : Room := { frames := 0, cells := 0, slots := 0, locals := 0 }
set_option maxHeartbeats 400000 in
set_option maxRecDepth 100000 in
theorem c_X3_hasRoom (l : Launch) (D : va_G) (cI cJ cZ : ClassId) (h0 : Nat) (b1 : Nat) (b2 : Nat) (c0 : Nat) (pt : Int32) (ry : Int32) (hc : c0 ≤ 40) : Met l yX3_hasRoom wsX3_hasRoom rm_c_X3_hasRoom (pc_ D cI cJ cZ [.ref h0] [(h0, .inr (3, [.ref b1, .ref b2, .int pt, .int (nI c0), .int ry]))]) (va_Qi (fun (r : Int32) (_ : Unit) => B01 r (c0 < 40)) (fun _ _ => True) aN) 0 0 aN := by
  refine Met.ofW (cc := cX3_hasRoom) (maxL := 1) (ret := (some .boolean)) (by decide) rfl ?_
  intro p e s m args below meth c s₁ B hml hv
  obtain ⟨rfl, hP, hKN⟩ := hv
  have hK := hKN.1
  have hx := B.exec
  have hb := B.bytes
  have hr := B.returns
  have hts := atoms_spec (ws := wsX3_hasRoom) B.pre
  have hown : s.vm.findClass RX3 = some m.cls := findClass_of_methodNamed B.named
  have hlocks := B.notSynchronized
  have hiX3 : ∀ w ∈ wsX30, w ∈ wsX3_hasRoom := by decide +kernel
  have hf27 := hts (.fieldLink RX3 27 "LookBench$Rules" "count" "I") (by decide +kernel)
  have hS : va_S aN s.heap s.heap [] := va_S.rf
  have hl := lv_entry ([.ref h0]) (n := 1) (Nat.le_of_ble_eq_true rfl)
  rw [lg_entry_eq]
  generalize (lg_sl ([.ref h0]) ++ List.replicate (1 - (lg_sl ([.ref h0])).length) Slot.unset).toArray = ls at hl ⊢
  have hl : lv_has ls 1 [(0, .ref h0)] := hl
  generalize hQ : MQ below _ _ s _ _ _ = Q
  obtain ⟨H, hH⟩ : ∃ z, z = s.heap := ⟨_, rfl⟩
  have hP : va_P D vwCl [(h0, .inr (3, [.ref b1, .ref b2, .int pt, .int (nI c0), .int ry]))] H := by rw [hH]; exact hP
  have hS : va_S aN s.heap H [] := by rw [hH]; exact hS
  refine m_heap hH ?_
  clear hH
  refine lv_aload_n hx hb dX3_hasRoom_0 rfl (lv_at hl 0 rfl) ?_
  refine va_get (D := D) (ci := 3) (v := .int (nI c0)) (C := RX3) (T := TX3) (N := 5) hx hb hts hiX3 hown hK hP 0 rfl rfl 3 (by decide) hf27 (fun _ h9 => h9) rfl dX3_hasRoom_1 ?_
  refine lv_bipush (v := nI 40) hx hb dX3_hasRoom_4 (by decide) ?_
  refine lv_icmp_ge (tgt := 13) hx hb dX3_hasRoom_6 (by decide) (fun c1 => ?_) (fun c1 => ?_)
  · skip
    have d1 := c1
    rw [nI_leI (by omega) (by omega)] at d1
    refine lv_iconst (v := nI 0) hx hb dX3_hasRoom_13 (by decide) ?_
    rw [← hQ]
    exact W.zret (v := nI 0) hx hb hr (by first | decide | (rw [nar_b01])) (fun tS htS hWS => ⟨⟨(nI 0), (), rfl, Or.inr ⟨rfl, by omega⟩, trivial⟩, hS.F htS⟩) hS.2.2 dX3_hasRoom_14
  · skip
    have d1 := c1
    rw [nI_leI (by omega) (by omega)] at d1
    refine lv_iconst (v := nI 1) hx hb dX3_hasRoom_9 (by decide) ?_
    refine lv_goto (tgt := 14) hx hb dX3_hasRoom_10 (by decide) ?_
    rw [← hQ]
    exact W.zret (v := nI 1) hx hb hr (by first | decide | (rw [nar_b01])) (fun tS htS hWS => ⟨⟨(nI 1), (), rfl, Or.inl ⟨rfl, by omega⟩, trivial⟩, hS.F htS⟩) hS.2.2 dX3_hasRoom_14
def rm_c_X3_hasSystem : Room := { frames := 1, cells := 0, slots := 0, locals := 21 }
set_option maxHeartbeats 400000 in
set_option maxRecDepth 100000 in
theorem c_X3_hasSystem (l : Launch) (D : va_G) (cI cJ cZ : ClassId) (h0 : Nat) (b1 : Nat) (b2 : Nat) (c0 : Nat) (pt : Int32) (ry : Int32) (hc : c0 ≤ 40) : Met l yX3_hasSystem wsX3_hasSystem rm_c_X3_hasSystem (pc_ D cI cJ cZ [.ref h0] [(h0, .inr (3, [.ref b1, .ref b2, .int pt, .int (nI c0), .int ry]))]) (va_Qi (fun (r : Int32) (_ : Unit) => B01 r (0 ≤ ry.toInt ∧ ry.toInt < c0)) (fun _ _ => True) aN) 0 0 aN := by
  refine Met.ofW (cc := cX3_hasSystem) (maxL := 1) (ret := (some .boolean)) (by decide) rfl ?_
  intro p e s m args below meth c s₁ B hml hv
  obtain ⟨rfl, hP, hKN⟩ := hv
  have hK := hKN.1
  have hx := B.exec
  have hb := B.bytes
  have hr := B.returns
  have hts := atoms_spec (ws := wsX3_hasSystem) B.pre
  have hown : s.vm.findClass RX3 = some m.cls := findClass_of_methodNamed B.named
  have hlocks := B.notSynchronized
  have hiX3 : ∀ w ∈ wsX30, w ∈ wsX3_hasSystem := by decide +kernel
  have hf30 := hts (.fieldLink RX3 30 "LookBench$Rules" "system" "I") (by decide +kernel)
  have hS : va_S aN s.heap s.heap [] := va_S.rf
  have hl := lv_entry ([.ref h0]) (n := 1) (Nat.le_of_ble_eq_true rfl)
  rw [lg_entry_eq]
  generalize (lg_sl ([.ref h0]) ++ List.replicate (1 - (lg_sl ([.ref h0])).length) Slot.unset).toArray = ls at hl ⊢
  have hl : lv_has ls 1 [(0, .ref h0)] := hl
  generalize hQ : MQ below _ _ s _ _ _ = Q
  obtain ⟨H, hH⟩ : ∃ z, z = s.heap := ⟨_, rfl⟩
  have hP : va_P D vwCl [(h0, .inr (3, [.ref b1, .ref b2, .int pt, .int (nI c0), .int ry]))] H := by rw [hH]; exact hP
  have hS : va_S aN s.heap H [] := by rw [hH]; exact hS
  refine m_heap hH ?_
  clear hH
  refine lv_aload_n hx hb dX3_hasSystem_0 rfl (lv_at hl 0 rfl) ?_
  refine lv_aload_n hx hb dX3_hasSystem_1 rfl (lv_at hl 0 rfl) ?_
  refine va_get (D := D) (ci := 3) (v := .int ry) (C := RX3) (T := TX3) (N := 5) hx hb hts hiX3 hown hK hP 0 rfl rfl 4 (by decide) hf30 (fun _ h9 => h9) rfl dX3_hasSystem_2 ?_
  refine pu_i (va_runV (As := [.int ry]) (rest := []) ⟨hx, hb, hml, hown, hts⟩ (c_X3_has l D cI cJ cZ h0 b1 b2 c0 pt ry ry (by first | assumption | omega)) (cwV 1 hts gX3_hasSystem_X3_has rfl rfl rfl (by decide +kernel) ⟨Nat.le_of_ble_eq_true rfl, Nat.le_of_ble_eq_true rfl⟩) ⟨pc_blind, va_recv hK hP (ci := 3) (q0 := 0) rfl rfl, fun U hU hW => ⟨rfl, by rw [hU]; exact hP.sub (ws' := [(h0, .inr (3, [.ref b1, .ref b2, .int pt, .int (nI c0), .int ry]))]) [0] rfl, hKN.warm hW⟩⟩ rfl rfl hl.1 rfl (lv_room (Nat.le_of_ble_eq_true rfl)) dX3_hasSystem_5 ⟨Nat.le_of_ble_eq_true rfl, Nat.le_of_ble_eq_true rfl⟩) hS hP (fun r1 H locs w1r hP hS => ?_)
  have w1 : B01 r1 (0 ≤ ry.toInt ∧ ry.toInt < c0) := w1r
  clear w1r
  rcases w1 with ⟨rfl, w1⟩ | ⟨rfl, w1⟩
  · skip
    rw [← hQ]
    exact W.zret (v := nI 1) hx hb hr (by first | decide | (rw [nar_b01])) (fun tS htS hWS => ⟨⟨(nI 1), (), rfl, Or.inl ⟨rfl, by omega⟩, trivial⟩, hS.F htS⟩) hS.2.2 dX3_hasSystem_8
  · skip
    rw [← hQ]
    exact W.zret (v := nI 0) hx hb hr (by first | decide | (rw [nar_b01])) (fun tS htS hWS => ⟨⟨(nI 0), (), rfl, Or.inr ⟨rfl, by omega⟩, trivial⟩, hS.F htS⟩) hS.2.2 dX3_hasSystem_8
def rm_c_X3_isGood : Room := { frames := 0, cells := 0, slots := 0, locals := 0 }
set_option maxHeartbeats 400000 in
set_option maxRecDepth 100000 in
theorem c_X3_isGood (l : Launch) (D : va_G) (cI cJ cZ : ClassId) (h0 : Nat) (b1 : Nat) (b2 : Nat) (a : Nat) (t : Nat) (pt : Int32) (rc : Int32) (ry : Int32) (fw : Nat → Int64) (ha : a < 40) (ht : t < 512) : Met l yX3_isGood wsX3_isGood rm_c_X3_isGood (pc_ D cI cJ cZ [.ref h0, .int (nI a), .int (nI t)] [(h0, .inr (3, [.ref b1, .ref b2, .int pt, .int rc, .int ry])), (b1, .inl (cJ, 320, .inr (.inl fw)))]) (va_Qi (fun (r : Int32) (_ : Unit) => B01 r (isG fw a t)) (fun _ _ => True) aN) 0 0 aN := by
  refine Met.ofW (cc := cX3_isGood) (maxL := 3) (ret := (some .boolean)) (by decide) rfl ?_
  intro p e s m args below meth c s₁ B hml hv
  obtain ⟨rfl, hP, hKN⟩ := hv
  have hK := hKN.1
  have hx := B.exec
  have hb := B.bytes
  have hr := B.returns
  have hts := atoms_spec (ws := wsX3_isGood) B.pre
  have hown : s.vm.findClass RX3 = some m.cls := findClass_of_methodNamed B.named
  have hlocks := B.notSynchronized
  have hiX3 : ∀ w ∈ wsX30, w ∈ wsX3_isGood := by decide +kernel
  have hf11 := hts (.fieldLink RX3 11 "LookBench$Rules" "words" "[J") (by decide +kernel)
  have hS : va_S aN s.heap s.heap [] := va_S.rf
  have hl := lv_entry ([.ref h0, .int (nI a), .int (nI t)]) (n := 3) (Nat.le_of_ble_eq_true rfl)
  rw [lg_entry_eq]
  generalize (lg_sl ([.ref h0, .int (nI a), .int (nI t)]) ++ List.replicate (3 - (lg_sl ([.ref h0, .int (nI a), .int (nI t)])).length) Slot.unset).toArray = ls at hl ⊢
  have hl : lv_has ls 3 [(0, .ref h0), (1, .int (nI a)), (2, .int (nI t))] := hl
  generalize hQ : MQ below _ _ s _ _ _ = Q
  obtain ⟨H, hH⟩ : ∃ z, z = s.heap := ⟨_, rfl⟩
  have hP : va_P D vwCl [(h0, .inr (3, [.ref b1, .ref b2, .int pt, .int rc, .int ry])), (b1, .inl (cJ, 320, .inr (.inl fw)))] H := by rw [hH]; exact hP
  have hS : va_S aN s.heap H [] := by rw [hH]; exact hS
  refine m_heap hH ?_
  clear hH
  refine lv_aload_n hx hb dX3_isGood_0 rfl (lv_at hl 0 rfl) ?_
  refine va_get (D := D) (ci := 3) (v := .ref b1) (C := RX3) (T := TX3) (N := 5) hx hb hts hiX3 hown hK hP 0 rfl rfl 0 (by decide) hf11 (fun _ h9 => h9) rfl dX3_isGood_1 ?_
  refine lv_iload_n hx hb dX3_isGood_4 rfl (lv_at hl 1 rfl) ?_
  refine lv_bipush (v := nI 8) hx hb dX3_isGood_5 (by decide) ?_
  refine lv_imul hx hb dX3_isGood_7 ?_
  refine cn_i (y := nI (a * 8)) (pk_mul a 8) ?_
  refine lv_iload_n hx hb dX3_isGood_8 rfl (lv_at hl 2 rfl) ?_
  refine lv_bipush (v := nI 6) hx hb dX3_isGood_9 (by decide) ?_
  refine lv_ishr hx hb dX3_isGood_11 ?_
  refine cn_i (y := nI (t / 2 ^ 6)) (m_shr (by omega) (by omega)) ?_
  refine lv_iadd hx hb dX3_isGood_12 ?_
  refine cn_i (y := nI ((a * 8) + (t / 2 ^ 6))) (nI_add (a * 8) (t / 2 ^ 6)) ?_
  refine va_lald hx hb hK hP 1 1 rfl rfl (i := nI ((a * 8) + (t / 2 ^ 6))) (vp_in_nI (by omega) (by omega)) dX3_isGood_13 ?_
  refine cn_l (y := fw ((a * 8) + (t / 2 ^ 6))) (congrArg fw (nI_clamp (by omega))) ?_
  refine lv_iload_n hx hb dX3_isGood_14 rfl (lv_at hl 2 rfl) ?_
  refine lv_bipush (v := nI 63) hx hb dX3_isGood_15 (by decide) ?_
  refine lv_iand hx hb dX3_isGood_17 ?_
  refine cn_i (y := nI (t % 64)) (m_and63 (by omega)) ?_
  refine lv_lushr hx hb dX3_isGood_18 rfl ?_
  refine lv_lconst (v := lN 1) hx hb dX3_isGood_19 (by decide) ?_
  refine lv_land hx hb dX3_isGood_20 ?_
  refine lv_lconst (v := lN 0) hx hb dX3_isGood_21 (by decide) ?_
  refine W.lcmp hx hb dX3_isGood_22 ?_
  refine lv_if_eq (tgt := 30) hx hb dX3_isGood_23 (by decide) (fun c1 => ?_) (fun c1 => ?_)
  · skip
    refine lv_iconst (v := nI 0) hx hb dX3_isGood_30 (by decide) ?_
    rw [← hQ]
    exact W.zret (v := nI 0) hx hb hr (by first | decide | (rw [nar_b01])) (fun tS htS hWS => ⟨⟨(nI 0), (), rfl, Or.inr ⟨rfl, by first | exact fun h => c1 (lc_eq.mpr h) | exact fun h => h (lc_eq.mp c1)⟩, trivial⟩, hS.F htS⟩) hS.2.2 dX3_isGood_31
  · skip
    refine lv_iconst (v := nI 1) hx hb dX3_isGood_26 (by decide) ?_
    refine lv_goto (tgt := 31) hx hb dX3_isGood_27 (by decide) ?_
    rw [← hQ]
    exact W.zret (v := nI 1) hx hb hr (by first | decide | (rw [nar_b01])) (fun tS htS hWS => ⟨⟨(nI 1), (), rfl, Or.inl ⟨rfl, by first | exact fun h => c1 (lc_eq.mpr h) | exact fun h => h (lc_eq.mp c1)⟩, trivial⟩, hS.F htS⟩) hS.2.2 dX3_isGood_31
def rm_c_X3_wipe : Room := { frames := 0, cells := 0, slots := 0, locals := 0 }
set_option maxHeartbeats 400000 in
set_option maxRecDepth 100000 in
theorem c_X3_wipe (l : Launch) (D : va_G) (cI cJ cZ : ClassId) (h0 : Nat) (b1 : Nat) (b2 : Nat) (c0 : Nat) (pt : Int32) (ry : Int32) (fw : Nat → Int64) (hc : c0 < 40) : Met l yX3_wipe wsX3_wipe rm_c_X3_wipe (pm_ D cI cJ cZ [.ref h0] [(h0, .inr (3, [.ref b1, .ref b2, .int pt, .int (nI c0), .int ry])), (b1, .inl (cJ, 320, .inr (.inl fw)))]) (va_Qv (fun (u : (Nat → Int64)) => ∀ z, u z = if c0 * 8 ≤ z ∧ z < c0 * 8 + 8 then lN 0 else fw z) (fun (u : (Nat → Int64)) tS => va_P D vwCl [(h0, .inr (3, [.ref b1, .ref b2, .int pt, .int (nI c0), .int ry])), (b1, .inl (cJ, 320, .inr (.inl u)))] tS.heap) (aA [h0, b1])) 0 0 (aA [h0, b1]) := by
  refine Met.ofW (cc := cX3_wipe) (maxL := 2) (ret := none) (by decide) rfl ?_
  intro p e s m args below meth c s₁ B hml hv
  obtain ⟨rfl, hP, hKN, hD0⟩ := hv
  have hK := hKN.1
  have hx := B.exec
  have hb := B.bytes
  have hr := B.returns
  have hts := atoms_spec (ws := wsX3_wipe) B.pre
  have hown : s.vm.findClass RX3 = some m.cls := findClass_of_methodNamed B.named
  have hlocks := B.notSynchronized
  have hiX3 : ∀ w ∈ wsX30, w ∈ wsX3_wipe := by decide +kernel
  have hf11 := hts (.fieldLink RX3 11 "LookBench$Rules" "words" "[J") (by decide +kernel)
  have hf27 := hts (.fieldLink RX3 27 "LookBench$Rules" "count" "I") (by decide +kernel)
  obtain ⟨as, has⟩ : ∃ z : List Nat, z = [h0, b1] := ⟨_, rfl⟩
  have hD := hD0.addr (as := as) (by rw [has]; rfl)
  have hS : va_S (aA as) s.heap s.heap [] := va_S.rf
  have hl := lv_entry ([.ref h0]) (n := 2) (Nat.le_of_ble_eq_true rfl)
  rw [lg_entry_eq]
  generalize (lg_sl ([.ref h0]) ++ List.replicate (2 - (lg_sl ([.ref h0])).length) Slot.unset).toArray = ls at hl ⊢
  have hl : lv_has ls 2 [(0, .ref h0)] := hl
  generalize hQ : MQ below _ _ s _ _ _ = Q
  obtain ⟨H, hH⟩ : ∃ z, z = s.heap := ⟨_, rfl⟩
  have hP : va_P D vwCl [(h0, .inr (3, [.ref b1, .ref b2, .int pt, .int (nI c0), .int ry])), (b1, .inl (cJ, 320, .inr (.inl fw)))] H := by rw [hH]; exact hP
  have hS : va_S (aA as) s.heap H [] := by rw [hH]; exact hS
  refine m_heap hH ?_
  clear hH
  refine lv_iconst (v := nI 0) hx hb dX3_wipe_0 (by decide) ?_
  refine lv_istore_n (lv' := [(1, .int (nI 0)), (0, .ref h0)]) hx hb dX3_wipe_1 rfl hl (by decide) rfl (fun ls hl => ?_)
  have loop1 : ∀ (fu : Nat) (k : Nat) (uw : Nat → Int64) (H : Heap) (locs : List Loc) (ls : Array Slot), (k ≤ 8 ∧ 8 < k + fu) → (∀ z, uw z = if c0 * 8 ≤ z ∧ z < c0 * 8 + k then lN 0 else fw z) → va_P D vwCl [(h0, .inr (3, [.ref b1, .ref b2, .int pt, .int (nI c0), .int ry])), (b1, .inl (cJ, 320, .inr (.inl uw)))] H → va_D (aA as) [(h0, .inr (3, [.ref b1, .ref b2, .int pt, .int (nI c0), .int ry])), (b1, .inl (cJ, 320, .inr (.inl uw)))] → va_S (aA as) s.heap H locs → lv_has ls 2 [(1, .int (nI k)), (0, .ref h0)] → W p l e (headSpec wsX3_wipe rm_c_X3_wipe).room s m ([.ref h0] : List Value).toArray below meth c H locs 0 0 Q (F0 m 2 ls []) := by
    intro fu
    induction fu with
    | zero => intro k uw H locs ls hk hi; exact absurd hk (by omega)
    | succ fu ih1 =>
      intro k uw H locs ls hk hi hP hD hS hl
      refine lv_iload_n hx hb dX3_wipe_2 rfl (lv_at hl 0 rfl) ?_
      refine lv_bipush (v := nI 8) hx hb dX3_wipe_3 (by decide) ?_
      refine lv_icmp_ge (tgt := 29) hx hb dX3_wipe_5 (by decide) (fun c2 => ?_) (fun c2 => ?_)
      · skip
        have d2 := c2
        rw [nI_leI (by omega) (by omega)] at d2
        rw [← hQ]
        exact W.vret hx hb hr (fun tS htS hWS => ⟨⟨(uw), rfl, fun z => by have h := hi z; rw [show k = 8 by omega] at h; exact h, m_at htS hP⟩, by rw [← has]; exact hS.F htS⟩) (by rw [← has]; exact hS.2.2) dX3_wipe_29
      · skip
        have d2 := c2
        rw [nI_leI (by omega) (by omega)] at d2
        refine lv_aload_n hx hb dX3_wipe_8 rfl (lv_at hl 1 rfl) ?_
        refine va_get (D := D) (ci := 3) (v := .ref b1) (C := RX3) (T := TX3) (N := 5) hx hb hts hiX3 hown hK hP 0 rfl rfl 0 (by decide) hf11 (fun _ h9 => h9) rfl dX3_wipe_9 ?_
        refine lv_aload_n hx hb dX3_wipe_12 rfl (lv_at hl 1 rfl) ?_
        refine va_get (D := D) (ci := 3) (v := .int (nI c0)) (C := RX3) (T := TX3) (N := 5) hx hb hts hiX3 hown hK hP 0 rfl rfl 3 (by decide) hf27 (fun _ h9 => h9) rfl dX3_wipe_13 ?_
        refine lv_bipush (v := nI 8) hx hb dX3_wipe_16 (by decide) ?_
        refine lv_imul hx hb dX3_wipe_18 ?_
        refine cn_i (y := nI (c0 * 8)) (pk_mul c0 8) ?_
        refine lv_iload_n hx hb dX3_wipe_19 rfl (lv_at hl 0 rfl) ?_
        refine lv_iadd hx hb dX3_wipe_20 ?_
        refine cn_i (y := nI ((c0 * 8) + k)) (nI_add (c0 * 8) k) ?_
        refine lv_lconst (v := lN 0) hx hb dX3_wipe_21 (by decide) ?_
        refine va_last hx hb hK hP hD hS 1 1 rfl rfl (i := nI ((c0 * 8) + k)) (vp_in_nI (by omega) (by omega)) dX3_wipe_22 (fun H locs hP hD hS => ?_)
        have hP : va_P D vwCl [(h0, .inr (3, [.ref b1, .ref b2, .int pt, .int (nI c0), .int ry])), (b1, .inl (cJ, 320, .inr (.inl (vp_updL uw (nI ((c0 * 8) + k)).toNatClampNeg (lN 0)))))] H := hP
        have hD : va_D (aA as) [(h0, .inr (3, [.ref b1, .ref b2, .int pt, .int (nI c0), .int ry])), (b1, .inl (cJ, 320, .inr (.inl (vp_updL uw (nI ((c0 * 8) + k)).toNatClampNeg (lN 0)))))] := hD
        rw [nI_clamp (n := ((c0 * 8) + k)) (by omega)] at hP hD
        refine lv_iinc (v := nI (k + 1)) (lv' := [(1, .int (nI (k + 1))), (0, .ref h0)]) hx hb dX3_wipe_23 hl (k := 0) rfl (nI_1 k) (by decide) rfl (fun ls hl => ?_)
        refine lv_goto (tgt := 2) hx hb dX3_wipe_26 (by decide) ?_
        exact ih1 (k + 1) (vp_updL uw ((c0 * 8) + k) (lN 0)) _ _ _ (by omega) (fun z => by unfold vp_updL; by_cases e9 : z = c0 * 8 + k; exact (by rw [if_pos (by omega), if_pos (by omega)]); exact (by rw [if_neg (by omega), hi z]; by_cases e8 : c0 * 8 ≤ z ∧ z < c0 * 8 + k; exact (by rw [if_pos e8, if_pos (by omega)]); exact (by rw [if_neg e8, if_neg (by omega)]))) hP hD hS (lv_sub hl [0, 1] rfl)
  exact loop1 9 0 fw _ _ _ (by omega) (fun z => by rw [if_neg (by omega)]) hP hD hS (lv_sub hl [0, 1] rfl)
def rm_c_X3_mark : Room := { frames := 0, cells := 0, slots := 0, locals := 0 }
set_option maxHeartbeats 400000 in
set_option maxRecDepth 100000 in
theorem c_X3_mark (l : Launch) (D : va_G) (cI cJ cZ : ClassId) (h0 : Nat) (b1 : Nat) (b2 : Nat) (c0 : Nat) (t : Nat) (pt : Int32) (ry : Int32) (fw : Nat → Int64) (hc : c0 < 40) (ht : t < 512) : Met l yX3_mark wsX3_mark rm_c_X3_mark (pm_ D cI cJ cZ [.ref h0, .int (nI t)] [(h0, .inr (3, [.ref b1, .ref b2, .int pt, .int (nI c0), .int ry])), (b1, .inl (cJ, 320, .inr (.inl fw)))]) (va_Qv (fun (u : Unit) => True) (fun (u : Unit) tS => va_P D vwCl [(h0, .inr (3, [.ref b1, .ref b2, .int pt, .int (nI c0), .int ry])), (b1, .inl (cJ, 320, .inr (.inl (mkG fw c0 t))))] tS.heap) (aA [h0, b1])) 0 0 (aA [h0, b1]) := by
  refine Met.ofW (cc := cX3_mark) (maxL := 2) (ret := none) (by decide) rfl ?_
  intro p e s m args below meth c s₁ B hml hv
  obtain ⟨rfl, hP, hKN, hD0⟩ := hv
  have hK := hKN.1
  have hx := B.exec
  have hb := B.bytes
  have hr := B.returns
  have hts := atoms_spec (ws := wsX3_mark) B.pre
  have hown : s.vm.findClass RX3 = some m.cls := findClass_of_methodNamed B.named
  have hlocks := B.notSynchronized
  have hiX3 : ∀ w ∈ wsX30, w ∈ wsX3_mark := by decide +kernel
  have hf11 := hts (.fieldLink RX3 11 "LookBench$Rules" "words" "[J") (by decide +kernel)
  have hf27 := hts (.fieldLink RX3 27 "LookBench$Rules" "count" "I") (by decide +kernel)
  obtain ⟨as, has⟩ : ∃ z : List Nat, z = [h0, b1] := ⟨_, rfl⟩
  have hD := hD0.addr (as := as) (by rw [has]; rfl)
  have hS : va_S (aA as) s.heap s.heap [] := va_S.rf
  have hl := lv_entry ([.ref h0, .int (nI t)]) (n := 2) (Nat.le_of_ble_eq_true rfl)
  rw [lg_entry_eq]
  generalize (lg_sl ([.ref h0, .int (nI t)]) ++ List.replicate (2 - (lg_sl ([.ref h0, .int (nI t)])).length) Slot.unset).toArray = ls at hl ⊢
  have hl : lv_has ls 2 [(0, .ref h0), (1, .int (nI t))] := hl
  generalize hQ : MQ below _ _ s _ _ _ = Q
  obtain ⟨H, hH⟩ : ∃ z, z = s.heap := ⟨_, rfl⟩
  have hP : va_P D vwCl [(h0, .inr (3, [.ref b1, .ref b2, .int pt, .int (nI c0), .int ry])), (b1, .inl (cJ, 320, .inr (.inl fw)))] H := by rw [hH]; exact hP
  have hS : va_S (aA as) s.heap H [] := by rw [hH]; exact hS
  refine m_heap hH ?_
  clear hH
  refine lv_aload_n hx hb dX3_mark_0 rfl (lv_at hl 0 rfl) ?_
  refine va_get (D := D) (ci := 3) (v := .ref b1) (C := RX3) (T := TX3) (N := 5) hx hb hts hiX3 hown hK hP 0 rfl rfl 0 (by decide) hf11 (fun _ h9 => h9) rfl dX3_mark_1 ?_
  refine lv_aload_n hx hb dX3_mark_4 rfl (lv_at hl 0 rfl) ?_
  refine va_get (D := D) (ci := 3) (v := .int (nI c0)) (C := RX3) (T := TX3) (N := 5) hx hb hts hiX3 hown hK hP 0 rfl rfl 3 (by decide) hf27 (fun _ h9 => h9) rfl dX3_mark_5 ?_
  refine lv_bipush (v := nI 8) hx hb dX3_mark_8 (by decide) ?_
  refine lv_imul hx hb dX3_mark_10 ?_
  refine cn_i (y := nI (c0 * 8)) (pk_mul c0 8) ?_
  refine lv_iload_n hx hb dX3_mark_11 rfl (lv_at hl 1 rfl) ?_
  refine lv_bipush (v := nI 6) hx hb dX3_mark_12 (by decide) ?_
  refine lv_ishr hx hb dX3_mark_14 ?_
  refine cn_i (y := nI (t / 2 ^ 6)) (m_shr (by omega) (by omega)) ?_
  refine lv_iadd hx hb dX3_mark_15 ?_
  refine cn_i (y := nI ((c0 * 8) + (t / 2 ^ 6))) (nI_add (c0 * 8) (t / 2 ^ 6)) ?_
  refine lv_dup2_11 hx hb dX3_mark_16 rfl rfl ?_
  refine va_lald hx hb hK hP 1 1 rfl rfl (i := nI ((c0 * 8) + (t / 2 ^ 6))) (vp_in_nI (by omega) (by omega)) dX3_mark_17 ?_
  refine cn_l (y := fw ((c0 * 8) + (t / 2 ^ 6))) (congrArg fw (nI_clamp (by omega))) ?_
  refine lv_lconst (v := lN 1) hx hb dX3_mark_18 (by decide) ?_
  refine lv_iload_n hx hb dX3_mark_19 rfl (lv_at hl 1 rfl) ?_
  refine lv_bipush (v := nI 63) hx hb dX3_mark_20 (by decide) ?_
  refine lv_iand hx hb dX3_mark_22 ?_
  refine cn_i (y := nI (t % 64)) (m_and63 (by omega)) ?_
  refine lv_lshl hx hb dX3_mark_23 rfl ?_
  refine lv_lor hx hb dX3_mark_24 ?_
  refine va_last hx hb hK hP hD hS 1 1 rfl rfl (i := nI ((c0 * 8) + (t / 2 ^ 6))) (vp_in_nI (by omega) (by omega)) dX3_mark_25 (fun H locs hP hD hS => ?_)
  have hP : va_P D vwCl [(h0, .inr (3, [.ref b1, .ref b2, .int pt, .int (nI c0), .int ry])), (b1, .inl (cJ, 320, .inr (.inl (vp_updL fw (nI ((c0 * 8) + (t / 2 ^ 6))).toNatClampNeg ((fw ((c0 * 8) + (t / 2 ^ 6))) ||| ((lN 1) <<< ((nI (t % 64)).toInt64 &&& 63)))))))] H := hP
  have hD : va_D (aA as) [(h0, .inr (3, [.ref b1, .ref b2, .int pt, .int (nI c0), .int ry])), (b1, .inl (cJ, 320, .inr (.inl (vp_updL fw (nI ((c0 * 8) + (t / 2 ^ 6))).toNatClampNeg ((fw ((c0 * 8) + (t / 2 ^ 6))) ||| ((lN 1) <<< ((nI (t % 64)).toInt64 &&& 63)))))))] := hD
  rw [nI_clamp (n := ((c0 * 8) + (t / 2 ^ 6))) (by omega)] at hP hD
  rw [← hQ]
  exact W.vret hx hb hr (fun tS htS hWS => ⟨⟨(), rfl, trivial, m_at htS hP⟩, by rw [← has]; exact hS.F htS⟩) (by rw [← has]; exact hS.2.2) dX3_mark_26
def rm_c_X3_addSingle : Room := { frames := 1, cells := 0, slots := 0, locals := 21 }
set_option maxHeartbeats 400000 in
set_option maxRecDepth 100000 in
theorem c_X3_addSingle (l : Launch) (D : va_G) (cI cJ cZ : ClassId) (h0 : Nat) (b1 : Nat) (b2 : Nat) (n : Nat) (c0 : Nat) (j : Nat) (ry : Int32) (fw : Nat → Int64) (hn : n ≤ 9) (hc : c0 < 40) (hj : j < 9) : Met l yX3_addSingle wsX3_addSingle rm_c_X3_addSingle (pm_ D cI cJ cZ [.ref h0, .int (nI j)] [(h0, .inr (3, [.ref b1, .ref b2, .int (nI n), .int (nI c0), .int ry])), (b1, .inl (cJ, 320, .inr (.inl fw)))]) (va_Qi (fun (r : Int32) (u : (Nat → Int64)) => r = nI c0) (fun (u : (Nat → Int64)) tS => va_P D vwCl [(h0, .inr (3, [.ref b1, .ref b2, .int (nI n), .int (nI (c0 + 1)), .int ry])), (b1, .inl (cJ, 320, .inr (.inl u)))] tS.heap) (aA [h0, b1])) 0 0 (aA [h0, b1]) := by
  refine Met.ofW (cc := cX3_addSingle) (maxL := 3) (ret := (some .int)) (by decide) rfl ?_
  intro p e s m args below meth c s₁ B hml hv
  obtain ⟨rfl, hP, hKN, hD0⟩ := hv
  have hK := hKN.1
  have hx := B.exec
  have hb := B.bytes
  have hr := B.returns
  have hts := atoms_spec (ws := wsX3_addSingle) B.pre
  have hown : s.vm.findClass RX3 = some m.cls := findClass_of_methodNamed B.named
  have hlocks := B.notSynchronized
  have hiX3 : ∀ w ∈ wsX30, w ∈ wsX3_addSingle := by decide +kernel
  have hf23 := hts (.fieldLink RX3 23 "LookBench$Rules" "parts" "I") (by decide +kernel)
  have hf27 := hts (.fieldLink RX3 27 "LookBench$Rules" "count" "I") (by decide +kernel)
  obtain ⟨as, has⟩ : ∃ z : List Nat, z = [h0, b1] := ⟨_, rfl⟩
  have hD := hD0.addr (as := as) (by rw [has]; rfl)
  have hS : va_S (aA as) s.heap s.heap [] := va_S.rf
  have hl := lv_entry ([.ref h0, .int (nI j)]) (n := 3) (Nat.le_of_ble_eq_true rfl)
  rw [lg_entry_eq]
  generalize (lg_sl ([.ref h0, .int (nI j)]) ++ List.replicate (3 - (lg_sl ([.ref h0, .int (nI j)])).length) Slot.unset).toArray = ls at hl ⊢
  have hl : lv_has ls 3 [(0, .ref h0), (1, .int (nI j))] := hl
  generalize hQ : MQ below _ _ s _ _ _ = Q
  obtain ⟨H, hH⟩ : ∃ z, z = s.heap := ⟨_, rfl⟩
  have hP : va_P D vwCl [(h0, .inr (3, [.ref b1, .ref b2, .int (nI n), .int (nI c0), .int ry])), (b1, .inl (cJ, 320, .inr (.inl fw)))] H := by rw [hH]; exact hP
  have hS : va_S (aA as) s.heap H [] := by rw [hH]; exact hS
  refine m_heap hH ?_
  clear hH
  have h2n := m_pow hn
  have h2p := m_powp n
  refine lv_aload_n hx hb dX3_addSingle_0 rfl (lv_at hl 0 rfl) ?_
  refine mu_v (n := 2) (wc := [(h0, .inr (3, [.ref b1, .ref b2, .int (nI n), .int (nI c0), .int ry])), (b1, .inl (cJ, 320, .inr (.inl fw)))]) (va_runV (As := []) (rest := []) ⟨hx, hb, hml, hown, hts⟩ (c_X3_wipe l D cI cJ cZ h0 b1 b2 c0 (nI n) ry fw (by first | assumption | omega)) (cwV 0 hts gX3_addSingle_X3_wipe rfl rfl rfl (by decide +kernel) ⟨Nat.le_of_ble_eq_true rfl, Nat.le_of_ble_eq_true rfl⟩) ⟨pm_blind, va_recv hK hP (ci := 3) (q0 := 0) rfl rfl, fun U hU hW => ⟨rfl, by rw [hU]; exact hP.sub (ws' := [(h0, .inr (3, [.ref b1, .ref b2, .int (nI n), .int (nI c0), .int ry])), (b1, .inl (cJ, 320, .inr (.inl fw)))]) [0, 1] rfl, hKN.warm hW, (hD.sub (ws' := [(h0, .inr (3, [.ref b1, .ref b2, .int (nI n), .int (nI c0), .int ry])), (b1, .inl (cJ, 320, .inr (.inl fw)))]) [0, 1] (by decide) rfl).weaken (fun _ _ _ _ => trivial)⟩⟩ rfl rfl hl.1 rfl (lv_room (Nat.le_of_ble_eq_true rfl)) dX3_addSingle_1 ⟨Nat.le_of_ble_eq_true rfl, Nat.le_of_ble_eq_true rfl⟩) hS hP hD (fun (u : (Nat → Int64)) => [(h0, .inr (3, [.ref b1, .ref b2, .int (nI n), .int (nI c0), .int ry])), (b1, .inl (cJ, 320, .inr (.inl u)))]) [0, 1] [] rfl rfl (fun _ => rfl) (fun _ => rfl) (fun _ => rfl) (fun _ => rfl) (by decide) (by decide) (fun u1 H locs w1r hP hD hS => ?_)
  obtain ⟨u1_uw, rfl⟩ : ∃ z, z = u1 := ⟨_, rfl⟩
  have hP : va_P D vwCl [(h0, .inr (3, [.ref b1, .ref b2, .int (nI n), .int (nI c0), .int ry])), (b1, .inl (cJ, 320, .inr (.inl u1_uw)))] H := hP
  have hD : va_D (aA as) [(h0, .inr (3, [.ref b1, .ref b2, .int (nI n), .int (nI c0), .int ry])), (b1, .inl (cJ, 320, .inr (.inl u1_uw)))] := hD
  have w1 : ∀ z, u1_uw z = if c0 * 8 ≤ z ∧ z < c0 * 8 + 8 then lN 0 else fw z := w1r
  clear w1r
  refine lv_iconst (v := nI 0) hx hb dX3_addSingle_4 (by decide) ?_
  refine lv_istore_n (lv' := [(2, .int (nI 0)), (0, .ref h0), (1, .int (nI j))]) hx hb dX3_addSingle_5 rfl hl (by decide) rfl (fun ls hl => ?_)
  have loop2 : ∀ (fu : Nat) (k : Nat) (uw : Nat → Int64) (H : Heap) (locs : List Loc) (ls : Array Slot), (k ≤ 2 ^ n ∧ 2 ^ n < k + fu) → va_P D vwCl [(h0, .inr (3, [.ref b1, .ref b2, .int (nI n), .int (nI c0), .int ry])), (b1, .inl (cJ, 320, .inr (.inl uw)))] H → va_D (aA as) [(h0, .inr (3, [.ref b1, .ref b2, .int (nI n), .int (nI c0), .int ry])), (b1, .inl (cJ, 320, .inr (.inl uw)))] → va_S (aA as) s.heap H locs → lv_has ls 3 [(2, .int (nI k)), (0, .ref h0), (1, .int (nI j))] → W p l e (headSpec wsX3_addSingle rm_c_X3_addSingle).room s m ([.ref h0, .int (nI j)] : List Value).toArray below meth c H locs 0 0 Q (F0 m 6 ls []) := by
    intro fu
    induction fu with
    | zero => intro k uw H locs ls hk; exact absurd hk (by omega)
    | succ fu ih2 =>
      intro k uw H locs ls hk hP hD hS hl
      refine lv_iload_n hx hb dX3_addSingle_6 rfl (lv_at hl 0 rfl) ?_
      refine lv_iconst (v := nI 1) hx hb dX3_addSingle_7 (by decide) ?_
      refine lv_aload_n hx hb dX3_addSingle_8 rfl (lv_at hl 1 rfl) ?_
      refine va_get (D := D) (ci := 3) (v := .int (nI n)) (C := RX3) (T := TX3) (N := 5) hx hb hts hiX3 hown hK hP 0 rfl rfl 2 (by decide) hf23 (fun _ h9 => h9) rfl dX3_addSingle_9 ?_
      refine lv_ishl hx hb dX3_addSingle_12 ?_
      refine cn_i (y := nI (2 ^ n)) (m_shl1 (by omega)) ?_
      refine lv_icmp_ge (tgt := 36) hx hb dX3_addSingle_13 (by decide) (fun c3 => ?_) (fun c3 => ?_)
      · skip
        have d3 := c3
        rw [nI_leI (by omega) (by omega)] at d3
        refine lv_aload_n hx hb dX3_addSingle_36 rfl (lv_at hl 1 rfl) ?_
        refine lv_dup hx hb dX3_addSingle_37 rfl ?_
        refine va_get (D := D) (ci := 3) (v := .int (nI c0)) (C := RX3) (T := TX3) (N := 5) hx hb hts hiX3 hown hK hP 0 rfl rfl 3 (by decide) hf27 (fun _ h9 => h9) rfl dX3_addSingle_38 ?_
        refine lv_dup_x1 hx hb dX3_addSingle_41 rfl rfl ?_
        refine lv_iconst (v := nI 1) hx hb dX3_addSingle_42 (by decide) ?_
        refine lv_iadd hx hb dX3_addSingle_43 ?_
        refine cn_i (y := nI (c0 + 1)) (nI_add c0 1) ?_
        refine va_put (D := D) (ci := 3) (v := .int (nI (c0 + 1))) (ty := tyX3 3) (C := RX3) (T := TX3) (N := 5) hx hb hts hiX3 tyX3 tyX3_ok nmX3 hown hK hP hD hS 0 rfl rfl 3 (by decide) hf27 (fun _ h9 => h9) rfl (by decide +kernel) rfl rfl (Nat.le_of_ble_eq_true rfl) dX3_addSingle_44 (fun H locs hP hD hS => ?_)
        have hP : va_P D vwCl [(h0, .inr (3, [.ref b1, .ref b2, .int (nI n), .int (nI (c0 + 1)), .int ry])), (b1, .inl (cJ, 320, .inr (.inl uw)))] H := hP
        have hD : va_D (aA as) [(h0, .inr (3, [.ref b1, .ref b2, .int (nI n), .int (nI (c0 + 1)), .int ry])), (b1, .inl (cJ, 320, .inr (.inl uw)))] := hD
        rw [← hQ]
        exact W.iret (v := nI c0) hx hb hr (fun tS htS hWS => ⟨⟨(nI c0), (uw), rfl, rfl, m_at htS hP⟩, by rw [← has]; exact hS.F htS⟩) (by rw [← has]; exact hS.2.2) dX3_addSingle_47
      · skip
        have d3 := c3
        rw [nI_leI (by omega) (by omega)] at d3
        refine lv_iload_n hx hb dX3_addSingle_16 rfl (lv_at hl 0 rfl) ?_
        refine lv_iload_n hx hb dX3_addSingle_17 rfl (lv_at hl 2 rfl) ?_
        refine lv_ishr hx hb dX3_addSingle_18 ?_
        refine cn_i (y := nI (k / 2 ^ j)) (m_shr (by omega) (by omega)) ?_
        refine lv_iconst (v := nI 1) hx hb dX3_addSingle_19 (by decide) ?_
        refine lv_iand hx hb dX3_addSingle_20 ?_
        refine cn_i (y := nI ((k / 2 ^ j) % 2)) (m_andn1 (Nat.lt_of_le_of_lt (Nat.div_le_self _ _) (by omega))) ?_
        refine lv_iconst (v := nI 1) hx hb dX3_addSingle_21 (by decide) ?_
        refine lv_icmp_ne (tgt := 30) hx hb dX3_addSingle_22 (by decide) (fun c4 => ?_) (fun c4 => ?_)
        · skip
          have d4 := c4
          rw [nI_eq (by omega) (by omega)] at d4
          refine lv_iinc (v := nI (k + 1)) (lv' := [(2, .int (nI (k + 1))), (0, .ref h0), (1, .int (nI j))]) hx hb dX3_addSingle_30 hl (k := 0) rfl (nI_1 k) (by decide) rfl (fun ls hl => ?_)
          refine lv_goto (tgt := 6) hx hb dX3_addSingle_33 (by decide) ?_
          exact ih2 (k + 1) uw _ _ _ (by omega) hP hD hS (lv_sub hl [0, 1, 2] rfl)
        · skip
          have d4 := c4
          rw [nI_eq (by omega) (by omega)] at d4
          refine lv_aload_n hx hb dX3_addSingle_25 rfl (lv_at hl 1 rfl) ?_
          refine lv_iload_n hx hb dX3_addSingle_26 rfl (lv_at hl 0 rfl) ?_
          refine mu_v (n := 2) (wc := [(h0, .inr (3, [.ref b1, .ref b2, .int (nI n), .int (nI c0), .int ry])), (b1, .inl (cJ, 320, .inr (.inl uw)))]) (va_runV (As := [.int (nI k)]) (rest := []) ⟨hx, hb, hml, hown, hts⟩ (c_X3_mark l D cI cJ cZ h0 b1 b2 c0 k (nI n) ry uw (by first | assumption | omega) (by first | assumption | omega)) (cwV 1 hts gX3_addSingle_X3_mark rfl rfl rfl (by decide +kernel) ⟨Nat.le_of_ble_eq_true rfl, Nat.le_of_ble_eq_true rfl⟩) ⟨pm_blind, va_recv hK hP (ci := 3) (q0 := 0) rfl rfl, fun U hU hW => ⟨rfl, by rw [hU]; exact hP.sub (ws' := [(h0, .inr (3, [.ref b1, .ref b2, .int (nI n), .int (nI c0), .int ry])), (b1, .inl (cJ, 320, .inr (.inl uw)))]) [0, 1] rfl, hKN.warm hW, (hD.sub (ws' := [(h0, .inr (3, [.ref b1, .ref b2, .int (nI n), .int (nI c0), .int ry])), (b1, .inl (cJ, 320, .inr (.inl uw)))]) [0, 1] (by decide) rfl).weaken (fun _ _ _ _ => trivial)⟩⟩ rfl rfl hl.1 rfl (lv_room (Nat.le_of_ble_eq_true rfl)) dX3_addSingle_27 ⟨Nat.le_of_ble_eq_true rfl, Nat.le_of_ble_eq_true rfl⟩) hS hP hD (fun (u : Unit) => [(h0, .inr (3, [.ref b1, .ref b2, .int (nI n), .int (nI c0), .int ry])), (b1, .inl (cJ, 320, .inr (.inl (mkG uw c0 k))))]) [0, 1] [] rfl rfl (fun _ => rfl) (fun _ => rfl) (fun _ => rfl) (fun _ => rfl) (by decide) (by decide) (fun u5 H locs w5r hP hD hS => ?_)
          have hP : va_P D vwCl [(h0, .inr (3, [.ref b1, .ref b2, .int (nI n), .int (nI c0), .int ry])), (b1, .inl (cJ, 320, .inr (.inl (mkG uw c0 k))))] H := hP
          have hD : va_D (aA as) [(h0, .inr (3, [.ref b1, .ref b2, .int (nI n), .int (nI c0), .int ry])), (b1, .inl (cJ, 320, .inr (.inl (mkG uw c0 k))))] := hD
          have w5 : True := w5r
          clear w5r
          refine lv_iinc (v := nI (k + 1)) (lv' := [(2, .int (nI (k + 1))), (0, .ref h0), (1, .int (nI j))]) hx hb dX3_addSingle_30 hl (k := 0) rfl (nI_1 k) (by decide) rfl (fun ls hl => ?_)
          refine lv_goto (tgt := 6) hx hb dX3_addSingle_33 (by decide) ?_
          exact ih2 (k + 1) (mkG uw c0 k) _ _ _ (by omega) hP hD hS (lv_sub hl [0, 1, 2] rfl)
  exact loop2 (2 ^ n + 1) 0 u1_uw _ _ _ (by omega) hP hD hS (lv_sub hl [0, 1, 2] rfl)
def rm_c_X3_worthOf : Room := { frames := 0, cells := 0, slots := 0, locals := 0 }
set_option maxHeartbeats 400000 in
set_option maxRecDepth 100000 in
theorem c_X3_worthOf (l : Launch) (D : va_G) (cI cJ cZ : ClassId) (h0 : Nat) (b1 : Nat) (b2 : Nat) (n : Nat) (rc : Int32) (ry : Int32) (st : Int32) (fo : Nat → Int32) (hn : n ≤ 9) : Met l yX3_worthOf wsX3_worthOf rm_c_X3_worthOf (pc_ D cI cJ cZ [.ref h0, .int st] [(h0, .inr (3, [.ref b1, .ref b2, .int (nI n), .int rc, .int ry])), (b2, .inl (cI, 9, .inl fo))]) (va_Qi (fun (r : Int32) (_ : Unit) => r = pf fo st n) (fun _ _ => True) aN) 0 0 aN := by
  refine Met.ofW (cc := cX3_worthOf) (maxL := 4) (ret := (some .int)) (by decide) rfl ?_
  intro p e s m args below meth c s₁ B hml hv
  obtain ⟨rfl, hP, hKN⟩ := hv
  have hK := hKN.1
  have hx := B.exec
  have hb := B.bytes
  have hr := B.returns
  have hts := atoms_spec (ws := wsX3_worthOf) B.pre
  have hown : s.vm.findClass RX3 = some m.cls := findClass_of_methodNamed B.named
  have hlocks := B.notSynchronized
  have hiX3 : ∀ w ∈ wsX30, w ∈ wsX3_worthOf := by decide +kernel
  have hf15 := hts (.fieldLink RX3 15 "LookBench$Rules" "worth" "[I") (by decide +kernel)
  have hf23 := hts (.fieldLink RX3 23 "LookBench$Rules" "parts" "I") (by decide +kernel)
  have hS : va_S aN s.heap s.heap [] := va_S.rf
  have hl := lv_entry ([.ref h0, .int st]) (n := 4) (Nat.le_of_ble_eq_true rfl)
  rw [lg_entry_eq]
  generalize (lg_sl ([.ref h0, .int st]) ++ List.replicate (4 - (lg_sl ([.ref h0, .int st])).length) Slot.unset).toArray = ls at hl ⊢
  have hl : lv_has ls 4 [(0, .ref h0), (1, .int st)] := hl
  generalize hQ : MQ below _ _ s _ _ _ = Q
  obtain ⟨H, hH⟩ : ∃ z, z = s.heap := ⟨_, rfl⟩
  have hP : va_P D vwCl [(h0, .inr (3, [.ref b1, .ref b2, .int (nI n), .int rc, .int ry])), (b2, .inl (cI, 9, .inl fo))] H := by rw [hH]; exact hP
  have hS : va_S aN s.heap H [] := by rw [hH]; exact hS
  refine m_heap hH ?_
  clear hH
  refine lv_iconst (v := nI 0) hx hb dX3_worthOf_0 (by decide) ?_
  refine lv_istore_n (lv' := [(2, .int (nI 0)), (0, .ref h0), (1, .int st)]) hx hb dX3_worthOf_1 rfl hl (by decide) rfl (fun ls hl => ?_)
  refine lv_iconst (v := nI 0) hx hb dX3_worthOf_2 (by decide) ?_
  refine lv_istore_n (lv' := [(3, .int (nI 0)), (2, .int (nI 0)), (0, .ref h0), (1, .int st)]) hx hb dX3_worthOf_3 rfl hl (by decide) rfl (fun ls hl => ?_)
  have loop1 : ∀ (fu : Nat) (k : Nat) (v : Int32) (H : Heap) (locs : List Loc) (ls : Array Slot), (k ≤ n ∧ n < k + fu) → (v = pf fo st k) → va_P D vwCl [(h0, .inr (3, [.ref b1, .ref b2, .int (nI n), .int rc, .int ry])), (b2, .inl (cI, 9, .inl fo))] H → va_S aN s.heap H locs → lv_has ls 4 [(3, .int (nI k)), (2, .int v), (0, .ref h0), (1, .int st)] → W p l e (headSpec wsX3_worthOf rm_c_X3_worthOf).room s m ([.ref h0, .int st] : List Value).toArray below meth c H locs 0 0 Q (F0 m 4 ls []) := by
    intro fu
    induction fu with
    | zero => intro k v H locs ls hk hv; exact absurd hk (by omega)
    | succ fu ih1 =>
      intro k v H locs ls hk hv hP hS hl
      have hs1 := sb_lt st k
      refine lv_iload_n hx hb dX3_worthOf_4 rfl (lv_at hl 0 rfl) ?_
      refine lv_aload_n hx hb dX3_worthOf_5 rfl (lv_at hl 2 rfl) ?_
      refine va_get (D := D) (ci := 3) (v := .int (nI n)) (C := RX3) (T := TX3) (N := 5) hx hb hts hiX3 hown hK hP 0 rfl rfl 2 (by decide) hf23 (fun _ h9 => h9) rfl dX3_worthOf_6 ?_
      refine lv_icmp_ge (tgt := 36) hx hb dX3_worthOf_9 (by decide) (fun c2 => ?_) (fun c2 => ?_)
      · skip
        have d2 := c2
        rw [nI_leI (by omega) (by omega)] at d2
        refine lv_iload_n hx hb dX3_worthOf_36 rfl (lv_at hl 1 rfl) ?_
        rw [← hQ]
        exact W.iret (v := v) hx hb hr (fun tS htS hWS => ⟨⟨v, (), rfl, by rw [hv, show k = n by omega], trivial⟩, hS.F htS⟩) hS.2.2 dX3_worthOf_37
      · skip
        have d2 := c2
        rw [nI_leI (by omega) (by omega)] at d2
        refine lv_iload_n hx hb dX3_worthOf_12 rfl (lv_at hl 3 rfl) ?_
        refine lv_iload_n hx hb dX3_worthOf_13 rfl (lv_at hl 0 rfl) ?_
        refine lv_ishr hx hb dX3_worthOf_14 ?_
        refine lv_iconst (v := nI 1) hx hb dX3_worthOf_15 (by decide) ?_
        refine lv_iand hx hb dX3_worthOf_16 ?_
        refine cn_i (y := nI (sb st k)) (sb_ok st k) ?_
        refine lv_iconst (v := nI 1) hx hb dX3_worthOf_17 (by decide) ?_
        refine lv_icmp_ne (tgt := 30) hx hb dX3_worthOf_18 (by decide) (fun c3 => ?_) (fun c3 => ?_)
        · skip
          have d3 := c3
          rw [nI_eq (by omega) (by omega)] at d3
          refine lv_iinc (v := nI (k + 1)) (lv' := [(3, .int (nI (k + 1))), (2, .int v), (0, .ref h0), (1, .int st)]) hx hb dX3_worthOf_30 hl (k := 0) rfl (nI_1 k) (by decide) rfl (fun ls hl => ?_)
          refine lv_goto (tgt := 4) hx hb dX3_worthOf_33 (by decide) ?_
          exact ih1 (k + 1) v _ _ _ (by omega) (by rw [hv]; simp only [pf]; first | rw [if_pos (by omega)] | rw [if_neg (by omega)]) hP hS (lv_sub hl [0, 1, 2, 3] rfl)
        · skip
          have d3 := c3
          rw [nI_eq (by omega) (by omega)] at d3
          refine lv_iload_n hx hb dX3_worthOf_21 rfl (lv_at hl 1 rfl) ?_
          refine lv_aload_n hx hb dX3_worthOf_22 rfl (lv_at hl 2 rfl) ?_
          refine va_get (D := D) (ci := 3) (v := .ref b2) (C := RX3) (T := TX3) (N := 5) hx hb hts hiX3 hown hK hP 0 rfl rfl 1 (by decide) hf15 (fun _ h9 => h9) rfl dX3_worthOf_23 ?_
          refine lv_iload_n hx hb dX3_worthOf_26 rfl (lv_at hl 0 rfl) ?_
          refine va_iald hx hb hK hP 1 0 rfl rfl (i := nI k) (vp_in_nI (by omega) (by omega)) dX3_worthOf_27 ?_
          refine cn_i (y := fo k) (congrArg fo (nI_clamp (by omega))) ?_
          refine lv_iadd hx hb dX3_worthOf_28 ?_
          refine lv_istore_n (lv' := [(2, .int (v + (fo k))), (3, .int (nI k)), (0, .ref h0), (1, .int st)]) hx hb dX3_worthOf_29 rfl hl (by decide) rfl (fun ls hl => ?_)
          refine lv_iinc (v := nI (k + 1)) (lv' := [(3, .int (nI (k + 1))), (2, .int (v + (fo k))), (0, .ref h0), (1, .int st)]) hx hb dX3_worthOf_30 hl (k := 1) rfl (nI_1 k) (by decide) rfl (fun ls hl => ?_)
          refine lv_goto (tgt := 4) hx hb dX3_worthOf_33 (by decide) ?_
          exact ih1 (k + 1) (v + (fo k)) _ _ _ (by omega) (by rw [hv]; simp only [pf]; first | rw [if_pos (by omega)] | rw [if_neg (by omega)]) hP hS (lv_sub hl [0, 1, 2, 3] rfl)
  exact loop1 (n + 1) 0 (nI 0) _ _ _ (by omega) rfl hP hS (lv_sub hl [0, 1, 2, 3] rfl)
def rm_c_X3_shareWorths : Room := { frames := 0, cells := 0, slots := 0, locals := 0 }
set_option maxHeartbeats 400000 in
set_option maxRecDepth 100000 in
theorem c_X3_shareWorths (l : Launch) (D : va_G) (cI cJ cZ : ClassId) (h0 : Nat) (b1 : Nat) (b2 : Nat) (n : Nat) (rc : Int32) (ry : Int32) (se : Int32) (wo : Int64) (wi : Int32) (fo : Nat → Int32) (hn : n ≤ 9) : Met l yX3_shareWorths wsX3_shareWorths rm_c_X3_shareWorths (pm_ D cI cJ cZ [.ref h0, .int se, .long wo, .int wi] [(h0, .inr (3, [.ref b1, .ref b2, .int (nI n), .int rc, .int ry])), (b2, .inl (cI, 9, .inl fo))]) (va_Qv (fun (u : (Nat → Int32)) => True) (fun (u : (Nat → Int32)) tS => va_P D vwCl [(h0, .inr (3, [.ref b1, .ref b2, .int (nI n), .int rc, .int ry])), (b2, .inl (cI, 9, .inl u))] tS.heap) (aA [h0, b2])) 0 0 (aA [h0, b2]) := by
  refine Met.ofW (cc := cX3_shareWorths) (maxL := 10) (ret := none) (by decide) rfl ?_
  intro p e s m args below meth c s₁ B hml hv
  obtain ⟨rfl, hP, hKN, hD0⟩ := hv
  have hK := hKN.1
  have hx := B.exec
  have hb := B.bytes
  have hr := B.returns
  have hts := atoms_spec (ws := wsX3_shareWorths) B.pre
  have hown : s.vm.findClass RX3 = some m.cls := findClass_of_methodNamed B.named
  have hlocks := B.notSynchronized
  have hiX3 : ∀ w ∈ wsX30, w ∈ wsX3_shareWorths := by decide +kernel
  have hf15 := hts (.fieldLink RX3 15 "LookBench$Rules" "worth" "[I") (by decide +kernel)
  have hf23 := hts (.fieldLink RX3 23 "LookBench$Rules" "parts" "I") (by decide +kernel)
  obtain ⟨as, has⟩ : ∃ z : List Nat, z = [h0, b2] := ⟨_, rfl⟩
  have hD := hD0.addr (as := as) (by rw [has]; rfl)
  have hS : va_S (aA as) s.heap s.heap [] := va_S.rf
  have hl := lv_entry ([.ref h0, .int se, .long wo, .int wi]) (n := 10) (Nat.le_of_ble_eq_true rfl)
  rw [lg_entry_eq]
  generalize (lg_sl ([.ref h0, .int se, .long wo, .int wi]) ++ List.replicate (10 - (lg_sl ([.ref h0, .int se, .long wo, .int wi])).length) Slot.unset).toArray = ls at hl ⊢
  have hl : lv_has ls 10 [(0, .ref h0), (1, .int se), (2, .long wo), (4, .int wi)] := hl
  generalize hQ : MQ below _ _ s _ _ _ = Q
  obtain ⟨H, hH⟩ : ∃ z, z = s.heap := ⟨_, rfl⟩
  have hP : va_P D vwCl [(h0, .inr (3, [.ref b1, .ref b2, .int (nI n), .int rc, .int ry])), (b2, .inl (cI, 9, .inl fo))] H := by rw [hH]; exact hP
  have hS : va_S (aA as) s.heap H [] := by rw [hH]; exact hS
  refine m_heap hH ?_
  clear hH
  refine lv_lload_n hx hb dX3_shareWorths_0 rfl (lv_at hl 2 rfl) ?_
  refine lv_lstore (lv' := [(5, .long wo), (0, .ref h0), (1, .int se), (2, .long wo), (4, .int wi)]) hx hb dX3_shareWorths_1 hl (by decide) rfl (fun ls hl => ?_)
  refine lv_lconst (v := lN 1) hx hb dX3_shareWorths_3 (by decide) ?_
  refine lv_iload hx hb dX3_shareWorths_4 (lv_at hl 4 rfl) ?_
  refine lv_lshl hx hb dX3_shareWorths_6 rfl ?_
  refine lv_lconst (v := lN 1) hx hb dX3_shareWorths_7 (by decide) ?_
  refine lv_lsub hx hb dX3_shareWorths_8 ?_
  refine lv_lstore (lv' := [(7, .long (((lN 1) <<< (wi.toInt64 &&& 63)) - (lN 1))), (5, .long wo), (0, .ref h0), (1, .int se), (2, .long wo), (4, .int wi)]) hx hb dX3_shareWorths_9 hl (by decide) rfl (fun ls hl => ?_)
  refine lv_iconst (v := nI 0) hx hb dX3_shareWorths_11 (by decide) ?_
  refine lv_istore (lv' := [(9, .int (nI 0)), (7, .long (((lN 1) <<< (wi.toInt64 &&& 63)) - (lN 1))), (5, .long wo), (0, .ref h0), (1, .int se), (2, .long wo), (4, .int wi)]) hx hb dX3_shareWorths_12 hl (by decide) rfl (fun ls hl => ?_)
  have loop1 : ∀ (fu : Nat) (k : Nat) (uo : Nat → Int32) (re : Int64) (H : Heap) (locs : List Loc) (ls : Array Slot), (k ≤ n ∧ n < k + fu) → va_P D vwCl [(h0, .inr (3, [.ref b1, .ref b2, .int (nI n), .int rc, .int ry])), (b2, .inl (cI, 9, .inl uo))] H → va_D (aA as) [(h0, .inr (3, [.ref b1, .ref b2, .int (nI n), .int rc, .int ry])), (b2, .inl (cI, 9, .inl uo))] → va_S (aA as) s.heap H locs → lv_has ls 10 [(9, .int (nI k)), (7, .long (((lN 1) <<< (wi.toInt64 &&& 63)) - (lN 1))), (5, .long re), (0, .ref h0), (1, .int se), (2, .long wo), (4, .int wi)] → W p l e (headSpec wsX3_shareWorths rm_c_X3_shareWorths).room s m ([.ref h0, .int se, .long wo, .int wi] : List Value).toArray below meth c H locs 0 0 Q (F0 m 14 ls []) := by
    intro fu
    induction fu with
    | zero => intro k uo re H locs ls hk; exact absurd hk (by omega)
    | succ fu ih1 =>
      intro k uo re H locs ls hk hP hD hS hl
      have hs1 := sb_lt se k
      refine lv_iload hx hb dX3_shareWorths_14 (lv_at hl 0 rfl) ?_
      refine lv_aload_n hx hb dX3_shareWorths_16 rfl (lv_at hl 3 rfl) ?_
      refine va_get (D := D) (ci := 3) (v := .int (nI n)) (C := RX3) (T := TX3) (N := 5) hx hb hts hiX3 hown hK hP 0 rfl rfl 2 (by decide) hf23 (fun _ h9 => h9) rfl dX3_shareWorths_17 ?_
      refine lv_icmp_ge (tgt := 76) hx hb dX3_shareWorths_20 (by decide) (fun c2 => ?_) (fun c2 => ?_)
      · skip
        have d2 := c2
        rw [nI_leI (by omega) (by omega)] at d2
        rw [← hQ]
        exact W.vret hx hb hr (fun tS htS hWS => ⟨⟨(uo), rfl, trivial, m_at htS hP⟩, by rw [← has]; exact hS.F htS⟩) (by rw [← has]; exact hS.2.2) dX3_shareWorths_76
      · skip
        have d2 := c2
        rw [nI_leI (by omega) (by omega)] at d2
        refine lv_aload_n hx hb dX3_shareWorths_23 rfl (lv_at hl 3 rfl) ?_
        refine va_get (D := D) (ci := 3) (v := .ref b2) (C := RX3) (T := TX3) (N := 5) hx hb hts hiX3 hown hK hP 0 rfl rfl 1 (by decide) hf15 (fun _ h9 => h9) rfl dX3_shareWorths_24 ?_
        refine lv_iload hx hb dX3_shareWorths_27 (lv_at hl 0 rfl) ?_
        refine lv_iconst (v := nI 0) hx hb dX3_shareWorths_29 (by decide) ?_
        refine va_iast hx hb hK hP hD hS 1 0 rfl rfl (i := nI k) (vp_in_nI (by omega) (by omega)) dX3_shareWorths_30 (fun H locs hP hD hS => ?_)
        have hP : va_P D vwCl [(h0, .inr (3, [.ref b1, .ref b2, .int (nI n), .int rc, .int ry])), (b2, .inl (cI, 9, .inl (upd uo (nI k).toNatClampNeg (nI 0))))] H := hP
        have hD : va_D (aA as) [(h0, .inr (3, [.ref b1, .ref b2, .int (nI n), .int rc, .int ry])), (b2, .inl (cI, 9, .inl (upd uo (nI k).toNatClampNeg (nI 0))))] := hD
        rw [nI_clamp (n := k) (by omega)] at hP hD
        refine lv_iload_n hx hb dX3_shareWorths_31 rfl (lv_at hl 4 rfl) ?_
        refine lv_iload hx hb dX3_shareWorths_32 (lv_at hl 0 rfl) ?_
        refine lv_ishr hx hb dX3_shareWorths_34 ?_
        refine lv_iconst (v := nI 1) hx hb dX3_shareWorths_35 (by decide) ?_
        refine lv_iand hx hb dX3_shareWorths_36 ?_
        refine cn_i (y := nI (sb se k)) (sb_ok se k) ?_
        refine lv_iconst (v := nI 1) hx hb dX3_shareWorths_37 (by decide) ?_
        refine lv_icmp_ne (tgt := 70) hx hb dX3_shareWorths_38 (by decide) (fun c3 => ?_) (fun c3 => ?_)
        · skip
          have d3 := c3
          rw [nI_eq (by omega) (by omega)] at d3
          refine lv_iinc (v := nI (k + 1)) (lv' := [(9, .int (nI (k + 1))), (7, .long (((lN 1) <<< (wi.toInt64 &&& 63)) - (lN 1))), (5, .long re), (0, .ref h0), (1, .int se), (2, .long wo), (4, .int wi)]) hx hb dX3_shareWorths_70 hl (k := 0) rfl (nI_1 k) (by decide) rfl (fun ls hl => ?_)
          refine lv_goto (tgt := 14) hx hb dX3_shareWorths_73 (by decide) ?_
          exact ih1 (k + 1) (upd uo k (nI 0)) re _ _ _ (by omega) hP hD hS (lv_sub hl [0, 1, 2, 3, 4, 5, 6] rfl)
        · skip
          have d3 := c3
          rw [nI_eq (by omega) (by omega)] at d3
          refine lv_aload_n hx hb dX3_shareWorths_41 rfl (lv_at hl 3 rfl) ?_
          refine va_get (D := D) (ci := 3) (v := .ref b2) (C := RX3) (T := TX3) (N := 5) hx hb hts hiX3 hown hK hP 0 rfl rfl 1 (by decide) hf15 (fun _ h9 => h9) rfl dX3_shareWorths_42 ?_
          refine lv_iload hx hb dX3_shareWorths_45 (lv_at hl 0 rfl) ?_
          refine lv_iload hx hb dX3_shareWorths_47 (lv_at hl 6 rfl) ?_
          refine lv_if_ne (tgt := 56) hx hb dX3_shareWorths_49 (by decide) (fun c4 => ?_) (fun c4 => ?_)
          · skip
            have d4 := c4
            rw [i_eq, i_z] at d4
            refine lv_lload hx hb dX3_shareWorths_56 (lv_at hl 2 rfl) ?_
            refine lv_lload hx hb dX3_shareWorths_58 (lv_at hl 1 rfl) ?_
            refine lv_land hx hb dX3_shareWorths_60 ?_
            refine lv_l2i hx hb dX3_shareWorths_61 rfl ?_
            refine va_iast hx hb hK hP hD hS 1 0 rfl rfl (i := nI k) (vp_in_nI (by omega) (by omega)) dX3_shareWorths_62 (fun H locs hP hD hS => ?_)
            have hP : va_P D vwCl [(h0, .inr (3, [.ref b1, .ref b2, .int (nI n), .int rc, .int ry])), (b2, .inl (cI, 9, .inl (upd (upd uo k (nI 0)) (nI k).toNatClampNeg ((re &&& (((lN 1) <<< (wi.toInt64 &&& 63)) - (lN 1))).toInt32))))] H := hP
            have hD : va_D (aA as) [(h0, .inr (3, [.ref b1, .ref b2, .int (nI n), .int rc, .int ry])), (b2, .inl (cI, 9, .inl (upd (upd uo k (nI 0)) (nI k).toNatClampNeg ((re &&& (((lN 1) <<< (wi.toInt64 &&& 63)) - (lN 1))).toInt32))))] := hD
            rw [nI_clamp (n := k) (by omega)] at hP hD
            refine lv_lload hx hb dX3_shareWorths_63 (lv_at hl 2 rfl) ?_
            refine lv_iload hx hb dX3_shareWorths_65 (lv_at hl 6 rfl) ?_
            refine lv_lushr hx hb dX3_shareWorths_67 rfl ?_
            refine lv_lstore (lv' := [(5, .long ((re.toUInt64 >>> (wi.toInt64.toUInt64 &&& Int64.toUInt64 63)).toInt64)), (9, .int (nI k)), (7, .long (((lN 1) <<< (wi.toInt64 &&& 63)) - (lN 1))), (0, .ref h0), (1, .int se), (2, .long wo), (4, .int wi)]) hx hb dX3_shareWorths_68 hl (by decide) rfl (fun ls hl => ?_)
            refine lv_iinc (v := nI (k + 1)) (lv' := [(9, .int (nI (k + 1))), (5, .long ((re.toUInt64 >>> (wi.toInt64.toUInt64 &&& Int64.toUInt64 63)).toInt64)), (7, .long (((lN 1) <<< (wi.toInt64 &&& 63)) - (lN 1))), (0, .ref h0), (1, .int se), (2, .long wo), (4, .int wi)]) hx hb dX3_shareWorths_70 hl (k := 1) rfl (nI_1 k) (by decide) rfl (fun ls hl => ?_)
            refine lv_goto (tgt := 14) hx hb dX3_shareWorths_73 (by decide) ?_
            exact ih1 (k + 1) (upd (upd uo k (nI 0)) k ((re &&& (((lN 1) <<< (wi.toInt64 &&& 63)) - (lN 1))).toInt32)) ((re.toUInt64 >>> (wi.toInt64.toUInt64 &&& Int64.toUInt64 63)).toInt64) _ _ _ (by omega) hP hD hS (lv_sub hl [0, 2, 1, 3, 4, 5, 6] rfl)
          · skip
            have d4 := c4
            rw [i_eq, i_z] at d4
            refine lv_iconst (v := nI 1) hx hb dX3_shareWorths_52 (by decide) ?_
            refine lv_goto (tgt := 62) hx hb dX3_shareWorths_53 (by decide) ?_
            refine va_iast hx hb hK hP hD hS 1 0 rfl rfl (i := nI k) (vp_in_nI (by omega) (by omega)) dX3_shareWorths_62 (fun H locs hP hD hS => ?_)
            have hP : va_P D vwCl [(h0, .inr (3, [.ref b1, .ref b2, .int (nI n), .int rc, .int ry])), (b2, .inl (cI, 9, .inl (upd (upd uo k (nI 0)) (nI k).toNatClampNeg (nI 1))))] H := hP
            have hD : va_D (aA as) [(h0, .inr (3, [.ref b1, .ref b2, .int (nI n), .int rc, .int ry])), (b2, .inl (cI, 9, .inl (upd (upd uo k (nI 0)) (nI k).toNatClampNeg (nI 1))))] := hD
            rw [nI_clamp (n := k) (by omega)] at hP hD
            refine lv_lload hx hb dX3_shareWorths_63 (lv_at hl 2 rfl) ?_
            refine lv_iload hx hb dX3_shareWorths_65 (lv_at hl 6 rfl) ?_
            refine lv_lushr hx hb dX3_shareWorths_67 rfl ?_
            refine lv_lstore (lv' := [(5, .long ((re.toUInt64 >>> (wi.toInt64.toUInt64 &&& Int64.toUInt64 63)).toInt64)), (9, .int (nI k)), (7, .long (((lN 1) <<< (wi.toInt64 &&& 63)) - (lN 1))), (0, .ref h0), (1, .int se), (2, .long wo), (4, .int wi)]) hx hb dX3_shareWorths_68 hl (by decide) rfl (fun ls hl => ?_)
            refine lv_iinc (v := nI (k + 1)) (lv' := [(9, .int (nI (k + 1))), (5, .long ((re.toUInt64 >>> (wi.toInt64.toUInt64 &&& Int64.toUInt64 63)).toInt64)), (7, .long (((lN 1) <<< (wi.toInt64 &&& 63)) - (lN 1))), (0, .ref h0), (1, .int se), (2, .long wo), (4, .int wi)]) hx hb dX3_shareWorths_70 hl (k := 1) rfl (nI_1 k) (by decide) rfl (fun ls hl => ?_)
            refine lv_goto (tgt := 14) hx hb dX3_shareWorths_73 (by decide) ?_
            exact ih1 (k + 1) (upd (upd uo k (nI 0)) k (nI 1)) ((re.toUInt64 >>> (wi.toInt64.toUInt64 &&& Int64.toUInt64 63)).toInt64) _ _ _ (by omega) hP hD hS (lv_sub hl [0, 2, 1, 3, 4, 5, 6] rfl)
  exact loop1 (n + 1) 0 fo wo _ _ _ (by omega) hP hD hS (lv_sub hl [0, 1, 2, 3, 4, 5, 6] rfl)
def rm_c_X3_addSome : Room := { frames := 1, cells := 0, slots := 0, locals := 29 }
set_option maxHeartbeats 400000 in
set_option maxRecDepth 100000 in
theorem c_X3_addSome (l : Launch) (D : va_G) (cI cJ cZ : ClassId) (h0 : Nat) (b1 : Nat) (b2 : Nat) (n : Nat) (c0 : Nat) (ry : Int32) (se : Int32) (wo : Int64) (wi : Int32) (kk : Int32) (fw : Nat → Int64) (fo : Nat → Int32) (hn : n ≤ 9) (hc : c0 < 40) : Met l yX3_addSome wsX3_addSome rm_c_X3_addSome (pm_ D cI cJ cZ [.ref h0, .int se, .long wo, .int wi, .int kk] [(h0, .inr (3, [.ref b1, .ref b2, .int (nI n), .int (nI c0), .int ry])), (b1, .inl (cJ, 320, .inr (.inl fw))), (b2, .inl (cI, 9, .inl fo))]) (va_Qi (fun (r : Int32) (u : (Nat → Int64) × (Nat → Int32)) => r = nI c0) (fun (u : (Nat → Int64) × (Nat → Int32)) tS => va_P D vwCl [(h0, .inr (3, [.ref b1, .ref b2, .int (nI n), .int (nI (c0 + 1)), .int ry])), (b1, .inl (cJ, 320, .inr (.inl u.1))), (b2, .inl (cI, 9, .inl u.2))] tS.heap) (aA [h0, b1, b2])) 0 0 (aA [h0, b1, b2]) := by
  refine Met.ofW (cc := cX3_addSome) (maxL := 7) (ret := (some .int)) (by decide) rfl ?_
  intro p e s m args below meth c s₁ B hml hv
  obtain ⟨rfl, hP, hKN, hD0⟩ := hv
  have hK := hKN.1
  have hx := B.exec
  have hb := B.bytes
  have hr := B.returns
  have hts := atoms_spec (ws := wsX3_addSome) B.pre
  have hown : s.vm.findClass RX3 = some m.cls := findClass_of_methodNamed B.named
  have hlocks := B.notSynchronized
  have hiX3 : ∀ w ∈ wsX30, w ∈ wsX3_addSome := by decide +kernel
  have hf23 := hts (.fieldLink RX3 23 "LookBench$Rules" "parts" "I") (by decide +kernel)
  have hf27 := hts (.fieldLink RX3 27 "LookBench$Rules" "count" "I") (by decide +kernel)
  obtain ⟨as, has⟩ : ∃ z : List Nat, z = [h0, b1, b2] := ⟨_, rfl⟩
  have hD := hD0.addr (as := as) (by rw [has]; rfl)
  have hS : va_S (aA as) s.heap s.heap [] := va_S.rf
  have hl := lv_entry ([.ref h0, .int se, .long wo, .int wi, .int kk]) (n := 7) (Nat.le_of_ble_eq_true rfl)
  rw [lg_entry_eq]
  generalize (lg_sl ([.ref h0, .int se, .long wo, .int wi, .int kk]) ++ List.replicate (7 - (lg_sl ([.ref h0, .int se, .long wo, .int wi, .int kk])).length) Slot.unset).toArray = ls at hl ⊢
  have hl : lv_has ls 7 [(0, .ref h0), (1, .int se), (2, .long wo), (4, .int wi), (5, .int kk)] := hl
  generalize hQ : MQ below _ _ s _ _ _ = Q
  obtain ⟨H, hH⟩ : ∃ z, z = s.heap := ⟨_, rfl⟩
  have hP : va_P D vwCl [(h0, .inr (3, [.ref b1, .ref b2, .int (nI n), .int (nI c0), .int ry])), (b1, .inl (cJ, 320, .inr (.inl fw))), (b2, .inl (cI, 9, .inl fo))] H := by rw [hH]; exact hP
  have hS : va_S (aA as) s.heap H [] := by rw [hH]; exact hS
  refine m_heap hH ?_
  clear hH
  have h2n := m_pow hn
  have h2p := m_powp n
  refine lv_aload_n hx hb dX3_addSome_0 rfl (lv_at hl 0 rfl) ?_
  refine lv_iload_n hx hb dX3_addSome_1 rfl (lv_at hl 1 rfl) ?_
  refine lv_lload_n hx hb dX3_addSome_2 rfl (lv_at hl 2 rfl) ?_
  refine lv_iload hx hb dX3_addSome_3 (lv_at hl 3 rfl) ?_
  refine mu_v (n := 3) (wc := [(h0, .inr (3, [.ref b1, .ref b2, .int (nI n), .int (nI c0), .int ry])), (b2, .inl (cI, 9, .inl fo))]) (va_runV (As := [.int se, .long wo, .int wi]) (rest := []) ⟨hx, hb, hml, hown, hts⟩ (c_X3_shareWorths l D cI cJ cZ h0 b1 b2 n (nI c0) ry se wo wi fo (by first | assumption | omega)) (cwV 3 hts gX3_addSome_X3_shareWorths rfl rfl rfl (by decide +kernel) ⟨Nat.le_of_ble_eq_true rfl, Nat.le_of_ble_eq_true rfl⟩) ⟨pm_blind, va_recv hK hP (ci := 3) (q0 := 0) rfl rfl, fun U hU hW => ⟨rfl, by rw [hU]; exact hP.sub (ws' := [(h0, .inr (3, [.ref b1, .ref b2, .int (nI n), .int (nI c0), .int ry])), (b2, .inl (cI, 9, .inl fo))]) [0, 2] rfl, hKN.warm hW, (hD.sub (ws' := [(h0, .inr (3, [.ref b1, .ref b2, .int (nI n), .int (nI c0), .int ry])), (b2, .inl (cI, 9, .inl fo))]) [0, 2] (by decide) rfl).weaken (fun _ _ _ _ => trivial)⟩⟩ rfl rfl hl.1 rfl (lv_room (Nat.le_of_ble_eq_true rfl)) dX3_addSome_5 ⟨Nat.le_of_ble_eq_true rfl, Nat.le_of_ble_eq_true rfl⟩) hS hP hD (fun (u : (Nat → Int32)) => [(h0, .inr (3, [.ref b1, .ref b2, .int (nI n), .int (nI c0), .int ry])), (b1, .inl (cJ, 320, .inr (.inl fw))), (b2, .inl (cI, 9, .inl u))]) [0, 2] [1] rfl rfl (fun _ => rfl) (fun _ => rfl) (fun _ => rfl) (fun _ => rfl) (by decide) (by decide) (fun u1 H locs w1r hP hD hS => ?_)
  obtain ⟨u1_uo, rfl⟩ : ∃ z, z = u1 := ⟨_, rfl⟩
  have hP : va_P D vwCl [(h0, .inr (3, [.ref b1, .ref b2, .int (nI n), .int (nI c0), .int ry])), (b1, .inl (cJ, 320, .inr (.inl fw))), (b2, .inl (cI, 9, .inl u1_uo))] H := hP
  have hD : va_D (aA as) [(h0, .inr (3, [.ref b1, .ref b2, .int (nI n), .int (nI c0), .int ry])), (b1, .inl (cJ, 320, .inr (.inl fw))), (b2, .inl (cI, 9, .inl u1_uo))] := hD
  have w1 : True := w1r
  clear w1r
  refine lv_aload_n hx hb dX3_addSome_8 rfl (lv_at hl 0 rfl) ?_
  refine mu_v (n := 3) (wc := [(h0, .inr (3, [.ref b1, .ref b2, .int (nI n), .int (nI c0), .int ry])), (b1, .inl (cJ, 320, .inr (.inl fw)))]) (va_runV (As := []) (rest := []) ⟨hx, hb, hml, hown, hts⟩ (c_X3_wipe l D cI cJ cZ h0 b1 b2 c0 (nI n) ry fw (by first | assumption | omega)) (cwV 0 hts gX3_addSome_X3_wipe rfl rfl rfl (by decide +kernel) ⟨Nat.le_of_ble_eq_true rfl, Nat.le_of_ble_eq_true rfl⟩) ⟨pm_blind, va_recv hK hP (ci := 3) (q0 := 0) rfl rfl, fun U hU hW => ⟨rfl, by rw [hU]; exact hP.sub (ws' := [(h0, .inr (3, [.ref b1, .ref b2, .int (nI n), .int (nI c0), .int ry])), (b1, .inl (cJ, 320, .inr (.inl fw)))]) [0, 1] rfl, hKN.warm hW, (hD.sub (ws' := [(h0, .inr (3, [.ref b1, .ref b2, .int (nI n), .int (nI c0), .int ry])), (b1, .inl (cJ, 320, .inr (.inl fw)))]) [0, 1] (by decide) rfl).weaken (fun _ _ _ _ => trivial)⟩⟩ rfl rfl hl.1 rfl (lv_room (Nat.le_of_ble_eq_true rfl)) dX3_addSome_9 ⟨Nat.le_of_ble_eq_true rfl, Nat.le_of_ble_eq_true rfl⟩) hS hP hD (fun (u : (Nat → Int64)) => [(h0, .inr (3, [.ref b1, .ref b2, .int (nI n), .int (nI c0), .int ry])), (b1, .inl (cJ, 320, .inr (.inl u))), (b2, .inl (cI, 9, .inl u1_uo))]) [0, 1] [2] rfl rfl (fun _ => rfl) (fun _ => rfl) (fun _ => rfl) (fun _ => rfl) (by decide) (by decide) (fun u2 H locs w2r hP hD hS => ?_)
  obtain ⟨u2_uw, rfl⟩ : ∃ z, z = u2 := ⟨_, rfl⟩
  have hP : va_P D vwCl [(h0, .inr (3, [.ref b1, .ref b2, .int (nI n), .int (nI c0), .int ry])), (b1, .inl (cJ, 320, .inr (.inl u2_uw))), (b2, .inl (cI, 9, .inl u1_uo))] H := hP
  have hD : va_D (aA as) [(h0, .inr (3, [.ref b1, .ref b2, .int (nI n), .int (nI c0), .int ry])), (b1, .inl (cJ, 320, .inr (.inl u2_uw))), (b2, .inl (cI, 9, .inl u1_uo))] := hD
  have w2 : ∀ z, u2_uw z = if c0 * 8 ≤ z ∧ z < c0 * 8 + 8 then lN 0 else fw z := w2r
  clear w2r
  refine lv_iconst (v := nI 0) hx hb dX3_addSome_12 (by decide) ?_
  refine lv_istore (lv' := [(6, .int (nI 0)), (0, .ref h0), (1, .int se), (2, .long wo), (4, .int wi), (5, .int kk)]) hx hb dX3_addSome_13 hl (by decide) rfl (fun ls hl => ?_)
  have loop3 : ∀ (fu : Nat) (k : Nat) (uw : Nat → Int64) (H : Heap) (locs : List Loc) (ls : Array Slot), (k ≤ 2 ^ n ∧ 2 ^ n < k + fu) → va_P D vwCl [(h0, .inr (3, [.ref b1, .ref b2, .int (nI n), .int (nI c0), .int ry])), (b1, .inl (cJ, 320, .inr (.inl uw))), (b2, .inl (cI, 9, .inl u1_uo))] H → va_D (aA as) [(h0, .inr (3, [.ref b1, .ref b2, .int (nI n), .int (nI c0), .int ry])), (b1, .inl (cJ, 320, .inr (.inl uw))), (b2, .inl (cI, 9, .inl u1_uo))] → va_S (aA as) s.heap H locs → lv_has ls 7 [(6, .int (nI k)), (0, .ref h0), (1, .int se), (2, .long wo), (4, .int wi), (5, .int kk)] → W p l e (headSpec wsX3_addSome rm_c_X3_addSome).room s m ([.ref h0, .int se, .long wo, .int wi, .int kk] : List Value).toArray below meth c H locs 0 0 Q (F0 m 15 ls []) := by
    intro fu
    induction fu with
    | zero => intro k uw H locs ls hk; exact absurd hk (by omega)
    | succ fu ih3 =>
      intro k uw H locs ls hk hP hD hS hl
      refine lv_iload hx hb dX3_addSome_15 (lv_at hl 0 rfl) ?_
      refine lv_iconst (v := nI 1) hx hb dX3_addSome_17 (by decide) ?_
      refine lv_aload_n hx hb dX3_addSome_18 rfl (lv_at hl 1 rfl) ?_
      refine va_get (D := D) (ci := 3) (v := .int (nI n)) (C := RX3) (T := TX3) (N := 5) hx hb hts hiX3 hown hK hP 0 rfl rfl 2 (by decide) hf23 (fun _ h9 => h9) rfl dX3_addSome_19 ?_
      refine lv_ishl hx hb dX3_addSome_22 ?_
      refine cn_i (y := nI (2 ^ n)) (m_shl1 (by omega)) ?_
      refine lv_icmp_ge (tgt := 49) hx hb dX3_addSome_23 (by decide) (fun c4 => ?_) (fun c4 => ?_)
      · skip
        have d4 := c4
        rw [nI_leI (by omega) (by omega)] at d4
        refine lv_aload_n hx hb dX3_addSome_49 rfl (lv_at hl 1 rfl) ?_
        refine lv_dup hx hb dX3_addSome_50 rfl ?_
        refine va_get (D := D) (ci := 3) (v := .int (nI c0)) (C := RX3) (T := TX3) (N := 5) hx hb hts hiX3 hown hK hP 0 rfl rfl 3 (by decide) hf27 (fun _ h9 => h9) rfl dX3_addSome_51 ?_
        refine lv_dup_x1 hx hb dX3_addSome_54 rfl rfl ?_
        refine lv_iconst (v := nI 1) hx hb dX3_addSome_55 (by decide) ?_
        refine lv_iadd hx hb dX3_addSome_56 ?_
        refine cn_i (y := nI (c0 + 1)) (nI_add c0 1) ?_
        refine va_put (D := D) (ci := 3) (v := .int (nI (c0 + 1))) (ty := tyX3 3) (C := RX3) (T := TX3) (N := 5) hx hb hts hiX3 tyX3 tyX3_ok nmX3 hown hK hP hD hS 0 rfl rfl 3 (by decide) hf27 (fun _ h9 => h9) rfl (by decide +kernel) rfl rfl (Nat.le_of_ble_eq_true rfl) dX3_addSome_57 (fun H locs hP hD hS => ?_)
        have hP : va_P D vwCl [(h0, .inr (3, [.ref b1, .ref b2, .int (nI n), .int (nI (c0 + 1)), .int ry])), (b1, .inl (cJ, 320, .inr (.inl uw))), (b2, .inl (cI, 9, .inl u1_uo))] H := hP
        have hD : va_D (aA as) [(h0, .inr (3, [.ref b1, .ref b2, .int (nI n), .int (nI (c0 + 1)), .int ry])), (b1, .inl (cJ, 320, .inr (.inl uw))), (b2, .inl (cI, 9, .inl u1_uo))] := hD
        rw [← hQ]
        exact W.iret (v := nI c0) hx hb hr (fun tS htS hWS => ⟨⟨(nI c0), (uw, u1_uo), rfl, rfl, m_at htS hP⟩, by rw [← has]; exact hS.F htS⟩) (by rw [← has]; exact hS.2.2) dX3_addSome_60
      · skip
        have d4 := c4
        rw [nI_leI (by omega) (by omega)] at d4
        refine lv_aload_n hx hb dX3_addSome_26 rfl (lv_at hl 1 rfl) ?_
        refine lv_iload hx hb dX3_addSome_27 (lv_at hl 0 rfl) ?_
        refine pu_i (va_runV (As := [.int (nI k)]) (rest := []) ⟨hx, hb, hml, hown, hts⟩ (c_X3_worthOf l D cI cJ cZ h0 b1 b2 n (nI c0) ry (nI k) u1_uo (by first | assumption | omega)) (cwV 1 hts gX3_addSome_X3_worthOf rfl rfl rfl (by decide +kernel) ⟨Nat.le_of_ble_eq_true rfl, Nat.le_of_ble_eq_true rfl⟩) ⟨pc_blind, va_recv hK hP (ci := 3) (q0 := 0) rfl rfl, fun U hU hW => ⟨rfl, by rw [hU]; exact hP.sub (ws' := [(h0, .inr (3, [.ref b1, .ref b2, .int (nI n), .int (nI c0), .int ry])), (b2, .inl (cI, 9, .inl u1_uo))]) [0, 2] rfl, hKN.warm hW⟩⟩ rfl rfl hl.1 rfl (lv_room (Nat.le_of_ble_eq_true rfl)) dX3_addSome_29 ⟨Nat.le_of_ble_eq_true rfl, Nat.le_of_ble_eq_true rfl⟩) hS hP (fun r5 H locs w5r hP hS => ?_)
        have w5 : r5 = pf u1_uo (nI k) n := w5r
        clear w5r
        refine lv_iload hx hb dX3_addSome_32 (lv_at hl 5 rfl) ?_
        refine lv_icmp_lt (tgt := 43) hx hb dX3_addSome_34 (by decide) (fun c6 => ?_) (fun c6 => ?_)
        · skip
          have d6 := c6
          rw [i_lt] at d6
          refine lv_iinc (v := nI (k + 1)) (lv' := [(6, .int (nI (k + 1))), (0, .ref h0), (1, .int se), (2, .long wo), (4, .int wi), (5, .int kk)]) hx hb dX3_addSome_43 hl (k := 0) rfl (nI_1 k) (by decide) rfl (fun ls hl => ?_)
          refine lv_goto (tgt := 15) hx hb dX3_addSome_46 (by decide) ?_
          exact ih3 (k + 1) uw _ _ _ (by omega) hP hD hS (lv_sub hl [0, 1, 2, 3, 4, 5] rfl)
        · skip
          have d6 := c6
          rw [i_lt] at d6
          refine lv_aload_n hx hb dX3_addSome_37 rfl (lv_at hl 1 rfl) ?_
          refine lv_iload hx hb dX3_addSome_38 (lv_at hl 0 rfl) ?_
          refine mu_v (n := 3) (wc := [(h0, .inr (3, [.ref b1, .ref b2, .int (nI n), .int (nI c0), .int ry])), (b1, .inl (cJ, 320, .inr (.inl uw)))]) (va_runV (As := [.int (nI k)]) (rest := []) ⟨hx, hb, hml, hown, hts⟩ (c_X3_mark l D cI cJ cZ h0 b1 b2 c0 k (nI n) ry uw (by first | assumption | omega) (by first | assumption | omega)) (cwV 1 hts gX3_addSome_X3_mark rfl rfl rfl (by decide +kernel) ⟨Nat.le_of_ble_eq_true rfl, Nat.le_of_ble_eq_true rfl⟩) ⟨pm_blind, va_recv hK hP (ci := 3) (q0 := 0) rfl rfl, fun U hU hW => ⟨rfl, by rw [hU]; exact hP.sub (ws' := [(h0, .inr (3, [.ref b1, .ref b2, .int (nI n), .int (nI c0), .int ry])), (b1, .inl (cJ, 320, .inr (.inl uw)))]) [0, 1] rfl, hKN.warm hW, (hD.sub (ws' := [(h0, .inr (3, [.ref b1, .ref b2, .int (nI n), .int (nI c0), .int ry])), (b1, .inl (cJ, 320, .inr (.inl uw)))]) [0, 1] (by decide) rfl).weaken (fun _ _ _ _ => trivial)⟩⟩ rfl rfl hl.1 rfl (lv_room (Nat.le_of_ble_eq_true rfl)) dX3_addSome_40 ⟨Nat.le_of_ble_eq_true rfl, Nat.le_of_ble_eq_true rfl⟩) hS hP hD (fun (u : Unit) => [(h0, .inr (3, [.ref b1, .ref b2, .int (nI n), .int (nI c0), .int ry])), (b1, .inl (cJ, 320, .inr (.inl (mkG uw c0 k)))), (b2, .inl (cI, 9, .inl u1_uo))]) [0, 1] [2] rfl rfl (fun _ => rfl) (fun _ => rfl) (fun _ => rfl) (fun _ => rfl) (by decide) (by decide) (fun u7 H locs w7r hP hD hS => ?_)
          have hP : va_P D vwCl [(h0, .inr (3, [.ref b1, .ref b2, .int (nI n), .int (nI c0), .int ry])), (b1, .inl (cJ, 320, .inr (.inl (mkG uw c0 k)))), (b2, .inl (cI, 9, .inl u1_uo))] H := hP
          have hD : va_D (aA as) [(h0, .inr (3, [.ref b1, .ref b2, .int (nI n), .int (nI c0), .int ry])), (b1, .inl (cJ, 320, .inr (.inl (mkG uw c0 k)))), (b2, .inl (cI, 9, .inl u1_uo))] := hD
          have w7 : True := w7r
          clear w7r
          refine lv_iinc (v := nI (k + 1)) (lv' := [(6, .int (nI (k + 1))), (0, .ref h0), (1, .int se), (2, .long wo), (4, .int wi), (5, .int kk)]) hx hb dX3_addSome_43 hl (k := 0) rfl (nI_1 k) (by decide) rfl (fun ls hl => ?_)
          refine lv_goto (tgt := 15) hx hb dX3_addSome_46 (by decide) ?_
          exact ih3 (k + 1) (mkG uw c0 k) _ _ _ (by omega) hP hD hS (lv_sub hl [0, 1, 2, 3, 4, 5] rfl)
  exact loop3 (2 ^ n + 1) 0 u2_uw _ _ _ (by omega) hP hD hS (lv_sub hl [0, 1, 2, 3, 4, 5] rfl)
