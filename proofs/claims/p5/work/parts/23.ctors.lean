def rm_c_X4_init : Room := { frames := 2, cells := 3, slots := 27, locals := 46 }
set_option maxHeartbeats 400000 in
set_option maxRecDepth 100000 in
theorem c_X4_init (l : Launch) (D : va_G) (cI cJ cZ : ClassId) (sz : Nat) (h0 : Nat)  : Met l yX4_init wsX4_init rm_c_X4_init (pn_ D cI cJ cZ sz [.ref h0] [(h0, .inr (4, [.null, .null, .null, .int 0, .int 0, .int 0]))]) (va_Qv (fun (u : (Nat → Int32) × (Nat → Int32) × (Nat → Int32)) => ∀ z, z < 9 → u.1 z = nI 1 ∧ u.2.1 z = nI 1 ∧ u.2.2 z = nI 1) (fun (u : (Nat → Int32) × (Nat → Int32) × (Nat → Int32)) tS => ∃ (a1 a2 a3 : Nat), va_P D vwCl [(h0, .inr (4, [.ref a1, .ref a2, .ref a3, .int (nI 1), .int (nI 0), .int (nI 0)])), (a1, .inl (cI, 9, .inl u.1)), (a2, .inl (cI, 9, .inl u.2.1)), (a3, .inl (cI, 9, .inl u.2.2))] tS.heap ∧ va_D (va_A [(h0, .inr (4, [.null, .null, .null, .int 0, .int 0, .int 0]))] sz) [(h0, .inr (4, [.ref a1, .ref a2, .ref a3, .int (nI 1), .int (nI 0), .int (nI 0)])), (a1, .inl (cI, 9, .inl u.1)), (a2, .inl (cI, 9, .inl u.2.1)), (a3, .inl (cI, 9, .inl u.2.2))]) (va_A [(h0, .inr (4, [.null, .null, .null, .int 0, .int 0, .int 0]))] sz)) 3 27 (va_A [(h0, .inr (4, [.null, .null, .null, .int 0, .int 0, .int 0]))] sz) := by
  refine Met.ofW (cc := cX4_init) (maxL := 1) (ret := none) (by decide) rfl ?_
  intro p e s m args below meth c s₁ B hml hv
  obtain ⟨rfl, hsz, hP, hKN, hD0⟩ := hv
  have hK := hKN.1
  have hx := B.exec
  have hb := B.bytes
  have hr := B.returns
  have hts := atoms_spec (ws := wsX4_init) B.pre
  have hown : s.vm.findClass RX4 = some m.cls := findClass_of_methodNamed B.named
  have hlocks := B.notSynchronized
  have hin : meth.name = "<init>" := (name_of_methodNamed B.named B.method).1
  have hiX4 : ∀ w ∈ wsX40, w ∈ wsX4_init := by decide +kernel
  have hf9 := hts (.fieldLink RX4 9 "LookBench$Shelf" "goods" "[I") (by decide +kernel)
  have hf15 := hts (.fieldLink RX4 15 "LookBench$Shelf" "bads" "[I") (by decide +kernel)
  have hf18 := hts (.fieldLink RX4 18 "LookBench$Shelf" "prices" "[I") (by decide +kernel)
  subst hsz
  have hD := hD0.self (sz := s.heap.size)
  generalize hAe : va_A [(h0, .inr (4, [.null, .null, .null, .int 0, .int 0, .int 0]))] s.heap.size = A at hD ⊢
  have hA : ∀ q : Nat, s.heap.size ≤ q → A q := fun q h => by rw [← hAe]; exact Or.inr h
  have hS : va_S A s.heap s.heap [] := va_S.rf
  have hl := lv_entry ([.ref h0]) (n := 1) (Nat.le_of_ble_eq_true rfl)
  rw [lg_entry_eq]
  generalize (lg_sl ([.ref h0]) ++ List.replicate (1 - (lg_sl ([.ref h0])).length) Slot.unset).toArray = ls at hl ⊢
  have hl : lv_has ls 1 [(0, .ref h0)] := hl
  generalize hQ : MQ below _ _ s _ _ _ = Q
  obtain ⟨H, hH⟩ : ∃ z, z = s.heap := ⟨_, rfl⟩
  have hP : va_P D vwCl [(h0, .inr (4, [.null, .null, .null, .int 0, .int 0, .int 0]))] H := by rw [hH]; exact hP
  have hS : va_S A s.heap H [] := by rw [hH]; exact hS
  refine m_heap hH ?_
  clear hH
  refine lv_aload_n hx hb dX4_init_0 rfl (lv_at hl 0 rfl) ?_
  refine W.objInit hx hb hown (hts (.methodLink RX4 3 objectInit) (by decide +kernel)) (hts (.instanceMethod objectInit) (by decide +kernel)) (hts (.code objectInit ⟨#[0xb1]⟩ 1 none) (by decide +kernel)) rfl (by rw [hml]; exact hl.1) rfl dX4_init_1 (Nat.le_of_ble_eq_true rfl) (Nat.le_of_ble_eq_true rfl) ?_
  refine W.eq (g2 := F0 m 4 ls []) rfl ?_
  refine lv_aload_n hx hb dX4_init_4 rfl (lv_at hl 0 rfl) ?_
  refine lv_bipush (v := nI 9) hx hb dX4_init_5 (by decide) ?_
  refine va_newa (atype := .int) hx hb (hts (.arrayClass .int) (by decide +kernel)) (ty := .int) rfl hK hP hD hS hA (n := nI 9) (N' := 9) (a0 := (9, .inl (fun _ => 0))) (m_newI 9) (by decide) (nI_clamp (by omega)) (m_bI (by omega)) (Nat.le_of_ble_eq_true rfl) (Nat.le_of_ble_eq_true rfl) dX4_init_7 (fun q2 cA2 H hK2 hP hD hS => ?_)
  obtain rfl : cI = cA2 := m_arr hK hK2 0 3 rfl rfl (Or.inl rfl)
  have hP : va_P D vwCl [(h0, .inr (4, [.null, .null, .null, .int 0, .int 0, .int 0])), (q2, .inl (cI, 9, .inl (fun _ => 0)))] H := hP
  have hD : va_D A [(h0, .inr (4, [.null, .null, .null, .int 0, .int 0, .int 0])), (q2, .inl (cI, 9, .inl (fun _ => 0)))] := hD
  refine W.widen (k := 1) (n := 9) (by omega) (by omega) ?_
  refine va_putF (D := D) (ci := 4) (v := .ref q2) (ty := tyX4 0) (C := RX4) (T := TX4) (N := 6) hx hb hts hiX4 tyX4 tyX4_ok nmX4 hown hK hP hD hS 0 rfl rfl 0 (by decide) hf9 (fun _ h9 => h9) rfl hin rfl (by decide +kernel) rfl rfl (Nat.le_of_ble_eq_true rfl) dX4_init_9 (fun H locs hP hD hS => ?_)
  have hP : va_P D vwCl [(h0, .inr (4, [.ref q2, .null, .null, .int 0, .int 0, .int 0])), (q2, .inl (cI, 9, .inl (fun _ => 0)))] H := hP
  have hD : va_D A [(h0, .inr (4, [.ref q2, .null, .null, .int 0, .int 0, .int 0])), (q2, .inl (cI, 9, .inl (fun _ => 0)))] := hD
  refine lv_aload_n hx hb dX4_init_12 rfl (lv_at hl 0 rfl) ?_
  refine lv_bipush (v := nI 9) hx hb dX4_init_13 (by decide) ?_
  refine va_newa (atype := .int) hx hb (hts (.arrayClass .int) (by decide +kernel)) (ty := .int) rfl hK hP hD hS hA (n := nI 9) (N' := 9) (a0 := (9, .inl (fun _ => 0))) (m_newI 9) (by decide) (nI_clamp (by omega)) (m_bI (by omega)) (Nat.le_of_ble_eq_true rfl) (Nat.le_of_ble_eq_true rfl) dX4_init_15 (fun q3 cA3 H hK3 hP hD hS => ?_)
  obtain rfl : cI = cA3 := m_arr hK hK3 0 3 rfl rfl (Or.inl rfl)
  have hP : va_P D vwCl [(h0, .inr (4, [.ref q2, .null, .null, .int 0, .int 0, .int 0])), (q2, .inl (cI, 9, .inl (fun _ => 0))), (q3, .inl (cI, 9, .inl (fun _ => 0)))] H := hP
  have hD : va_D A [(h0, .inr (4, [.ref q2, .null, .null, .int 0, .int 0, .int 0])), (q2, .inl (cI, 9, .inl (fun _ => 0))), (q3, .inl (cI, 9, .inl (fun _ => 0)))] := hD
  refine W.widen (k := 2) (n := 18) (by omega) (by omega) ?_
  refine va_putF (D := D) (ci := 4) (v := .ref q3) (ty := tyX4 1) (C := RX4) (T := TX4) (N := 6) hx hb hts hiX4 tyX4 tyX4_ok nmX4 hown hK hP hD hS 0 rfl rfl 1 (by decide) hf15 (fun _ h9 => h9) rfl hin rfl (by decide +kernel) rfl rfl (Nat.le_of_ble_eq_true rfl) dX4_init_17 (fun H locs hP hD hS => ?_)
  have hP : va_P D vwCl [(h0, .inr (4, [.ref q2, .ref q3, .null, .int 0, .int 0, .int 0])), (q2, .inl (cI, 9, .inl (fun _ => 0))), (q3, .inl (cI, 9, .inl (fun _ => 0)))] H := hP
  have hD : va_D A [(h0, .inr (4, [.ref q2, .ref q3, .null, .int 0, .int 0, .int 0])), (q2, .inl (cI, 9, .inl (fun _ => 0))), (q3, .inl (cI, 9, .inl (fun _ => 0)))] := hD
  refine lv_aload_n hx hb dX4_init_20 rfl (lv_at hl 0 rfl) ?_
  refine lv_bipush (v := nI 9) hx hb dX4_init_21 (by decide) ?_
  refine va_newa (atype := .int) hx hb (hts (.arrayClass .int) (by decide +kernel)) (ty := .int) rfl hK hP hD hS hA (n := nI 9) (N' := 9) (a0 := (9, .inl (fun _ => 0))) (m_newI 9) (by decide) (nI_clamp (by omega)) (m_bI (by omega)) (Nat.le_of_ble_eq_true rfl) (Nat.le_of_ble_eq_true rfl) dX4_init_23 (fun q4 cA4 H hK4 hP hD hS => ?_)
  obtain rfl : cI = cA4 := m_arr hK hK4 0 3 rfl rfl (Or.inl rfl)
  have hP : va_P D vwCl [(h0, .inr (4, [.ref q2, .ref q3, .null, .int 0, .int 0, .int 0])), (q2, .inl (cI, 9, .inl (fun _ => 0))), (q3, .inl (cI, 9, .inl (fun _ => 0))), (q4, .inl (cI, 9, .inl (fun _ => 0)))] H := hP
  have hD : va_D A [(h0, .inr (4, [.ref q2, .ref q3, .null, .int 0, .int 0, .int 0])), (q2, .inl (cI, 9, .inl (fun _ => 0))), (q3, .inl (cI, 9, .inl (fun _ => 0))), (q4, .inl (cI, 9, .inl (fun _ => 0)))] := hD
  refine W.widen (k := 3) (n := 27) (by omega) (by omega) ?_
  refine va_putF (D := D) (ci := 4) (v := .ref q4) (ty := tyX4 2) (C := RX4) (T := TX4) (N := 6) hx hb hts hiX4 tyX4 tyX4_ok nmX4 hown hK hP hD hS 0 rfl rfl 2 (by decide) hf18 (fun _ h9 => h9) rfl hin rfl (by decide +kernel) rfl rfl (Nat.le_of_ble_eq_true rfl) dX4_init_25 (fun H locs hP hD hS => ?_)
  have hP : va_P D vwCl [(h0, .inr (4, [.ref q2, .ref q3, .ref q4, .int 0, .int 0, .int 0])), (q2, .inl (cI, 9, .inl (fun _ => 0))), (q3, .inl (cI, 9, .inl (fun _ => 0))), (q4, .inl (cI, 9, .inl (fun _ => 0)))] H := hP
  have hD : va_D A [(h0, .inr (4, [.ref q2, .ref q3, .ref q4, .int 0, .int 0, .int 0])), (q2, .inl (cI, 9, .inl (fun _ => 0))), (q3, .inl (cI, 9, .inl (fun _ => 0))), (q4, .inl (cI, 9, .inl (fun _ => 0)))] := hD
  refine lv_aload_n hx hb dX4_init_28 rfl (lv_at hl 0 rfl) ?_
  refine lv_iconst (v := nI 1) hx hb dX4_init_29 (by decide) ?_
  refine mu_v (n := 4) (wc := [(h0, .inr (4, [.ref q2, .ref q3, .ref q4, .int 0, .int 0, .int 0])), (q2, .inl (cI, 9, .inl (fun _ => 0))), (q3, .inl (cI, 9, .inl (fun _ => 0))), (q4, .inl (cI, 9, .inl (fun _ => 0)))]) (va_runV (As := [.int (nI 1)]) (rest := []) ⟨hx, hb, hml, hown, hts⟩ (c_X4_lay l D cI cJ cZ h0 q2 q3 q4 0 0 0 (nI 1) (fun _ => 0) (fun _ => 0) (fun _ => 0)) (cwV 1 hts gX4_init_X4_lay rfl rfl rfl (by decide +kernel) ⟨Nat.le_of_ble_eq_true rfl, Nat.le_of_ble_eq_true rfl⟩) ⟨pm_blind, va_recv hK hP (ci := 4) (q0 := 0) rfl rfl, fun U hU hW => ⟨rfl, by rw [hU]; exact hP.sub (ws' := [(h0, .inr (4, [.ref q2, .ref q3, .ref q4, .int 0, .int 0, .int 0])), (q2, .inl (cI, 9, .inl (fun _ => 0))), (q3, .inl (cI, 9, .inl (fun _ => 0))), (q4, .inl (cI, 9, .inl (fun _ => 0)))]) [0, 1, 2, 3] rfl, hKN.warm hW, (hD.sub (ws' := [(h0, .inr (4, [.ref q2, .ref q3, .ref q4, .int 0, .int 0, .int 0])), (q2, .inl (cI, 9, .inl (fun _ => 0))), (q3, .inl (cI, 9, .inl (fun _ => 0))), (q4, .inl (cI, 9, .inl (fun _ => 0)))]) [0, 1, 2, 3] (by decide) rfl).weaken (fun _ _ _ _ => trivial)⟩⟩ rfl rfl hl.1 rfl (lv_room (Nat.le_of_ble_eq_true rfl)) dX4_init_30 ⟨Nat.le_of_ble_eq_true rfl, Nat.le_of_ble_eq_true rfl⟩) hS hP hD (fun (u : (Nat → Int32) × (Nat → Int32) × (Nat → Int32)) => [(h0, .inr (4, [.ref q2, .ref q3, .ref q4, .int (nI 1), .int (nI 0), .int (nI 0)])), (q2, .inl (cI, 9, .inl u.1)), (q3, .inl (cI, 9, .inl u.2.1)), (q4, .inl (cI, 9, .inl u.2.2))]) [0, 1, 2, 3] [] rfl rfl (fun _ => rfl) (fun _ => rfl) (fun _ => rfl) (fun _ => rfl) (by decide) (by decide) (fun u5 H locs w5r hP hD hS => ?_)
  obtain ⟨u5_ug, u5_ub, u5_ur⟩ := u5
  have hP : va_P D vwCl [(h0, .inr (4, [.ref q2, .ref q3, .ref q4, .int (nI 1), .int (nI 0), .int (nI 0)])), (q2, .inl (cI, 9, .inl u5_ug)), (q3, .inl (cI, 9, .inl u5_ub)), (q4, .inl (cI, 9, .inl u5_ur))] H := hP
  have hD : va_D A [(h0, .inr (4, [.ref q2, .ref q3, .ref q4, .int (nI 1), .int (nI 0), .int (nI 0)])), (q2, .inl (cI, 9, .inl u5_ug)), (q3, .inl (cI, 9, .inl u5_ub)), (q4, .inl (cI, 9, .inl u5_ur))] := hD
  have w5 : ∀ z, z < 9 → u5_ug z = nI 1 ∧ u5_ub z = nI 1 ∧ u5_ur z = nI 1 := w5r
  clear w5r
  rw [← hQ]
  have hP9 := hP.sub (ws' := [(h0, .inr (4, [.ref q2, .ref q3, .ref q4, .int (nI 1), .int (nI 0), .int (nI 0)])), (q2, .inl (cI, 9, .inl u5_ug)), (q3, .inl (cI, 9, .inl u5_ub)), (q4, .inl (cI, 9, .inl u5_ur))]) [0, 1, 2, 3] rfl
  have hD9 := hD.sub (ws' := [(h0, .inr (4, [.ref q2, .ref q3, .ref q4, .int (nI 1), .int (nI 0), .int (nI 0)])), (q2, .inl (cI, 9, .inl u5_ug)), (q3, .inl (cI, 9, .inl u5_ub)), (q4, .inl (cI, 9, .inl u5_ur))]) [0, 1, 2, 3] (by decide) rfl
  exact W.vret hx hb hr (fun tS htS hWS => ⟨⟨(u5_ug, u5_ub, u5_ur), rfl, by assumption, q2, q3, q4, m_at htS hP9, hD9⟩, hS.F htS⟩) hS.2.2 dX4_init_33
def rm_c_X3_init : Room := { frames := 1, cells := 2, slots := 329, locals := 21 }
set_option maxHeartbeats 400000 in
set_option maxRecDepth 100000 in
theorem c_X3_init (l : Launch) (D : va_G) (cI cJ cZ : ClassId) (sz : Nat) (h0 : Nat)  : Met l yX3_init wsX3_init rm_c_X3_init (pn_ D cI cJ cZ sz [.ref h0] [(h0, .inr (3, [.null, .null, .int 0, .int 0, .int 0]))]) (va_Qv (fun (u : Unit) => True) (fun (u : Unit) tS => ∃ (b1 b2 : Nat), va_P D vwCl [(h0, .inr (3, [.ref b1, .ref b2, .int (nI 1), .int (nI 0), .int (-1 : Int32)])), (b1, .inl (cJ, 320, .inr (.inl (fun _ => 0)))), (b2, .inl (cI, 9, .inl (fun _ => 0)))] tS.heap ∧ va_D (va_A [(h0, .inr (3, [.null, .null, .int 0, .int 0, .int 0]))] sz) [(h0, .inr (3, [.ref b1, .ref b2, .int (nI 1), .int (nI 0), .int (-1 : Int32)])), (b1, .inl (cJ, 320, .inr (.inl (fun _ => 0)))), (b2, .inl (cI, 9, .inl (fun _ => 0)))]) (va_A [(h0, .inr (3, [.null, .null, .int 0, .int 0, .int 0]))] sz)) 2 329 (va_A [(h0, .inr (3, [.null, .null, .int 0, .int 0, .int 0]))] sz) := by
  refine Met.ofW (cc := cX3_init) (maxL := 1) (ret := none) (by decide) rfl ?_
  intro p e s m args below meth c s₁ B hml hv
  obtain ⟨rfl, hsz, hP, hKN, hD0⟩ := hv
  have hK := hKN.1
  have hx := B.exec
  have hb := B.bytes
  have hr := B.returns
  have hts := atoms_spec (ws := wsX3_init) B.pre
  have hown : s.vm.findClass RX3 = some m.cls := findClass_of_methodNamed B.named
  have hlocks := B.notSynchronized
  have hin : meth.name = "<init>" := (name_of_methodNamed B.named B.method).1
  have hiX3 : ∀ w ∈ wsX30, w ∈ wsX3_init := by decide +kernel
  have hf11 := hts (.fieldLink RX3 11 "LookBench$Rules" "words" "[J") (by decide +kernel)
  have hf15 := hts (.fieldLink RX3 15 "LookBench$Rules" "worth" "[I") (by decide +kernel)
  subst hsz
  have hD := hD0.self (sz := s.heap.size)
  generalize hAe : va_A [(h0, .inr (3, [.null, .null, .int 0, .int 0, .int 0]))] s.heap.size = A at hD ⊢
  have hA : ∀ q : Nat, s.heap.size ≤ q → A q := fun q h => by rw [← hAe]; exact Or.inr h
  have hS : va_S A s.heap s.heap [] := va_S.rf
  have hl := lv_entry ([.ref h0]) (n := 1) (Nat.le_of_ble_eq_true rfl)
  rw [lg_entry_eq]
  generalize (lg_sl ([.ref h0]) ++ List.replicate (1 - (lg_sl ([.ref h0])).length) Slot.unset).toArray = ls at hl ⊢
  have hl : lv_has ls 1 [(0, .ref h0)] := hl
  generalize hQ : MQ below _ _ s _ _ _ = Q
  obtain ⟨H, hH⟩ : ∃ z, z = s.heap := ⟨_, rfl⟩
  have hP : va_P D vwCl [(h0, .inr (3, [.null, .null, .int 0, .int 0, .int 0]))] H := by rw [hH]; exact hP
  have hS : va_S A s.heap H [] := by rw [hH]; exact hS
  refine m_heap hH ?_
  clear hH
  refine lv_aload_n hx hb dX3_init_0 rfl (lv_at hl 0 rfl) ?_
  refine W.objInit hx hb hown (hts (.methodLink RX3 3 objectInit) (by decide +kernel)) (hts (.instanceMethod objectInit) (by decide +kernel)) (hts (.code objectInit ⟨#[0xb1]⟩ 1 none) (by decide +kernel)) rfl (by rw [hml]; exact hl.1) rfl dX3_init_1 (Nat.le_of_ble_eq_true rfl) (Nat.le_of_ble_eq_true rfl) ?_
  refine W.eq (g2 := F0 m 4 ls []) rfl ?_
  refine lv_aload_n hx hb dX3_init_4 rfl (lv_at hl 0 rfl) ?_
  refine lv_sipush (v := nI 320) hx hb dX3_init_5 (by decide) ?_
  refine va_newa (atype := .long) hx hb (hts (.arrayClass .long) (by decide +kernel)) (ty := .long) rfl hK hP hD hS hA (n := nI 320) (N' := 320) (a0 := (320, .inr (.inl (fun _ => 0)))) (m_newJ 320) (by decide) (nI_clamp (by omega)) (m_bJ (by omega)) (Nat.le_of_ble_eq_true rfl) (Nat.le_of_ble_eq_true rfl) dX3_init_8 (fun q2 cA2 H hK2 hP hD hS => ?_)
  obtain rfl : cJ = cA2 := m_arr hK hK2 1 3 rfl rfl (Or.inr (Or.inl rfl))
  have hP : va_P D vwCl [(h0, .inr (3, [.null, .null, .int 0, .int 0, .int 0])), (q2, .inl (cJ, 320, .inr (.inl (fun _ => 0))))] H := hP
  have hD : va_D A [(h0, .inr (3, [.null, .null, .int 0, .int 0, .int 0])), (q2, .inl (cJ, 320, .inr (.inl (fun _ => 0))))] := hD
  refine W.widen (k := 1) (n := 320) (by omega) (by omega) ?_
  refine va_putF (D := D) (ci := 3) (v := .ref q2) (ty := tyX3 0) (C := RX3) (T := TX3) (N := 5) hx hb hts hiX3 tyX3 tyX3_ok nmX3 hown hK hP hD hS 0 rfl rfl 0 (by decide) hf11 (fun _ h9 => h9) rfl hin rfl (by decide +kernel) rfl rfl (Nat.le_of_ble_eq_true rfl) dX3_init_10 (fun H locs hP hD hS => ?_)
  have hP : va_P D vwCl [(h0, .inr (3, [.ref q2, .null, .int 0, .int 0, .int 0])), (q2, .inl (cJ, 320, .inr (.inl (fun _ => 0))))] H := hP
  have hD : va_D A [(h0, .inr (3, [.ref q2, .null, .int 0, .int 0, .int 0])), (q2, .inl (cJ, 320, .inr (.inl (fun _ => 0))))] := hD
  refine lv_aload_n hx hb dX3_init_13 rfl (lv_at hl 0 rfl) ?_
  refine lv_bipush (v := nI 9) hx hb dX3_init_14 (by decide) ?_
  refine va_newa (atype := .int) hx hb (hts (.arrayClass .int) (by decide +kernel)) (ty := .int) rfl hK hP hD hS hA (n := nI 9) (N' := 9) (a0 := (9, .inl (fun _ => 0))) (m_newI 9) (by decide) (nI_clamp (by omega)) (m_bI (by omega)) (Nat.le_of_ble_eq_true rfl) (Nat.le_of_ble_eq_true rfl) dX3_init_16 (fun q3 cA3 H hK3 hP hD hS => ?_)
  obtain rfl : cI = cA3 := m_arr hK hK3 0 3 rfl rfl (Or.inl rfl)
  have hP : va_P D vwCl [(h0, .inr (3, [.ref q2, .null, .int 0, .int 0, .int 0])), (q2, .inl (cJ, 320, .inr (.inl (fun _ => 0)))), (q3, .inl (cI, 9, .inl (fun _ => 0)))] H := hP
  have hD : va_D A [(h0, .inr (3, [.ref q2, .null, .int 0, .int 0, .int 0])), (q2, .inl (cJ, 320, .inr (.inl (fun _ => 0)))), (q3, .inl (cI, 9, .inl (fun _ => 0)))] := hD
  refine W.widen (k := 2) (n := 329) (by omega) (by omega) ?_
  refine va_putF (D := D) (ci := 3) (v := .ref q3) (ty := tyX3 1) (C := RX3) (T := TX3) (N := 5) hx hb hts hiX3 tyX3 tyX3_ok nmX3 hown hK hP hD hS 0 rfl rfl 1 (by decide) hf15 (fun _ h9 => h9) rfl hin rfl (by decide +kernel) rfl rfl (Nat.le_of_ble_eq_true rfl) dX3_init_18 (fun H locs hP hD hS => ?_)
  have hP : va_P D vwCl [(h0, .inr (3, [.ref q2, .ref q3, .int 0, .int 0, .int 0])), (q2, .inl (cJ, 320, .inr (.inl (fun _ => 0)))), (q3, .inl (cI, 9, .inl (fun _ => 0)))] H := hP
  have hD : va_D A [(h0, .inr (3, [.ref q2, .ref q3, .int 0, .int 0, .int 0])), (q2, .inl (cJ, 320, .inr (.inl (fun _ => 0)))), (q3, .inl (cI, 9, .inl (fun _ => 0)))] := hD
  refine lv_aload_n hx hb dX3_init_21 rfl (lv_at hl 0 rfl) ?_
  refine lv_iconst (v := nI 1) hx hb dX3_init_22 (by decide) ?_
  refine mu_v (n := 3) (wc := [(h0, .inr (3, [.ref q2, .ref q3, .int 0, .int 0, .int 0]))]) (va_runV (As := [.int (nI 1)]) (rest := []) ⟨hx, hb, hml, hown, hts⟩ (c_X3_begin l D cI cJ cZ h0 q2 q3 0 0 0 (nI 1)) (cwV 1 hts gX3_init_X3_begin rfl rfl rfl (by decide +kernel) ⟨Nat.le_of_ble_eq_true rfl, Nat.le_of_ble_eq_true rfl⟩) ⟨pm_blind, va_recv hK hP (ci := 3) (q0 := 0) rfl rfl, fun U hU hW => ⟨rfl, by rw [hU]; exact hP.sub (ws' := [(h0, .inr (3, [.ref q2, .ref q3, .int 0, .int 0, .int 0]))]) [0] rfl, hKN.warm hW, (hD.sub (ws' := [(h0, .inr (3, [.ref q2, .ref q3, .int 0, .int 0, .int 0]))]) [0] (by decide) rfl).weaken (fun _ _ _ _ => trivial)⟩⟩ rfl rfl hl.1 rfl (lv_room (Nat.le_of_ble_eq_true rfl)) dX3_init_23 ⟨Nat.le_of_ble_eq_true rfl, Nat.le_of_ble_eq_true rfl⟩) hS hP hD (fun (u : Unit) => [(h0, .inr (3, [.ref q2, .ref q3, .int (nI 1), .int (nI 0), .int (-1 : Int32)])), (q2, .inl (cJ, 320, .inr (.inl (fun _ => 0)))), (q3, .inl (cI, 9, .inl (fun _ => 0)))]) [0] [1, 2] rfl rfl (fun _ => rfl) (fun _ => rfl) (fun _ => rfl) (fun _ => rfl) (by decide) (by decide) (fun u4 H locs w4r hP hD hS => ?_)
  have hP : va_P D vwCl [(h0, .inr (3, [.ref q2, .ref q3, .int (nI 1), .int (nI 0), .int (-1 : Int32)])), (q2, .inl (cJ, 320, .inr (.inl (fun _ => 0)))), (q3, .inl (cI, 9, .inl (fun _ => 0)))] H := hP
  have hD : va_D A [(h0, .inr (3, [.ref q2, .ref q3, .int (nI 1), .int (nI 0), .int (-1 : Int32)])), (q2, .inl (cJ, 320, .inr (.inl (fun _ => 0)))), (q3, .inl (cI, 9, .inl (fun _ => 0)))] := hD
  have w4 : True := w4r
  clear w4r
  rw [← hQ]
  have hP9 := hP.sub (ws' := [(h0, .inr (3, [.ref q2, .ref q3, .int (nI 1), .int (nI 0), .int (-1 : Int32)])), (q2, .inl (cJ, 320, .inr (.inl (fun _ => 0)))), (q3, .inl (cI, 9, .inl (fun _ => 0)))]) [0, 1, 2] rfl
  have hD9 := hD.sub (ws' := [(h0, .inr (3, [.ref q2, .ref q3, .int (nI 1), .int (nI 0), .int (-1 : Int32)])), (q2, .inl (cJ, 320, .inr (.inl (fun _ => 0)))), (q3, .inl (cI, 9, .inl (fun _ => 0)))]) [0, 1, 2] (by decide) rfl
  exact W.vret hx hb hr (fun tS htS hWS => ⟨⟨(), rfl, trivial, q2, q3, m_at htS hP9, hD9⟩, hS.F htS⟩) hS.2.2 dX3_init_26
def rm_c_X2_init : Room := { frames := 1, cells := 1, slots := 9, locals := 20 }
set_option maxHeartbeats 400000 in
set_option maxRecDepth 100000 in
theorem c_X2_init (l : Launch) (D : va_G) (cI cJ cZ : ClassId) (sz : Nat) (h0 : Nat)  : Met l yX2_init wsX2_init rm_c_X2_init (pn_ D cI cJ cZ sz [.ref h0] [(h0, .inr (2, [.null, .int 0]))]) (va_Qv (fun (u : Unit) => True) (fun (u : Unit) tS => ∃ (r1 : Nat), va_P D vwCl [(h0, .inr (2, [.ref r1, .int (nI 0)])), (r1, .inl (cI, 9, .inl (fun _ => 0)))] tS.heap ∧ va_D (va_A [(h0, .inr (2, [.null, .int 0]))] sz) [(h0, .inr (2, [.ref r1, .int (nI 0)])), (r1, .inl (cI, 9, .inl (fun _ => 0)))]) (va_A [(h0, .inr (2, [.null, .int 0]))] sz)) 1 9 (va_A [(h0, .inr (2, [.null, .int 0]))] sz) := by
  refine Met.ofW (cc := cX2_init) (maxL := 1) (ret := none) (by decide) rfl ?_
  intro p e s m args below meth c s₁ B hml hv
  obtain ⟨rfl, hsz, hP, hKN, hD0⟩ := hv
  have hK := hKN.1
  have hx := B.exec
  have hb := B.bytes
  have hr := B.returns
  have hts := atoms_spec (ws := wsX2_init) B.pre
  have hown : s.vm.findClass RX2 = some m.cls := findClass_of_methodNamed B.named
  have hlocks := B.notSynchronized
  have hin : meth.name = "<init>" := (name_of_methodNamed B.named B.method).1
  have hiX2 : ∀ w ∈ wsX20, w ∈ wsX2_init := by decide +kernel
  have hf9 := hts (.fieldLink RX2 9 "LookBench$Queue" "row" "[I") (by decide +kernel)
  subst hsz
  have hD := hD0.self (sz := s.heap.size)
  generalize hAe : va_A [(h0, .inr (2, [.null, .int 0]))] s.heap.size = A at hD ⊢
  have hA : ∀ q : Nat, s.heap.size ≤ q → A q := fun q h => by rw [← hAe]; exact Or.inr h
  have hS : va_S A s.heap s.heap [] := va_S.rf
  have hl := lv_entry ([.ref h0]) (n := 1) (Nat.le_of_ble_eq_true rfl)
  rw [lg_entry_eq]
  generalize (lg_sl ([.ref h0]) ++ List.replicate (1 - (lg_sl ([.ref h0])).length) Slot.unset).toArray = ls at hl ⊢
  have hl : lv_has ls 1 [(0, .ref h0)] := hl
  generalize hQ : MQ below _ _ s _ _ _ = Q
  obtain ⟨H, hH⟩ : ∃ z, z = s.heap := ⟨_, rfl⟩
  have hP : va_P D vwCl [(h0, .inr (2, [.null, .int 0]))] H := by rw [hH]; exact hP
  have hS : va_S A s.heap H [] := by rw [hH]; exact hS
  refine m_heap hH ?_
  clear hH
  refine lv_aload_n hx hb dX2_init_0 rfl (lv_at hl 0 rfl) ?_
  refine W.objInit hx hb hown (hts (.methodLink RX2 3 objectInit) (by decide +kernel)) (hts (.instanceMethod objectInit) (by decide +kernel)) (hts (.code objectInit ⟨#[0xb1]⟩ 1 none) (by decide +kernel)) rfl (by rw [hml]; exact hl.1) rfl dX2_init_1 (Nat.le_of_ble_eq_true rfl) (Nat.le_of_ble_eq_true rfl) ?_
  refine W.eq (g2 := F0 m 4 ls []) rfl ?_
  refine lv_aload_n hx hb dX2_init_4 rfl (lv_at hl 0 rfl) ?_
  refine lv_bipush (v := nI 9) hx hb dX2_init_5 (by decide) ?_
  refine va_newa (atype := .int) hx hb (hts (.arrayClass .int) (by decide +kernel)) (ty := .int) rfl hK hP hD hS hA (n := nI 9) (N' := 9) (a0 := (9, .inl (fun _ => 0))) (m_newI 9) (by decide) (nI_clamp (by omega)) (m_bI (by omega)) (Nat.le_of_ble_eq_true rfl) (Nat.le_of_ble_eq_true rfl) dX2_init_7 (fun q2 cA2 H hK2 hP hD hS => ?_)
  obtain rfl : cI = cA2 := m_arr hK hK2 0 3 rfl rfl (Or.inl rfl)
  have hP : va_P D vwCl [(h0, .inr (2, [.null, .int 0])), (q2, .inl (cI, 9, .inl (fun _ => 0)))] H := hP
  have hD : va_D A [(h0, .inr (2, [.null, .int 0])), (q2, .inl (cI, 9, .inl (fun _ => 0)))] := hD
  refine W.widen (k := 1) (n := 9) (by omega) (by omega) ?_
  refine va_putF (D := D) (ci := 2) (v := .ref q2) (ty := tyX2 0) (C := RX2) (T := TX2) (N := 2) hx hb hts hiX2 tyX2 tyX2_ok nmX2 hown hK hP hD hS 0 rfl rfl 0 (by decide) hf9 (fun _ h9 => h9) rfl hin rfl (by decide +kernel) rfl rfl (Nat.le_of_ble_eq_true rfl) dX2_init_9 (fun H locs hP hD hS => ?_)
  have hP : va_P D vwCl [(h0, .inr (2, [.ref q2, .int 0])), (q2, .inl (cI, 9, .inl (fun _ => 0)))] H := hP
  have hD : va_D A [(h0, .inr (2, [.ref q2, .int 0])), (q2, .inl (cI, 9, .inl (fun _ => 0)))] := hD
  rw [← hQ]
  have hP9 := hP.sub (ws' := [(h0, .inr (2, [.ref q2, .int (nI 0)])), (q2, .inl (cI, 9, .inl (fun _ => 0)))]) [0, 1] rfl
  have hD9 := hD.sub (ws' := [(h0, .inr (2, [.ref q2, .int (nI 0)])), (q2, .inl (cI, 9, .inl (fun _ => 0)))]) [0, 1] (by decide) rfl
  exact W.vret hx hb hr (fun tS htS hWS => ⟨⟨(), rfl, trivial, q2, m_at htS hP9, hD9⟩, hS.F htS⟩) hS.2.2 dX2_init_12
def rm_c_X5_init : Room := { frames := 1, cells := 1, slots := 9, locals := 20 }
set_option maxHeartbeats 400000 in
set_option maxRecDepth 100000 in
theorem c_X5_init (l : Launch) (D : va_G) (cI cJ cZ : ClassId) (sz : Nat) (h0 : Nat)  : Met l yX5_init wsX5_init rm_c_X5_init (pn_ D cI cJ cZ sz [.ref h0] [(h0, .inr (5, [.null, .int 0]))]) (va_Qv (fun (u : Unit) => True) (fun (u : Unit) tS => ∃ (r1 : Nat), va_P D vwCl [(h0, .inr (5, [.ref r1, .int (nI 0)])), (r1, .inl (cI, 9, .inl (fun _ => 0)))] tS.heap ∧ va_D (va_A [(h0, .inr (5, [.null, .int 0]))] sz) [(h0, .inr (5, [.ref r1, .int (nI 0)])), (r1, .inl (cI, 9, .inl (fun _ => 0)))]) (va_A [(h0, .inr (5, [.null, .int 0]))] sz)) 1 9 (va_A [(h0, .inr (5, [.null, .int 0]))] sz) := by
  refine Met.ofW (cc := cX5_init) (maxL := 1) (ret := none) (by decide) rfl ?_
  intro p e s m args below meth c s₁ B hml hv
  obtain ⟨rfl, hsz, hP, hKN, hD0⟩ := hv
  have hK := hKN.1
  have hx := B.exec
  have hb := B.bytes
  have hr := B.returns
  have hts := atoms_spec (ws := wsX5_init) B.pre
  have hown : s.vm.findClass RX5 = some m.cls := findClass_of_methodNamed B.named
  have hlocks := B.notSynchronized
  have hin : meth.name = "<init>" := (name_of_methodNamed B.named B.method).1
  have hiX5 : ∀ w ∈ wsX50, w ∈ wsX5_init := by decide +kernel
  have hf9 := hts (.fieldLink RX5 9 "LookBench$Trail" "looks" "[I") (by decide +kernel)
  subst hsz
  have hD := hD0.self (sz := s.heap.size)
  generalize hAe : va_A [(h0, .inr (5, [.null, .int 0]))] s.heap.size = A at hD ⊢
  have hA : ∀ q : Nat, s.heap.size ≤ q → A q := fun q h => by rw [← hAe]; exact Or.inr h
  have hS : va_S A s.heap s.heap [] := va_S.rf
  have hl := lv_entry ([.ref h0]) (n := 1) (Nat.le_of_ble_eq_true rfl)
  rw [lg_entry_eq]
  generalize (lg_sl ([.ref h0]) ++ List.replicate (1 - (lg_sl ([.ref h0])).length) Slot.unset).toArray = ls at hl ⊢
  have hl : lv_has ls 1 [(0, .ref h0)] := hl
  generalize hQ : MQ below _ _ s _ _ _ = Q
  obtain ⟨H, hH⟩ : ∃ z, z = s.heap := ⟨_, rfl⟩
  have hP : va_P D vwCl [(h0, .inr (5, [.null, .int 0]))] H := by rw [hH]; exact hP
  have hS : va_S A s.heap H [] := by rw [hH]; exact hS
  refine m_heap hH ?_
  clear hH
  refine lv_aload_n hx hb dX5_init_0 rfl (lv_at hl 0 rfl) ?_
  refine W.objInit hx hb hown (hts (.methodLink RX5 3 objectInit) (by decide +kernel)) (hts (.instanceMethod objectInit) (by decide +kernel)) (hts (.code objectInit ⟨#[0xb1]⟩ 1 none) (by decide +kernel)) rfl (by rw [hml]; exact hl.1) rfl dX5_init_1 (Nat.le_of_ble_eq_true rfl) (Nat.le_of_ble_eq_true rfl) ?_
  refine W.eq (g2 := F0 m 4 ls []) rfl ?_
  refine lv_aload_n hx hb dX5_init_4 rfl (lv_at hl 0 rfl) ?_
  refine lv_bipush (v := nI 9) hx hb dX5_init_5 (by decide) ?_
  refine va_newa (atype := .int) hx hb (hts (.arrayClass .int) (by decide +kernel)) (ty := .int) rfl hK hP hD hS hA (n := nI 9) (N' := 9) (a0 := (9, .inl (fun _ => 0))) (m_newI 9) (by decide) (nI_clamp (by omega)) (m_bI (by omega)) (Nat.le_of_ble_eq_true rfl) (Nat.le_of_ble_eq_true rfl) dX5_init_7 (fun q2 cA2 H hK2 hP hD hS => ?_)
  obtain rfl : cI = cA2 := m_arr hK hK2 0 3 rfl rfl (Or.inl rfl)
  have hP : va_P D vwCl [(h0, .inr (5, [.null, .int 0])), (q2, .inl (cI, 9, .inl (fun _ => 0)))] H := hP
  have hD : va_D A [(h0, .inr (5, [.null, .int 0])), (q2, .inl (cI, 9, .inl (fun _ => 0)))] := hD
  refine W.widen (k := 1) (n := 9) (by omega) (by omega) ?_
  refine va_putF (D := D) (ci := 5) (v := .ref q2) (ty := tyX5 0) (C := RX5) (T := TX5) (N := 2) hx hb hts hiX5 tyX5 tyX5_ok nmX5 hown hK hP hD hS 0 rfl rfl 0 (by decide) hf9 (fun _ h9 => h9) rfl hin rfl (by decide +kernel) rfl rfl (Nat.le_of_ble_eq_true rfl) dX5_init_9 (fun H locs hP hD hS => ?_)
  have hP : va_P D vwCl [(h0, .inr (5, [.ref q2, .int 0])), (q2, .inl (cI, 9, .inl (fun _ => 0)))] H := hP
  have hD : va_D A [(h0, .inr (5, [.ref q2, .int 0])), (q2, .inl (cI, 9, .inl (fun _ => 0)))] := hD
  rw [← hQ]
  have hP9 := hP.sub (ws' := [(h0, .inr (5, [.ref q2, .int (nI 0)])), (q2, .inl (cI, 9, .inl (fun _ => 0)))]) [0, 1] rfl
  have hD9 := hD.sub (ws' := [(h0, .inr (5, [.ref q2, .int (nI 0)])), (q2, .inl (cI, 9, .inl (fun _ => 0)))]) [0, 1] (by decide) rfl
  exact W.vret hx hb hr (fun tS htS hWS => ⟨⟨(), rfl, trivial, q2, m_at htS hP9, hD9⟩, hS.F htS⟩) hS.2.2 dX5_init_12
def rm_c_X1_init : Room := { frames := 1, cells := 3, slots := 9, locals := 20 }
set_option maxHeartbeats 400000 in
set_option maxRecDepth 100000 in
theorem c_X1_init (l : Launch) (D : va_G) (cI cJ cZ : ClassId) (sz : Nat) (h0 : Nat) (s1 : Nat) (s2 : Nat) (s3 : Nat)  : Met l yX1_init wsX1_init rm_c_X1_init (pn_ D cI cJ cZ sz [.ref h0, .ref s1, .ref s2, .ref s3] [(h0, .inr (1, [.null, .null, .null, .null, .null, .null, .int 0]))]) (va_Qv (fun (u : Unit) => True) (fun (u : Unit) tS => ∃ (p4 p5 p6 : Nat), va_P D vwCl [(h0, .inr (1, [.ref s1, .ref s2, .ref s3, .ref p4, .ref p5, .ref p6, .int (nI 0)])), (p4, .inl (cI, 9, .inl (fun _ => 0))), (p5, .inl (cJ, 0, .inr (.inl (fun _ => 0)))), (p6, .inl (cI, 0, .inl (fun _ => 0)))] tS.heap ∧ va_D (va_A [(h0, .inr (1, [.null, .null, .null, .null, .null, .null, .int 0]))] sz) [(h0, .inr (1, [.ref s1, .ref s2, .ref s3, .ref p4, .ref p5, .ref p6, .int (nI 0)])), (p4, .inl (cI, 9, .inl (fun _ => 0))), (p5, .inl (cJ, 0, .inr (.inl (fun _ => 0)))), (p6, .inl (cI, 0, .inl (fun _ => 0)))]) (va_A [(h0, .inr (1, [.null, .null, .null, .null, .null, .null, .int 0]))] sz)) 3 9 (va_A [(h0, .inr (1, [.null, .null, .null, .null, .null, .null, .int 0]))] sz) := by
  refine Met.ofW (cc := cX1_init) (maxL := 4) (ret := none) (by decide) rfl ?_
  intro p e s m args below meth c s₁ B hml hv
  obtain ⟨rfl, hsz, hP, hKN, hD0⟩ := hv
  have hK := hKN.1
  have hx := B.exec
  have hb := B.bytes
  have hr := B.returns
  have hts := atoms_spec (ws := wsX1_init) B.pre
  have hown : s.vm.findClass RX1 = some m.cls := findClass_of_methodNamed B.named
  have hlocks := B.notSynchronized
  have hin : meth.name = "<init>" := (name_of_methodNamed B.named B.method).1
  have hiX1 : ∀ w ∈ wsX10, w ∈ wsX1_init := by decide +kernel
  have hf9 := hts (.fieldLink RX1 9 "LookBench$Plans" "open" "[I") (by decide +kernel)
  have hf15 := hts (.fieldLink RX1 15 "LookBench$Plans" "best" "[J") (by decide +kernel)
  have hf19 := hts (.fieldLink RX1 19 "LookBench$Plans" "worst" "[I") (by decide +kernel)
  have hf22 := hts (.fieldLink RX1 22 "LookBench$Plans" "shelf" "LLookBench$Shelf;") (by decide +kernel)
  have hf26 := hts (.fieldLink RX1 26 "LookBench$Plans" "rules" "LLookBench$Rules;") (by decide +kernel)
  have hf30 := hts (.fieldLink RX1 30 "LookBench$Plans" "queue" "LLookBench$Queue;") (by decide +kernel)
  subst hsz
  have hD := hD0.self (sz := s.heap.size)
  generalize hAe : va_A [(h0, .inr (1, [.null, .null, .null, .null, .null, .null, .int 0]))] s.heap.size = A at hD ⊢
  have hA : ∀ q : Nat, s.heap.size ≤ q → A q := fun q h => by rw [← hAe]; exact Or.inr h
  have hS : va_S A s.heap s.heap [] := va_S.rf
  have hl := lv_entry ([.ref h0, .ref s1, .ref s2, .ref s3]) (n := 4) (Nat.le_of_ble_eq_true rfl)
  rw [lg_entry_eq]
  generalize (lg_sl ([.ref h0, .ref s1, .ref s2, .ref s3]) ++ List.replicate (4 - (lg_sl ([.ref h0, .ref s1, .ref s2, .ref s3])).length) Slot.unset).toArray = ls at hl ⊢
  have hl : lv_has ls 4 [(0, .ref h0), (1, .ref s1), (2, .ref s2), (3, .ref s3)] := hl
  generalize hQ : MQ below _ _ s _ _ _ = Q
  obtain ⟨H, hH⟩ : ∃ z, z = s.heap := ⟨_, rfl⟩
  have hP : va_P D vwCl [(h0, .inr (1, [.null, .null, .null, .null, .null, .null, .int 0]))] H := by rw [hH]; exact hP
  have hS : va_S A s.heap H [] := by rw [hH]; exact hS
  refine m_heap hH ?_
  clear hH
  refine lv_aload_n hx hb dX1_init_0 rfl (lv_at hl 0 rfl) ?_
  refine W.objInit hx hb hown (hts (.methodLink RX1 3 objectInit) (by decide +kernel)) (hts (.instanceMethod objectInit) (by decide +kernel)) (hts (.code objectInit ⟨#[0xb1]⟩ 1 none) (by decide +kernel)) rfl (by rw [hml]; exact hl.1) rfl dX1_init_1 (Nat.le_of_ble_eq_true rfl) (Nat.le_of_ble_eq_true rfl) ?_
  refine W.eq (g2 := F0 m 4 ls []) rfl ?_
  refine lv_aload_n hx hb dX1_init_4 rfl (lv_at hl 0 rfl) ?_
  refine lv_bipush (v := nI 9) hx hb dX1_init_5 (by decide) ?_
  refine va_newa (atype := .int) hx hb (hts (.arrayClass .int) (by decide +kernel)) (ty := .int) rfl hK hP hD hS hA (n := nI 9) (N' := 9) (a0 := (9, .inl (fun _ => 0))) (m_newI 9) (by decide) (nI_clamp (by omega)) (m_bI (by omega)) (Nat.le_of_ble_eq_true rfl) (Nat.le_of_ble_eq_true rfl) dX1_init_7 (fun q2 cA2 H hK2 hP hD hS => ?_)
  obtain rfl : cI = cA2 := m_arr hK hK2 0 3 rfl rfl (Or.inl rfl)
  have hP : va_P D vwCl [(h0, .inr (1, [.null, .null, .null, .null, .null, .null, .int 0])), (q2, .inl (cI, 9, .inl (fun _ => 0)))] H := hP
  have hD : va_D A [(h0, .inr (1, [.null, .null, .null, .null, .null, .null, .int 0])), (q2, .inl (cI, 9, .inl (fun _ => 0)))] := hD
  refine W.widen (k := 1) (n := 9) (by omega) (by omega) ?_
  refine va_putF (D := D) (ci := 1) (v := .ref q2) (ty := tyX1 3) (C := RX1) (T := TX1) (N := 7) hx hb hts hiX1 tyX1 tyX1_ok nmX1 hown hK hP hD hS 0 rfl rfl 3 (by decide) hf9 (fun _ h9 => h9) rfl hin rfl (by decide +kernel) rfl rfl (Nat.le_of_ble_eq_true rfl) dX1_init_9 (fun H locs hP hD hS => ?_)
  have hP : va_P D vwCl [(h0, .inr (1, [.null, .null, .null, .ref q2, .null, .null, .int 0])), (q2, .inl (cI, 9, .inl (fun _ => 0)))] H := hP
  have hD : va_D A [(h0, .inr (1, [.null, .null, .null, .ref q2, .null, .null, .int 0])), (q2, .inl (cI, 9, .inl (fun _ => 0)))] := hD
  refine lv_aload_n hx hb dX1_init_12 rfl (lv_at hl 0 rfl) ?_
  refine lv_iconst (v := nI 0) hx hb dX1_init_13 (by decide) ?_
  refine va_newa (atype := .long) hx hb (hts (.arrayClass .long) (by decide +kernel)) (ty := .long) rfl hK hP hD hS hA (n := nI 0) (N' := 0) (a0 := (0, .inr (.inl (fun _ => 0)))) (m_newJ 0) (by decide) (nI_clamp (by omega)) (m_bJ (by omega)) (Nat.le_of_ble_eq_true rfl) (Nat.le_of_ble_eq_true rfl) dX1_init_14 (fun q3 cA3 H hK3 hP hD hS => ?_)
  obtain rfl : cJ = cA3 := m_arr hK hK3 1 3 rfl rfl (Or.inr (Or.inl rfl))
  have hP : va_P D vwCl [(h0, .inr (1, [.null, .null, .null, .ref q2, .null, .null, .int 0])), (q2, .inl (cI, 9, .inl (fun _ => 0))), (q3, .inl (cJ, 0, .inr (.inl (fun _ => 0))))] H := hP
  have hD : va_D A [(h0, .inr (1, [.null, .null, .null, .ref q2, .null, .null, .int 0])), (q2, .inl (cI, 9, .inl (fun _ => 0))), (q3, .inl (cJ, 0, .inr (.inl (fun _ => 0))))] := hD
  refine W.widen (k := 2) (n := 9) (by omega) (by omega) ?_
  refine va_put (D := D) (ci := 1) (v := .ref q3) (ty := tyX1 4) (C := RX1) (T := TX1) (N := 7) hx hb hts hiX1 tyX1 tyX1_ok nmX1 hown hK hP hD hS 0 rfl rfl 4 (by decide) hf15 (fun _ h9 => h9) rfl (by decide +kernel) rfl rfl (Nat.le_of_ble_eq_true rfl) dX1_init_16 (fun H locs hP hD hS => ?_)
  have hP : va_P D vwCl [(h0, .inr (1, [.null, .null, .null, .ref q2, .ref q3, .null, .int 0])), (q2, .inl (cI, 9, .inl (fun _ => 0))), (q3, .inl (cJ, 0, .inr (.inl (fun _ => 0))))] H := hP
  have hD : va_D A [(h0, .inr (1, [.null, .null, .null, .ref q2, .ref q3, .null, .int 0])), (q2, .inl (cI, 9, .inl (fun _ => 0))), (q3, .inl (cJ, 0, .inr (.inl (fun _ => 0))))] := hD
  refine lv_aload_n hx hb dX1_init_19 rfl (lv_at hl 0 rfl) ?_
  refine lv_iconst (v := nI 0) hx hb dX1_init_20 (by decide) ?_
  refine va_newa (atype := .int) hx hb (hts (.arrayClass .int) (by decide +kernel)) (ty := .int) rfl hK hP hD hS hA (n := nI 0) (N' := 0) (a0 := (0, .inl (fun _ => 0))) (m_newI 0) (by decide) (nI_clamp (by omega)) (m_bI (by omega)) (Nat.le_of_ble_eq_true rfl) (Nat.le_of_ble_eq_true rfl) dX1_init_21 (fun q4 cA4 H hK4 hP hD hS => ?_)
  obtain rfl : cI = cA4 := m_arr hK hK4 0 3 rfl rfl (Or.inl rfl)
  have hP : va_P D vwCl [(h0, .inr (1, [.null, .null, .null, .ref q2, .ref q3, .null, .int 0])), (q2, .inl (cI, 9, .inl (fun _ => 0))), (q3, .inl (cJ, 0, .inr (.inl (fun _ => 0)))), (q4, .inl (cI, 0, .inl (fun _ => 0)))] H := hP
  have hD : va_D A [(h0, .inr (1, [.null, .null, .null, .ref q2, .ref q3, .null, .int 0])), (q2, .inl (cI, 9, .inl (fun _ => 0))), (q3, .inl (cJ, 0, .inr (.inl (fun _ => 0)))), (q4, .inl (cI, 0, .inl (fun _ => 0)))] := hD
  refine W.widen (k := 3) (n := 9) (by omega) (by omega) ?_
  refine va_put (D := D) (ci := 1) (v := .ref q4) (ty := tyX1 5) (C := RX1) (T := TX1) (N := 7) hx hb hts hiX1 tyX1 tyX1_ok nmX1 hown hK hP hD hS 0 rfl rfl 5 (by decide) hf19 (fun _ h9 => h9) rfl (by decide +kernel) rfl rfl (Nat.le_of_ble_eq_true rfl) dX1_init_23 (fun H locs hP hD hS => ?_)
  have hP : va_P D vwCl [(h0, .inr (1, [.null, .null, .null, .ref q2, .ref q3, .ref q4, .int 0])), (q2, .inl (cI, 9, .inl (fun _ => 0))), (q3, .inl (cJ, 0, .inr (.inl (fun _ => 0)))), (q4, .inl (cI, 0, .inl (fun _ => 0)))] H := hP
  have hD : va_D A [(h0, .inr (1, [.null, .null, .null, .ref q2, .ref q3, .ref q4, .int 0])), (q2, .inl (cI, 9, .inl (fun _ => 0))), (q3, .inl (cJ, 0, .inr (.inl (fun _ => 0)))), (q4, .inl (cI, 0, .inl (fun _ => 0)))] := hD
  refine lv_aload_n hx hb dX1_init_26 rfl (lv_at hl 0 rfl) ?_
  refine lv_aload_n hx hb dX1_init_27 rfl (lv_at hl 1 rfl) ?_
  refine va_putF (D := D) (ci := 1) (v := .ref s1) (ty := tyX1 0) (C := RX1) (T := TX1) (N := 7) hx hb hts hiX1 tyX1 tyX1_ok nmX1 hown hK hP hD hS 0 rfl rfl 0 (by decide) hf22 (fun _ h9 => h9) rfl hin rfl (by decide +kernel) rfl rfl (Nat.le_of_ble_eq_true rfl) dX1_init_28 (fun H locs hP hD hS => ?_)
  have hP : va_P D vwCl [(h0, .inr (1, [.ref s1, .null, .null, .ref q2, .ref q3, .ref q4, .int 0])), (q2, .inl (cI, 9, .inl (fun _ => 0))), (q3, .inl (cJ, 0, .inr (.inl (fun _ => 0)))), (q4, .inl (cI, 0, .inl (fun _ => 0)))] H := hP
  have hD : va_D A [(h0, .inr (1, [.ref s1, .null, .null, .ref q2, .ref q3, .ref q4, .int 0])), (q2, .inl (cI, 9, .inl (fun _ => 0))), (q3, .inl (cJ, 0, .inr (.inl (fun _ => 0)))), (q4, .inl (cI, 0, .inl (fun _ => 0)))] := hD
  refine lv_aload_n hx hb dX1_init_31 rfl (lv_at hl 0 rfl) ?_
  refine lv_aload_n hx hb dX1_init_32 rfl (lv_at hl 2 rfl) ?_
  refine va_putF (D := D) (ci := 1) (v := .ref s2) (ty := tyX1 1) (C := RX1) (T := TX1) (N := 7) hx hb hts hiX1 tyX1 tyX1_ok nmX1 hown hK hP hD hS 0 rfl rfl 1 (by decide) hf26 (fun _ h9 => h9) rfl hin rfl (by decide +kernel) rfl rfl (Nat.le_of_ble_eq_true rfl) dX1_init_33 (fun H locs hP hD hS => ?_)
  have hP : va_P D vwCl [(h0, .inr (1, [.ref s1, .ref s2, .null, .ref q2, .ref q3, .ref q4, .int 0])), (q2, .inl (cI, 9, .inl (fun _ => 0))), (q3, .inl (cJ, 0, .inr (.inl (fun _ => 0)))), (q4, .inl (cI, 0, .inl (fun _ => 0)))] H := hP
  have hD : va_D A [(h0, .inr (1, [.ref s1, .ref s2, .null, .ref q2, .ref q3, .ref q4, .int 0])), (q2, .inl (cI, 9, .inl (fun _ => 0))), (q3, .inl (cJ, 0, .inr (.inl (fun _ => 0)))), (q4, .inl (cI, 0, .inl (fun _ => 0)))] := hD
  refine lv_aload_n hx hb dX1_init_36 rfl (lv_at hl 0 rfl) ?_
  refine lv_aload_n hx hb dX1_init_37 rfl (lv_at hl 3 rfl) ?_
  refine va_putF (D := D) (ci := 1) (v := .ref s3) (ty := tyX1 2) (C := RX1) (T := TX1) (N := 7) hx hb hts hiX1 tyX1 tyX1_ok nmX1 hown hK hP hD hS 0 rfl rfl 2 (by decide) hf30 (fun _ h9 => h9) rfl hin rfl (by decide +kernel) rfl rfl (Nat.le_of_ble_eq_true rfl) dX1_init_38 (fun H locs hP hD hS => ?_)
  have hP : va_P D vwCl [(h0, .inr (1, [.ref s1, .ref s2, .ref s3, .ref q2, .ref q3, .ref q4, .int 0])), (q2, .inl (cI, 9, .inl (fun _ => 0))), (q3, .inl (cJ, 0, .inr (.inl (fun _ => 0)))), (q4, .inl (cI, 0, .inl (fun _ => 0)))] H := hP
  have hD : va_D A [(h0, .inr (1, [.ref s1, .ref s2, .ref s3, .ref q2, .ref q3, .ref q4, .int 0])), (q2, .inl (cI, 9, .inl (fun _ => 0))), (q3, .inl (cJ, 0, .inr (.inl (fun _ => 0)))), (q4, .inl (cI, 0, .inl (fun _ => 0)))] := hD
  rw [← hQ]
  have hP9 := hP.sub (ws' := [(h0, .inr (1, [.ref s1, .ref s2, .ref s3, .ref q2, .ref q3, .ref q4, .int (nI 0)])), (q2, .inl (cI, 9, .inl (fun _ => 0))), (q3, .inl (cJ, 0, .inr (.inl (fun _ => 0)))), (q4, .inl (cI, 0, .inl (fun _ => 0)))]) [0, 1, 2, 3] rfl
  have hD9 := hD.sub (ws' := [(h0, .inr (1, [.ref s1, .ref s2, .ref s3, .ref q2, .ref q3, .ref q4, .int (nI 0)])), (q2, .inl (cI, 9, .inl (fun _ => 0))), (q3, .inl (cJ, 0, .inr (.inl (fun _ => 0)))), (q4, .inl (cI, 0, .inl (fun _ => 0)))]) [0, 1, 2, 3] (by decide) rfl
  exact W.vret hx hb hr (fun tS htS hWS => ⟨⟨(), rfl, trivial, q2, q3, q4, m_at htS hP9, hD9⟩, hS.F htS⟩) hS.2.2 dX1_init_41
def rm_c_X0_init : Room := { frames := 1, cells := 1, slots := 512, locals := 20 }
set_option maxHeartbeats 400000 in
set_option maxRecDepth 100000 in
theorem c_X0_init (l : Launch) (D : va_G) (cI cJ cZ : ClassId) (sz : Nat) (h0 : Nat) (s1 : Nat) (s2 : Nat)  : Met l yX0_init wsX0_init rm_c_X0_init (pn_ D cI cJ cZ sz [.ref h0, .ref s1, .ref s2] [(h0, .inr (0, [.null, .null, .null]))]) (va_Qv (fun (u : Unit) => True) (fun (u : Unit) tS => ∃ (l3 : Nat), va_P D vwCl [(h0, .inr (0, [.ref s1, .ref s2, .ref l3])), (l3, .inl (cI, 512, .inl (fun _ => 0)))] tS.heap ∧ va_D (va_A [(h0, .inr (0, [.null, .null, .null]))] sz) [(h0, .inr (0, [.ref s1, .ref s2, .ref l3])), (l3, .inl (cI, 512, .inl (fun _ => 0)))]) (va_A [(h0, .inr (0, [.null, .null, .null]))] sz)) 1 512 (va_A [(h0, .inr (0, [.null, .null, .null]))] sz) := by
  refine Met.ofW (cc := cX0_init) (maxL := 3) (ret := none) (by decide) rfl ?_
  intro p e s m args below meth c s₁ B hml hv
  obtain ⟨rfl, hsz, hP, hKN, hD0⟩ := hv
  have hK := hKN.1
  have hx := B.exec
  have hb := B.bytes
  have hr := B.returns
  have hts := atoms_spec (ws := wsX0_init) B.pre
  have hown : s.vm.findClass RX0 = some m.cls := findClass_of_methodNamed B.named
  have hlocks := B.notSynchronized
  have hin : meth.name = "<init>" := (name_of_methodNamed B.named B.method).1
  have hiX0 : ∀ w ∈ wsX00, w ∈ wsX0_init := by decide +kernel
  have hf9 := hts (.fieldLink RX0 9 "LookBench$Bounds" "leastPrice" "[I") (by decide +kernel)
  have hf15 := hts (.fieldLink RX0 15 "LookBench$Bounds" "shelf" "LLookBench$Shelf;") (by decide +kernel)
  have hf19 := hts (.fieldLink RX0 19 "LookBench$Bounds" "rules" "LLookBench$Rules;") (by decide +kernel)
  subst hsz
  have hD := hD0.self (sz := s.heap.size)
  generalize hAe : va_A [(h0, .inr (0, [.null, .null, .null]))] s.heap.size = A at hD ⊢
  have hA : ∀ q : Nat, s.heap.size ≤ q → A q := fun q h => by rw [← hAe]; exact Or.inr h
  have hS : va_S A s.heap s.heap [] := va_S.rf
  have hl := lv_entry ([.ref h0, .ref s1, .ref s2]) (n := 3) (Nat.le_of_ble_eq_true rfl)
  rw [lg_entry_eq]
  generalize (lg_sl ([.ref h0, .ref s1, .ref s2]) ++ List.replicate (3 - (lg_sl ([.ref h0, .ref s1, .ref s2])).length) Slot.unset).toArray = ls at hl ⊢
  have hl : lv_has ls 3 [(0, .ref h0), (1, .ref s1), (2, .ref s2)] := hl
  generalize hQ : MQ below _ _ s _ _ _ = Q
  obtain ⟨H, hH⟩ : ∃ z, z = s.heap := ⟨_, rfl⟩
  have hP : va_P D vwCl [(h0, .inr (0, [.null, .null, .null]))] H := by rw [hH]; exact hP
  have hS : va_S A s.heap H [] := by rw [hH]; exact hS
  refine m_heap hH ?_
  clear hH
  refine lv_aload_n hx hb dX0_init_0 rfl (lv_at hl 0 rfl) ?_
  refine W.objInit hx hb hown (hts (.methodLink RX0 3 objectInit) (by decide +kernel)) (hts (.instanceMethod objectInit) (by decide +kernel)) (hts (.code objectInit ⟨#[0xb1]⟩ 1 none) (by decide +kernel)) rfl (by rw [hml]; exact hl.1) rfl dX0_init_1 (Nat.le_of_ble_eq_true rfl) (Nat.le_of_ble_eq_true rfl) ?_
  refine W.eq (g2 := F0 m 4 ls []) rfl ?_
  refine lv_aload_n hx hb dX0_init_4 rfl (lv_at hl 0 rfl) ?_
  refine lv_sipush (v := nI 512) hx hb dX0_init_5 (by decide) ?_
  refine va_newa (atype := .int) hx hb (hts (.arrayClass .int) (by decide +kernel)) (ty := .int) rfl hK hP hD hS hA (n := nI 512) (N' := 512) (a0 := (512, .inl (fun _ => 0))) (m_newI 512) (by decide) (nI_clamp (by omega)) (m_bI (by omega)) (Nat.le_of_ble_eq_true rfl) (Nat.le_of_ble_eq_true rfl) dX0_init_8 (fun q2 cA2 H hK2 hP hD hS => ?_)
  obtain rfl : cI = cA2 := m_arr hK hK2 0 3 rfl rfl (Or.inl rfl)
  have hP : va_P D vwCl [(h0, .inr (0, [.null, .null, .null])), (q2, .inl (cI, 512, .inl (fun _ => 0)))] H := hP
  have hD : va_D A [(h0, .inr (0, [.null, .null, .null])), (q2, .inl (cI, 512, .inl (fun _ => 0)))] := hD
  refine W.widen (k := 1) (n := 512) (by omega) (by omega) ?_
  refine va_putF (D := D) (ci := 0) (v := .ref q2) (ty := tyX0 2) (C := RX0) (T := TX0) (N := 3) hx hb hts hiX0 tyX0 tyX0_ok nmX0 hown hK hP hD hS 0 rfl rfl 2 (by decide) hf9 (fun _ h9 => h9) rfl hin rfl (by decide +kernel) rfl rfl (Nat.le_of_ble_eq_true rfl) dX0_init_10 (fun H locs hP hD hS => ?_)
  have hP : va_P D vwCl [(h0, .inr (0, [.null, .null, .ref q2])), (q2, .inl (cI, 512, .inl (fun _ => 0)))] H := hP
  have hD : va_D A [(h0, .inr (0, [.null, .null, .ref q2])), (q2, .inl (cI, 512, .inl (fun _ => 0)))] := hD
  refine lv_aload_n hx hb dX0_init_13 rfl (lv_at hl 0 rfl) ?_
  refine lv_aload_n hx hb dX0_init_14 rfl (lv_at hl 1 rfl) ?_
  refine va_putF (D := D) (ci := 0) (v := .ref s1) (ty := tyX0 0) (C := RX0) (T := TX0) (N := 3) hx hb hts hiX0 tyX0 tyX0_ok nmX0 hown hK hP hD hS 0 rfl rfl 0 (by decide) hf15 (fun _ h9 => h9) rfl hin rfl (by decide +kernel) rfl rfl (Nat.le_of_ble_eq_true rfl) dX0_init_15 (fun H locs hP hD hS => ?_)
  have hP : va_P D vwCl [(h0, .inr (0, [.ref s1, .null, .ref q2])), (q2, .inl (cI, 512, .inl (fun _ => 0)))] H := hP
  have hD : va_D A [(h0, .inr (0, [.ref s1, .null, .ref q2])), (q2, .inl (cI, 512, .inl (fun _ => 0)))] := hD
  refine lv_aload_n hx hb dX0_init_18 rfl (lv_at hl 0 rfl) ?_
  refine lv_aload_n hx hb dX0_init_19 rfl (lv_at hl 2 rfl) ?_
  refine va_putF (D := D) (ci := 0) (v := .ref s2) (ty := tyX0 1) (C := RX0) (T := TX0) (N := 3) hx hb hts hiX0 tyX0 tyX0_ok nmX0 hown hK hP hD hS 0 rfl rfl 1 (by decide) hf19 (fun _ h9 => h9) rfl hin rfl (by decide +kernel) rfl rfl (Nat.le_of_ble_eq_true rfl) dX0_init_20 (fun H locs hP hD hS => ?_)
  have hP : va_P D vwCl [(h0, .inr (0, [.ref s1, .ref s2, .ref q2])), (q2, .inl (cI, 512, .inl (fun _ => 0)))] H := hP
  have hD : va_D A [(h0, .inr (0, [.ref s1, .ref s2, .ref q2])), (q2, .inl (cI, 512, .inl (fun _ => 0)))] := hD
  rw [← hQ]
  have hP9 := hP.sub (ws' := [(h0, .inr (0, [.ref s1, .ref s2, .ref q2])), (q2, .inl (cI, 512, .inl (fun _ => 0)))]) [0, 1] rfl
  have hD9 := hD.sub (ws' := [(h0, .inr (0, [.ref s1, .ref s2, .ref q2])), (q2, .inl (cI, 512, .inl (fun _ => 0)))]) [0, 1] (by decide) rfl
  exact W.vret hx hb hr (fun tS htS hWS => ⟨⟨(), rfl, trivial, q2, m_at htS hP9, hD9⟩, hS.F htS⟩) hS.2.2 dX0_init_23
