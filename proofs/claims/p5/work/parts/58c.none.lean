def rm_c_X6_sets_n : Room := { frames := 2, cells := 0, slots := 0, locals := 41 }
set_option maxHeartbeats 400000 in
set_option maxRecDepth 100000 in
theorem c_X6_sets_n (l : Launch) (D : va_G) (cI cJ cZ : ClassId) (x0 : Nat) (h4 : Nat) (h3 : Nat) (h2 : Nat) (h1 : Nat) (hB : Nat) (h5 : Nat) (b1 : Nat) (b2 : Nat) (c0 : Nat) (pt : Int32) (p0 : Int32) (hc : c0 ≤ 40) : Met l yX6_sets wsX6_sets rm_c_X6_sets_n (pc_ D cI cJ cZ [.ref x0, .int p0] [(x0, .inr (6, [.ref h4, .ref h3, .ref h2, .ref h1, .ref hB, .ref h5])), (h3, .inr (3, [.ref b1, .ref b2, .int pt, .int (nI c0), .int (-1 : Int32)]))]) (va_Qi (fun (r : Int32) (_ : Unit) => r = -1) (fun _ _ => True) aN) 0 0 aN := by
  refine Met.ofW (cc := cX6_sets) (maxL := 2) (ret := (some .int)) (by decide) rfl ?_
  intro p e s m args below meth c s₁ B hml hv
  obtain ⟨rfl, hP, hKN⟩ := hv
  have hK := hKN.1
  have hx := B.exec
  have hb := B.bytes
  have hr := B.returns
  have hts := atoms_spec (ws := wsX6_sets) B.pre
  have hown : s.vm.findClass RX6 = some m.cls := findClass_of_methodNamed B.named
  have hlocks := B.notSynchronized
  have hiX6 : ∀ w ∈ wsX60, w ∈ wsX6_sets := by decide +kernel
  have hf19 := hts (.fieldLink RX6 19 "LookBench" "rules" "LLookBench$Rules;") (by decide +kernel)
  have hS : va_S aN s.heap s.heap [] := va_S.rf
  have hl := lv_entry ([.ref x0, .int p0]) (n := 2) (Nat.le_of_ble_eq_true rfl)
  rw [lg_entry_eq]
  generalize (lg_sl ([.ref x0, .int p0]) ++ List.replicate (2 - (lg_sl ([.ref x0, .int p0])).length) Slot.unset).toArray = ls at hl ⊢
  have hl : lv_has ls 2 [(0, .ref x0), (1, .int p0)] := hl
  generalize hQ : MQ below _ _ s _ _ _ = Q
  obtain ⟨H, hH⟩ : ∃ z, z = s.heap := ⟨_, rfl⟩
  have hP : va_P D vwCl [(x0, .inr (6, [.ref h4, .ref h3, .ref h2, .ref h1, .ref hB, .ref h5])), (h3, .inr (3, [.ref b1, .ref b2, .int pt, .int (nI c0), .int (-1 : Int32)]))] H := by rw [hH]; exact hP
  have hS : va_S aN s.heap H [] := by rw [hH]; exact hS
  refine m_heap hH ?_
  clear hH
  refine lv_iload_n hx hb dX6_sets_0 rfl (lv_at hl 1 rfl) ?_
  refine lv_if_lt (tgt := 19) hx hb dX6_sets_1 (by decide) (fun c1 => ?_) (fun c1 => ?_)
  · skip
    have d1 := c1
    rw [i_lt, i_z] at d1
    refine lv_iconst (v := (-1 : Int32)) hx hb dX6_sets_19 (by decide) ?_
    rw [← hQ]
    exact W.iret (v := (-1 : Int32)) hx hb hr (fun tS htS hWS => ⟨⟨(-1 : Int32), (), rfl, rfl, trivial⟩, hS.F htS⟩) hS.2.2 dX6_sets_20
  · skip
    have d1 := c1
    rw [i_lt, i_z] at d1
    refine lv_iload_n hx hb dX6_sets_4 rfl (lv_at hl 1 rfl) ?_
    refine lv_iconst (v := nI 1) hx hb dX6_sets_5 (by decide) ?_
    refine lv_icmp_gt (tgt := 19) hx hb dX6_sets_6 (by decide) (fun c2 => ?_) (fun c2 => ?_)
    · skip
      have d2 := c2
      rw [i_lt, nI_toInt (n := 1) (by omega)] at d2
      refine lv_iconst (v := (-1 : Int32)) hx hb dX6_sets_19 (by decide) ?_
      rw [← hQ]
      exact W.iret (v := (-1 : Int32)) hx hb hr (fun tS htS hWS => ⟨⟨(-1 : Int32), (), rfl, rfl, trivial⟩, hS.F htS⟩) hS.2.2 dX6_sets_20
    · skip
      have d2 := c2
      rw [i_lt, nI_toInt (n := 1) (by omega)] at d2
      refine lv_aload_n hx hb dX6_sets_9 rfl (lv_at hl 0 rfl) ?_
      refine va_get (D := D) (ci := 6) (v := .ref h3) (C := RX6) (T := TX6) (N := 6) hx hb hts hiX6 hown hK hP 0 rfl rfl 1 (by decide) hf19 (fun _ h9 => h9) rfl dX6_sets_10 ?_
      refine pu_i (va_runV (As := []) (rest := []) ⟨hx, hb, hml, hown, hts⟩ (c_X3_hasSystem l D cI cJ cZ h3 b1 b2 c0 pt (-1 : Int32) (by first | assumption | omega)) (cwV 0 hts gX6_sets_X3_hasSystem rfl rfl rfl (by decide +kernel) ⟨Nat.le_of_ble_eq_true rfl, Nat.le_of_ble_eq_true rfl⟩) ⟨pc_blind, va_recv hK hP (ci := 3) (q0 := 1) rfl rfl, fun U hU hW => ⟨rfl, by rw [hU]; exact hP.sub (ws' := [(h3, .inr (3, [.ref b1, .ref b2, .int pt, .int (nI c0), .int (-1 : Int32)]))]) [1] rfl, hKN.warm hW⟩⟩ rfl rfl hl.1 rfl (lv_room (Nat.le_of_ble_eq_true rfl)) dX6_sets_13 ⟨Nat.le_of_ble_eq_true rfl, Nat.le_of_ble_eq_true rfl⟩) hS hP (fun r3 H locs w3r hP hS => ?_)
      have w3 : B01 r3 (0 ≤ (-1 : Int32).toInt ∧ (-1 : Int32).toInt < c0) := w3r
      clear w3r
      rcases w3 with ⟨rfl, w3⟩ | ⟨rfl, w3⟩
      · exact absurd w3 (by rw [show ((-1 : Int32)).toInt = -1 by decide]; omega)
      · skip
        refine lv_if_ne (tgt := 21) hx hb dX6_sets_16 (by decide) (fun c4 => ?_) (fun c4 => ?_)
        · exact absurd c4 (by first | decide | exact nz_lt (by omega) | exact fun h => h (nz_ge (by omega)))
        · skip
          refine lv_iconst (v := (-1 : Int32)) hx hb dX6_sets_19 (by decide) ?_
          rw [← hQ]
          exact W.iret (v := (-1 : Int32)) hx hb hr (fun tS htS hWS => ⟨⟨(-1 : Int32), (), rfl, rfl, trivial⟩, hS.F htS⟩) hS.2.2 dX6_sets_20
def rm_c_X6_set_n : Room := { frames := 2, cells := 0, slots := 0, locals := 41 }
set_option maxHeartbeats 400000 in
set_option maxRecDepth 100000 in
theorem c_X6_set_n (l : Launch) (D : va_G) (cI cJ cZ : ClassId) (x0 : Nat) (h4 : Nat) (h3 : Nat) (h2 : Nat) (h1 : Nat) (hB : Nat) (h5 : Nat) (b1 : Nat) (b2 : Nat) (c0 : Nat) (pt : Int32) (p0 : Int32) (p1 : Int32) (hc : c0 ≤ 40) : Met l yX6_set wsX6_set rm_c_X6_set_n (pc_ D cI cJ cZ [.ref x0, .int p0, .int p1] [(x0, .inr (6, [.ref h4, .ref h3, .ref h2, .ref h1, .ref hB, .ref h5])), (h3, .inr (3, [.ref b1, .ref b2, .int pt, .int (nI c0), .int (-1 : Int32)]))]) (va_Qi (fun (r : Int32) (_ : Unit) => r = -1) (fun _ _ => True) aN) 0 0 aN := by
  refine Met.ofW (cc := cX6_set) (maxL := 3) (ret := (some .int)) (by decide) rfl ?_
  intro p e s m args below meth c s₁ B hml hv
  obtain ⟨rfl, hP, hKN⟩ := hv
  have hK := hKN.1
  have hx := B.exec
  have hb := B.bytes
  have hr := B.returns
  have hts := atoms_spec (ws := wsX6_set) B.pre
  have hown : s.vm.findClass RX6 = some m.cls := findClass_of_methodNamed B.named
  have hlocks := B.notSynchronized
  have hiX6 : ∀ w ∈ wsX60, w ∈ wsX6_set := by decide +kernel
  have hf19 := hts (.fieldLink RX6 19 "LookBench" "rules" "LLookBench$Rules;") (by decide +kernel)
  have hS : va_S aN s.heap s.heap [] := va_S.rf
  have hl := lv_entry ([.ref x0, .int p0, .int p1]) (n := 3) (Nat.le_of_ble_eq_true rfl)
  rw [lg_entry_eq]
  generalize (lg_sl ([.ref x0, .int p0, .int p1]) ++ List.replicate (3 - (lg_sl ([.ref x0, .int p0, .int p1])).length) Slot.unset).toArray = ls at hl ⊢
  have hl : lv_has ls 3 [(0, .ref x0), (1, .int p0), (2, .int p1)] := hl
  generalize hQ : MQ below _ _ s _ _ _ = Q
  obtain ⟨H, hH⟩ : ∃ z, z = s.heap := ⟨_, rfl⟩
  have hP : va_P D vwCl [(x0, .inr (6, [.ref h4, .ref h3, .ref h2, .ref h1, .ref hB, .ref h5])), (h3, .inr (3, [.ref b1, .ref b2, .int pt, .int (nI c0), .int (-1 : Int32)]))] H := by rw [hH]; exact hP
  have hS : va_S aN s.heap H [] := by rw [hH]; exact hS
  refine m_heap hH ?_
  clear hH
  refine lv_iload_n hx hb dX6_set_0 rfl (lv_at hl 1 rfl) ?_
  refine lv_if_lt (tgt := 23) hx hb dX6_set_1 (by decide) (fun c1 => ?_) (fun c1 => ?_)
  · skip
    have d1 := c1
    rw [i_lt, i_z] at d1
    refine lv_iconst (v := (-1 : Int32)) hx hb dX6_set_23 (by decide) ?_
    rw [← hQ]
    exact W.iret (v := (-1 : Int32)) hx hb hr (fun tS htS hWS => ⟨⟨(-1 : Int32), (), rfl, rfl, trivial⟩, hS.F htS⟩) hS.2.2 dX6_set_24
  · skip
    have d1 := c1
    rw [i_lt, i_z] at d1
    refine lv_iload_n hx hb dX6_set_4 rfl (lv_at hl 1 rfl) ?_
    refine lv_iconst (v := nI 1) hx hb dX6_set_5 (by decide) ?_
    refine lv_icmp_gt (tgt := 23) hx hb dX6_set_6 (by decide) (fun c2 => ?_) (fun c2 => ?_)
    · skip
      have d2 := c2
      rw [i_lt, nI_toInt (n := 1) (by omega)] at d2
      refine lv_iconst (v := (-1 : Int32)) hx hb dX6_set_23 (by decide) ?_
      rw [← hQ]
      exact W.iret (v := (-1 : Int32)) hx hb hr (fun tS htS hWS => ⟨⟨(-1 : Int32), (), rfl, rfl, trivial⟩, hS.F htS⟩) hS.2.2 dX6_set_24
    · skip
      have d2 := c2
      rw [i_lt, nI_toInt (n := 1) (by omega)] at d2
      refine lv_iload_n hx hb dX6_set_9 rfl (lv_at hl 2 rfl) ?_
      refine lv_if_lt (tgt := 23) hx hb dX6_set_10 (by decide) (fun c3 => ?_) (fun c3 => ?_)
      · skip
        have d3 := c3
        rw [i_lt, i_z] at d3
        refine lv_iconst (v := (-1 : Int32)) hx hb dX6_set_23 (by decide) ?_
        rw [← hQ]
        exact W.iret (v := (-1 : Int32)) hx hb hr (fun tS htS hWS => ⟨⟨(-1 : Int32), (), rfl, rfl, trivial⟩, hS.F htS⟩) hS.2.2 dX6_set_24
      · skip
        have d3 := c3
        rw [i_lt, i_z] at d3
        refine lv_aload_n hx hb dX6_set_13 rfl (lv_at hl 0 rfl) ?_
        refine va_get (D := D) (ci := 6) (v := .ref h3) (C := RX6) (T := TX6) (N := 6) hx hb hts hiX6 hown hK hP 0 rfl rfl 1 (by decide) hf19 (fun _ h9 => h9) rfl dX6_set_14 ?_
        refine pu_i (va_runV (As := []) (rest := []) ⟨hx, hb, hml, hown, hts⟩ (c_X3_hasSystem l D cI cJ cZ h3 b1 b2 c0 pt (-1 : Int32) (by first | assumption | omega)) (cwV 0 hts gX6_set_X3_hasSystem rfl rfl rfl (by decide +kernel) ⟨Nat.le_of_ble_eq_true rfl, Nat.le_of_ble_eq_true rfl⟩) ⟨pc_blind, va_recv hK hP (ci := 3) (q0 := 1) rfl rfl, fun U hU hW => ⟨rfl, by rw [hU]; exact hP.sub (ws' := [(h3, .inr (3, [.ref b1, .ref b2, .int pt, .int (nI c0), .int (-1 : Int32)]))]) [1] rfl, hKN.warm hW⟩⟩ rfl rfl hl.1 rfl (lv_room (Nat.le_of_ble_eq_true rfl)) dX6_set_17 ⟨Nat.le_of_ble_eq_true rfl, Nat.le_of_ble_eq_true rfl⟩) hS hP (fun r4 H locs w4r hP hS => ?_)
        have w4 : B01 r4 (0 ≤ (-1 : Int32).toInt ∧ (-1 : Int32).toInt < c0) := w4r
        clear w4r
        rcases w4 with ⟨rfl, w4⟩ | ⟨rfl, w4⟩
        · exact absurd w4 (by rw [show ((-1 : Int32)).toInt = -1 by decide]; omega)
        · skip
          refine lv_if_ne (tgt := 25) hx hb dX6_set_20 (by decide) (fun c5 => ?_) (fun c5 => ?_)
          · exact absurd c5 (by first | decide | exact nz_lt (by omega) | exact fun h => h (nz_ge (by omega)))
          · skip
            refine lv_iconst (v := (-1 : Int32)) hx hb dX6_set_23 (by decide) ?_
            rw [← hQ]
            exact W.iret (v := (-1 : Int32)) hx hb hr (fun tS htS hWS => ⟨⟨(-1 : Int32), (), rfl, rfl, trivial⟩, hS.F htS⟩) hS.2.2 dX6_set_24
def rm_c_X6_sure_n : Room := { frames := 2, cells := 0, slots := 0, locals := 41 }
set_option maxHeartbeats 400000 in
set_option maxRecDepth 100000 in
theorem c_X6_sure_n (l : Launch) (D : va_G) (cI cJ cZ : ClassId) (x0 : Nat) (h4 : Nat) (h3 : Nat) (h2 : Nat) (h1 : Nat) (hB : Nat) (h5 : Nat) (b1 : Nat) (b2 : Nat) (c0 : Nat) (pt : Int32) (hc : c0 ≤ 40) : Met l yX6_sure wsX6_sure rm_c_X6_sure_n (pc_ D cI cJ cZ [.ref x0] [(x0, .inr (6, [.ref h4, .ref h3, .ref h2, .ref h1, .ref hB, .ref h5])), (h3, .inr (3, [.ref b1, .ref b2, .int pt, .int (nI c0), .int (-1 : Int32)]))]) (va_Qi (fun (r : Int32) (_ : Unit) => r = -2) (fun _ _ => True) aN) 0 0 aN := by
  refine Met.ofW (cc := cX6_sure) (maxL := 1) (ret := (some .int)) (by decide) rfl ?_
  intro p e s m args below meth c s₁ B hml hv
  obtain ⟨rfl, hP, hKN⟩ := hv
  have hK := hKN.1
  have hx := B.exec
  have hb := B.bytes
  have hr := B.returns
  have hts := atoms_spec (ws := wsX6_sure) B.pre
  have hown : s.vm.findClass RX6 = some m.cls := findClass_of_methodNamed B.named
  have hlocks := B.notSynchronized
  have hiX6 : ∀ w ∈ wsX60, w ∈ wsX6_sure := by decide +kernel
  have hf19 := hts (.fieldLink RX6 19 "LookBench" "rules" "LLookBench$Rules;") (by decide +kernel)
  have hS : va_S aN s.heap s.heap [] := va_S.rf
  have hl := lv_entry ([.ref x0]) (n := 1) (Nat.le_of_ble_eq_true rfl)
  rw [lg_entry_eq]
  generalize (lg_sl ([.ref x0]) ++ List.replicate (1 - (lg_sl ([.ref x0])).length) Slot.unset).toArray = ls at hl ⊢
  have hl : lv_has ls 1 [(0, .ref x0)] := hl
  generalize hQ : MQ below _ _ s _ _ _ = Q
  obtain ⟨H, hH⟩ : ∃ z, z = s.heap := ⟨_, rfl⟩
  have hP : va_P D vwCl [(x0, .inr (6, [.ref h4, .ref h3, .ref h2, .ref h1, .ref hB, .ref h5])), (h3, .inr (3, [.ref b1, .ref b2, .int pt, .int (nI c0), .int (-1 : Int32)]))] H := by rw [hH]; exact hP
  have hS : va_S aN s.heap H [] := by rw [hH]; exact hS
  refine m_heap hH ?_
  clear hH
  refine lv_aload_n hx hb dX6_sure_0 rfl (lv_at hl 0 rfl) ?_
  refine va_get (D := D) (ci := 6) (v := .ref h3) (C := RX6) (T := TX6) (N := 6) hx hb hts hiX6 hown hK hP 0 rfl rfl 1 (by decide) hf19 (fun _ h9 => h9) rfl dX6_sure_1 ?_
  refine pu_i (va_runV (As := []) (rest := []) ⟨hx, hb, hml, hown, hts⟩ (c_X3_hasSystem l D cI cJ cZ h3 b1 b2 c0 pt (-1 : Int32) (by first | assumption | omega)) (cwV 0 hts gX6_sure_X3_hasSystem rfl rfl rfl (by decide +kernel) ⟨Nat.le_of_ble_eq_true rfl, Nat.le_of_ble_eq_true rfl⟩) ⟨pc_blind, va_recv hK hP (ci := 3) (q0 := 1) rfl rfl, fun U hU hW => ⟨rfl, by rw [hU]; exact hP.sub (ws' := [(h3, .inr (3, [.ref b1, .ref b2, .int pt, .int (nI c0), .int (-1 : Int32)]))]) [1] rfl, hKN.warm hW⟩⟩ rfl rfl hl.1 rfl (lv_room (Nat.le_of_ble_eq_true rfl)) dX6_sure_4 ⟨Nat.le_of_ble_eq_true rfl, Nat.le_of_ble_eq_true rfl⟩) hS hP (fun r1 H locs w1r hP hS => ?_)
  have w1 : B01 r1 (0 ≤ (-1 : Int32).toInt ∧ (-1 : Int32).toInt < c0) := w1r
  clear w1r
  rcases w1 with ⟨rfl, w1⟩ | ⟨rfl, w1⟩
  · exact absurd w1 (by rw [show ((-1 : Int32)).toInt = -1 by decide]; omega)
  · skip
    refine lv_if_eq (tgt := 34) hx hb dX6_sure_7 (by decide) (fun c2 => ?_) (fun c2 => ?_)
    · skip
      refine lv_bipush (v := (-2 : Int32)) hx hb dX6_sure_34 (by decide) ?_
      rw [← hQ]
      exact W.iret (v := (-2 : Int32)) hx hb hr (fun tS htS hWS => ⟨⟨(-2 : Int32), (), rfl, rfl, trivial⟩, hS.F htS⟩) hS.2.2 dX6_sure_36
    · exact absurd c2 (by first | decide | exact nz_lt (by omega) | exact fun h => h (nz_ge (by omega)))
def rm_c_X6_run_n : Room := { frames := 2, cells := 0, slots := 0, locals := 41 }
set_option maxHeartbeats 400000 in
set_option maxRecDepth 100000 in
theorem c_X6_run_n (l : Launch) (D : va_G) (cI cJ cZ : ClassId) (x0 : Nat) (h4 : Nat) (h3 : Nat) (h2 : Nat) (h1 : Nat) (hB : Nat) (h5 : Nat) (b1 : Nat) (b2 : Nat) (c0 : Nat) (pt : Int32) (p0 : Int32) (p1 : Int32) (hc : c0 ≤ 40) : Met l yX6_run wsX6_run rm_c_X6_run_n (pc_ D cI cJ cZ [.ref x0, .int p0, .int p1] [(x0, .inr (6, [.ref h4, .ref h3, .ref h2, .ref h1, .ref hB, .ref h5])), (h3, .inr (3, [.ref b1, .ref b2, .int pt, .int (nI c0), .int (-1 : Int32)]))]) (va_Qi (fun (r : Int32) (_ : Unit) => r = -1) (fun _ _ => True) aN) 0 0 aN := by
  refine Met.ofW (cc := cX6_run) (maxL := 3) (ret := (some .int)) (by decide) rfl ?_
  intro p e s m args below meth c s₁ B hml hv
  obtain ⟨rfl, hP, hKN⟩ := hv
  have hK := hKN.1
  have hx := B.exec
  have hb := B.bytes
  have hr := B.returns
  have hts := atoms_spec (ws := wsX6_run) B.pre
  have hown : s.vm.findClass RX6 = some m.cls := findClass_of_methodNamed B.named
  have hlocks := B.notSynchronized
  have hiX6 : ∀ w ∈ wsX60, w ∈ wsX6_run := by decide +kernel
  have hf19 := hts (.fieldLink RX6 19 "LookBench" "rules" "LLookBench$Rules;") (by decide +kernel)
  have hS : va_S aN s.heap s.heap [] := va_S.rf
  have hl := lv_entry ([.ref x0, .int p0, .int p1]) (n := 3) (Nat.le_of_ble_eq_true rfl)
  rw [lg_entry_eq]
  generalize (lg_sl ([.ref x0, .int p0, .int p1]) ++ List.replicate (3 - (lg_sl ([.ref x0, .int p0, .int p1])).length) Slot.unset).toArray = ls at hl ⊢
  have hl : lv_has ls 3 [(0, .ref x0), (1, .int p0), (2, .int p1)] := hl
  generalize hQ : MQ below _ _ s _ _ _ = Q
  obtain ⟨H, hH⟩ : ∃ z, z = s.heap := ⟨_, rfl⟩
  have hP : va_P D vwCl [(x0, .inr (6, [.ref h4, .ref h3, .ref h2, .ref h1, .ref hB, .ref h5])), (h3, .inr (3, [.ref b1, .ref b2, .int pt, .int (nI c0), .int (-1 : Int32)]))] H := by rw [hH]; exact hP
  have hS : va_S aN s.heap H [] := by rw [hH]; exact hS
  refine m_heap hH ?_
  clear hH
  refine lv_iload_n hx hb dX6_run_0 rfl (lv_at hl 1 rfl) ?_
  refine lv_if_lt (tgt := 19) hx hb dX6_run_1 (by decide) (fun c1 => ?_) (fun c1 => ?_)
  · skip
    have d1 := c1
    rw [i_lt, i_z] at d1
    refine lv_iconst (v := (-1 : Int32)) hx hb dX6_run_19 (by decide) ?_
    rw [← hQ]
    exact W.iret (v := (-1 : Int32)) hx hb hr (fun tS htS hWS => ⟨⟨(-1 : Int32), (), rfl, rfl, trivial⟩, hS.F htS⟩) hS.2.2 dX6_run_20
  · skip
    have d1 := c1
    rw [i_lt, i_z] at d1
    refine lv_iload_n hx hb dX6_run_4 rfl (lv_at hl 1 rfl) ?_
    refine lv_iconst (v := nI 2) hx hb dX6_run_5 (by decide) ?_
    refine lv_icmp_gt (tgt := 19) hx hb dX6_run_6 (by decide) (fun c2 => ?_) (fun c2 => ?_)
    · skip
      have d2 := c2
      rw [i_lt, nI_toInt (n := 2) (by omega)] at d2
      refine lv_iconst (v := (-1 : Int32)) hx hb dX6_run_19 (by decide) ?_
      rw [← hQ]
      exact W.iret (v := (-1 : Int32)) hx hb hr (fun tS htS hWS => ⟨⟨(-1 : Int32), (), rfl, rfl, trivial⟩, hS.F htS⟩) hS.2.2 dX6_run_20
    · skip
      have d2 := c2
      rw [i_lt, nI_toInt (n := 2) (by omega)] at d2
      refine lv_aload_n hx hb dX6_run_9 rfl (lv_at hl 0 rfl) ?_
      refine va_get (D := D) (ci := 6) (v := .ref h3) (C := RX6) (T := TX6) (N := 6) hx hb hts hiX6 hown hK hP 0 rfl rfl 1 (by decide) hf19 (fun _ h9 => h9) rfl dX6_run_10 ?_
      refine pu_i (va_runV (As := []) (rest := []) ⟨hx, hb, hml, hown, hts⟩ (c_X3_hasSystem l D cI cJ cZ h3 b1 b2 c0 pt (-1 : Int32) (by first | assumption | omega)) (cwV 0 hts gX6_run_X3_hasSystem rfl rfl rfl (by decide +kernel) ⟨Nat.le_of_ble_eq_true rfl, Nat.le_of_ble_eq_true rfl⟩) ⟨pc_blind, va_recv hK hP (ci := 3) (q0 := 1) rfl rfl, fun U hU hW => ⟨rfl, by rw [hU]; exact hP.sub (ws' := [(h3, .inr (3, [.ref b1, .ref b2, .int pt, .int (nI c0), .int (-1 : Int32)]))]) [1] rfl, hKN.warm hW⟩⟩ rfl rfl hl.1 rfl (lv_room (Nat.le_of_ble_eq_true rfl)) dX6_run_13 ⟨Nat.le_of_ble_eq_true rfl, Nat.le_of_ble_eq_true rfl⟩) hS hP (fun r3 H locs w3r hP hS => ?_)
      have w3 : B01 r3 (0 ≤ (-1 : Int32).toInt ∧ (-1 : Int32).toInt < c0) := w3r
      clear w3r
      rcases w3 with ⟨rfl, w3⟩ | ⟨rfl, w3⟩
      · exact absurd w3 (by rw [show ((-1 : Int32)).toInt = -1 by decide]; omega)
      · skip
        refine lv_if_ne (tgt := 21) hx hb dX6_run_16 (by decide) (fun c4 => ?_) (fun c4 => ?_)
        · exact absurd c4 (by first | decide | exact nz_lt (by omega) | exact fun h => h (nz_ge (by omega)))
        · skip
          refine lv_iconst (v := (-1 : Int32)) hx hb dX6_run_19 (by decide) ?_
          rw [← hQ]
          exact W.iret (v := (-1 : Int32)) hx hb hr (fun tS htS hWS => ⟨⟨(-1 : Int32), (), rfl, rfl, trivial⟩, hS.F htS⟩) hS.2.2 dX6_run_20
def rm_c_X6_told_n : Room := { frames := 2, cells := 0, slots := 0, locals := 41 }
set_option maxHeartbeats 400000 in
set_option maxRecDepth 100000 in
theorem c_X6_told_n (l : Launch) (D : va_G) (cI cJ cZ : ClassId) (x0 : Nat) (h4 : Nat) (h3 : Nat) (h2 : Nat) (h1 : Nat) (hB : Nat) (h5 : Nat) (b1 : Nat) (b2 : Nat) (c0 : Nat) (pt : Int32) (a1 : Nat) (a2 : Nat) (a3 : Nat) (n : Nat) (sn : Int32) (sg : Int32) (wh : Int32) (fg : Nat → Int32) (fb : Nat → Int32) (hc : c0 ≤ 40) (hn : n ≤ 9) : Met l yX6_told wsX6_told rm_c_X6_told_n (pc_ D cI cJ cZ [.ref x0, .int wh] [(x0, .inr (6, [.ref h4, .ref h3, .ref h2, .ref h1, .ref hB, .ref h5])), (h4, .inr (4, [.ref a1, .ref a2, .ref a3, .int (nI n), .int sn, .int sg])), (a1, .inl (cI, 9, .inl fg)), (a2, .inl (cI, 9, .inl fb)), (h3, .inr (3, [.ref b1, .ref b2, .int pt, .int (nI c0), .int (-1 : Int32)]))]) (va_Ql (fun (r : Int64) (_ : Unit) => r = if wh = 0 then lf fg fb sn sg n else -2) (fun _ _ => True) aN) 0 0 aN := by
  refine Met.ofW (cc := cX6_told) (maxL := 4) (ret := (some .long)) (by decide) rfl ?_
  intro p e s m args below meth c s₁ B hml hv
  obtain ⟨rfl, hP, hKN⟩ := hv
  have hK := hKN.1
  have hx := B.exec
  have hb := B.bytes
  have hr := B.returns
  have hts := atoms_spec (ws := wsX6_told) B.pre
  have hown : s.vm.findClass RX6 = some m.cls := findClass_of_methodNamed B.named
  have hlocks := B.notSynchronized
  have hiX4 : ∀ w ∈ wsX40, w ∈ wsX6_told := by decide +kernel
  have hiX6 : ∀ w ∈ wsX60, w ∈ wsX6_told := by decide +kernel
  have hf10 := hts (.fieldLink RX6 10 "LookBench" "shelf" "LLookBench$Shelf;") (by decide +kernel)
  have hf19 := hts (.fieldLink RX6 19 "LookBench" "rules" "LLookBench$Rules;") (by decide +kernel)
  have hf141 := va_Nw.use (A := [.ref x0, .int wh].toArray) rfl (hKN.2 (.fieldLinkNest RX6 141 RX4 "seenGood" "I" RX6) (by decide +kernel))
  have hf151 := va_Nw.use (A := [.ref x0, .int wh].toArray) rfl (hKN.2 (.fieldLinkNest RX6 151 RX4 "seen" "I" RX6) (by decide +kernel))
  have hS : va_S aN s.heap s.heap [] := va_S.rf
  have hl := lv_entry ([.ref x0, .int wh]) (n := 4) (Nat.le_of_ble_eq_true rfl)
  rw [lg_entry_eq]
  generalize (lg_sl ([.ref x0, .int wh]) ++ List.replicate (4 - (lg_sl ([.ref x0, .int wh])).length) Slot.unset).toArray = ls at hl ⊢
  have hl : lv_has ls 4 [(0, .ref x0), (1, .int wh)] := hl
  generalize hQ : MQ below _ _ s _ _ _ = Q
  obtain ⟨H, hH⟩ : ∃ z, z = s.heap := ⟨_, rfl⟩
  have hP : va_P D vwCl [(x0, .inr (6, [.ref h4, .ref h3, .ref h2, .ref h1, .ref hB, .ref h5])), (h4, .inr (4, [.ref a1, .ref a2, .ref a3, .int (nI n), .int sn, .int sg])), (a1, .inl (cI, 9, .inl fg)), (a2, .inl (cI, 9, .inl fb)), (h3, .inr (3, [.ref b1, .ref b2, .int pt, .int (nI c0), .int (-1 : Int32)]))] H := by rw [hH]; exact hP
  have hS : va_S aN s.heap H [] := by rw [hH]; exact hS
  refine m_heap hH ?_
  clear hH
  refine lv_aload_n hx hb dX6_told_0 rfl (lv_at hl 0 rfl) ?_
  refine va_get (D := D) (ci := 6) (v := .ref h4) (C := RX6) (T := TX6) (N := 6) hx hb hts hiX6 hown hK hP 0 rfl rfl 0 (by decide) hf10 (fun _ h9 => h9) rfl dX6_told_1 ?_
  refine va_getN (D := D) (ci := 4) (v := .int sn) (C := RX4) (T := TX4) (N := 6) hx hb hts hiX4 hown hK hP 1 rfl rfl 4 (by decide) hf151 (fun _ h9 => h9) rfl dX6_told_4 ?_
  refine lv_istore_n (lv' := [(2, .int sn), (0, .ref x0), (1, .int wh)]) hx hb dX6_told_7 rfl hl (by decide) rfl (fun ls hl => ?_)
  refine lv_aload_n hx hb dX6_told_8 rfl (lv_at hl 1 rfl) ?_
  refine va_get (D := D) (ci := 6) (v := .ref h4) (C := RX6) (T := TX6) (N := 6) hx hb hts hiX6 hown hK hP 0 rfl rfl 0 (by decide) hf10 (fun _ h9 => h9) rfl dX6_told_9 ?_
  refine va_getN (D := D) (ci := 4) (v := .int sg) (C := RX4) (T := TX4) (N := 6) hx hb hts hiX4 hown hK hP 1 rfl rfl 5 (by decide) hf141 (fun _ h9 => h9) rfl dX6_told_12 ?_
  refine lv_istore_n (lv' := [(3, .int sg), (2, .int sn), (0, .ref x0), (1, .int wh)]) hx hb dX6_told_15 rfl hl (by decide) rfl (fun ls hl => ?_)
  refine lv_iload_n hx hb dX6_told_16 rfl (lv_at hl 3 rfl) ?_
  refine lv_if_ne (tgt := 30) hx hb dX6_told_17 (by decide) (fun c1 => ?_) (fun c1 => ?_)
  · skip
    refine lv_aload_n hx hb dX6_told_30 rfl (lv_at hl 2 rfl) ?_
    refine va_get (D := D) (ci := 6) (v := .ref h3) (C := RX6) (T := TX6) (N := 6) hx hb hts hiX6 hown hK hP 0 rfl rfl 1 (by decide) hf19 (fun _ h9 => h9) rfl dX6_told_31 ?_
    refine pu_i (va_runV (As := []) (rest := []) ⟨hx, hb, hml, hown, hts⟩ (c_X3_hasSystem l D cI cJ cZ h3 b1 b2 c0 pt (-1 : Int32) (by first | assumption | omega)) (cwV 0 hts gX6_told_X3_hasSystem rfl rfl rfl (by decide +kernel) ⟨Nat.le_of_ble_eq_true rfl, Nat.le_of_ble_eq_true rfl⟩) ⟨pc_blind, va_recv hK hP (ci := 3) (q0 := 4) rfl rfl, fun U hU hW => ⟨rfl, by rw [hU]; exact hP.sub (ws' := [(h3, .inr (3, [.ref b1, .ref b2, .int pt, .int (nI c0), .int (-1 : Int32)]))]) [4] rfl, hKN.warm hW⟩⟩ rfl rfl hl.1 rfl (lv_room (Nat.le_of_ble_eq_true rfl)) dX6_told_34 ⟨Nat.le_of_ble_eq_true rfl, Nat.le_of_ble_eq_true rfl⟩) hS hP (fun r2 H locs w2r hP hS => ?_)
    have w2 : B01 r2 (0 ≤ (-1 : Int32).toInt ∧ (-1 : Int32).toInt < c0) := w2r
    clear w2r
    rcases w2 with ⟨rfl, w2⟩ | ⟨rfl, w2⟩
    · exact absurd w2 (by rw [show ((-1 : Int32)).toInt = -1 by decide]; omega)
    · skip
      refine lv_if_ne (tgt := 44) hx hb dX6_told_37 (by decide) (fun c3 => ?_) (fun c3 => ?_)
      · exact absurd c3 (by first | decide | exact nz_lt (by omega) | exact fun h => h (nz_ge (by omega)))
      · skip
        refine lv_ldc2 (v := (-2 : Int64)) hx hb hown (hts (.constantLong RX6 158 (-2 : Int64)) (by decide +kernel)) dX6_told_40 ?_
        rw [← hQ]
        exact W.lret (v := (-2 : Int64)) hx hb hr (fun tS htS hWS => ⟨⟨(-2 : Int64), (), rfl, by rw [if_neg c1], trivial⟩, hS.F htS⟩) hS.2.2 dX6_told_43
  · skip
    refine lv_aload_n hx hb dX6_told_20 rfl (lv_at hl 2 rfl) ?_
    refine va_get (D := D) (ci := 6) (v := .ref h4) (C := RX6) (T := TX6) (N := 6) hx hb hts hiX6 hown hK hP 0 rfl rfl 0 (by decide) hf10 (fun _ h9 => h9) rfl dX6_told_21 ?_
    refine lv_iload_n hx hb dX6_told_24 rfl (lv_at hl 1 rfl) ?_
    refine lv_iload_n hx hb dX6_told_25 rfl (lv_at hl 0 rfl) ?_
    refine pu_l (va_runV (As := [.int sn, .int sg]) (rest := []) ⟨hx, hb, hml, hown, hts⟩ (c_X4_left l D cI cJ cZ h4 a1 a2 a3 n sn sg sn sg fg fb (by first | assumption | omega)) (cwV 2 hts gX6_told_X4_left rfl rfl rfl (by decide +kernel) ⟨Nat.le_of_ble_eq_true rfl, Nat.le_of_ble_eq_true rfl⟩) ⟨pc_blind, va_recv hK hP (ci := 4) (q0 := 1) rfl rfl, fun U hU hW => ⟨rfl, by rw [hU]; exact hP.sub (ws' := [(h4, .inr (4, [.ref a1, .ref a2, .ref a3, .int (nI n), .int sn, .int sg])), (a1, .inl (cI, 9, .inl fg)), (a2, .inl (cI, 9, .inl fb))]) [1, 2, 3] rfl, hKN.warm hW⟩⟩ rfl rfl hl.1 rfl (lv_room (Nat.le_of_ble_eq_true rfl)) dX6_told_26 ⟨Nat.le_of_ble_eq_true rfl, Nat.le_of_ble_eq_true rfl⟩) hS hP (fun r4 H locs w4r hP hS => ?_)
    have w4 : r4 = lf fg fb sn sg n := w4r
    clear w4r
    rw [← hQ]
    exact W.lret (v := r4) hx hb hr (fun tS htS hWS => ⟨⟨r4, (), rfl, by rw [if_pos c1]; assumption, trivial⟩, hS.F htS⟩) hS.2.2 dX6_told_29
def rm_c_X6_of_n : Room := { frames := 2, cells := 0, slots := 0, locals := 41 }
set_option maxHeartbeats 400000 in
set_option maxRecDepth 100000 in
theorem c_X6_of_n (l : Launch) (D : va_G) (cI cJ cZ : ClassId) (x0 : Nat) (h4 : Nat) (h3 : Nat) (h2 : Nat) (h1 : Nat) (hB : Nat) (h5 : Nat) (b1 : Nat) (b2 : Nat) (c0 : Nat) (pt : Int32) (a1 : Nat) (a2 : Nat) (a3 : Nat) (n : Nat) (sn : Int32) (sg : Int32) (p0 : Int32) (wh : Int32) (hc : c0 ≤ 40) (hn : n ≤ 9) : Met l yX6_of wsX6_of rm_c_X6_of_n (pc_ D cI cJ cZ [.ref x0, .int p0, .int wh] [(x0, .inr (6, [.ref h4, .ref h3, .ref h2, .ref h1, .ref hB, .ref h5])), (h4, .inr (4, [.ref a1, .ref a2, .ref a3, .int (nI n), .int sn, .int sg])), (h3, .inr (3, [.ref b1, .ref b2, .int pt, .int (nI c0), .int (-1 : Int32)]))]) (va_Ql (fun (r : Int64) (_ : Unit) => r = -2) (fun _ _ => True) aN) 0 0 aN := by
  refine Met.ofW (cc := cX6_of) (maxL := 3) (ret := (some .long)) (by decide) rfl ?_
  intro p e s m args below meth c s₁ B hml hv
  obtain ⟨rfl, hP, hKN⟩ := hv
  have hK := hKN.1
  have hx := B.exec
  have hb := B.bytes
  have hr := B.returns
  have hts := atoms_spec (ws := wsX6_of) B.pre
  have hown : s.vm.findClass RX6 = some m.cls := findClass_of_methodNamed B.named
  have hlocks := B.notSynchronized
  have hiX6 : ∀ w ∈ wsX60, w ∈ wsX6_of := by decide +kernel
  have hf10 := hts (.fieldLink RX6 10 "LookBench" "shelf" "LLookBench$Shelf;") (by decide +kernel)
  have hf19 := hts (.fieldLink RX6 19 "LookBench" "rules" "LLookBench$Rules;") (by decide +kernel)
  have hS : va_S aN s.heap s.heap [] := va_S.rf
  have hl := lv_entry ([.ref x0, .int p0, .int wh]) (n := 3) (Nat.le_of_ble_eq_true rfl)
  rw [lg_entry_eq]
  generalize (lg_sl ([.ref x0, .int p0, .int wh]) ++ List.replicate (3 - (lg_sl ([.ref x0, .int p0, .int wh])).length) Slot.unset).toArray = ls at hl ⊢
  have hl : lv_has ls 3 [(0, .ref x0), (1, .int p0), (2, .int wh)] := hl
  generalize hQ : MQ below _ _ s _ _ _ = Q
  obtain ⟨H, hH⟩ : ∃ z, z = s.heap := ⟨_, rfl⟩
  have hP : va_P D vwCl [(x0, .inr (6, [.ref h4, .ref h3, .ref h2, .ref h1, .ref hB, .ref h5])), (h4, .inr (4, [.ref a1, .ref a2, .ref a3, .int (nI n), .int sn, .int sg])), (h3, .inr (3, [.ref b1, .ref b2, .int pt, .int (nI c0), .int (-1 : Int32)]))] H := by rw [hH]; exact hP
  have hS : va_S aN s.heap H [] := by rw [hH]; exact hS
  refine m_heap hH ?_
  clear hH
  refine lv_aload_n hx hb dX6_of_0 rfl (lv_at hl 0 rfl) ?_
  refine va_get (D := D) (ci := 6) (v := .ref h4) (C := RX6) (T := TX6) (N := 6) hx hb hts hiX6 hown hK hP 0 rfl rfl 0 (by decide) hf10 (fun _ h9 => h9) rfl dX6_of_1 ?_
  refine lv_iload_n hx hb dX6_of_4 rfl (lv_at hl 1 rfl) ?_
  refine pu_i (va_runV (As := [.int p0]) (rest := []) ⟨hx, hb, hml, hown, hts⟩ (c_X4_has l D cI cJ cZ h4 a1 a2 a3 n sn sg p0 (by first | assumption | omega)) (cwV 1 hts gX6_of_X4_has rfl rfl rfl (by decide +kernel) ⟨Nat.le_of_ble_eq_true rfl, Nat.le_of_ble_eq_true rfl⟩) ⟨pc_blind, va_recv hK hP (ci := 4) (q0 := 1) rfl rfl, fun U hU hW => ⟨rfl, by rw [hU]; exact hP.sub (ws' := [(h4, .inr (4, [.ref a1, .ref a2, .ref a3, .int (nI n), .int sn, .int sg]))]) [1] rfl, hKN.warm hW⟩⟩ rfl rfl hl.1 rfl (lv_room (Nat.le_of_ble_eq_true rfl)) dX6_of_5 ⟨Nat.le_of_ble_eq_true rfl, Nat.le_of_ble_eq_true rfl⟩) hS hP (fun r1 H locs w1r hP hS => ?_)
  have w1 : B01 r1 (0 ≤ p0.toInt ∧ p0.toInt < n) := w1r
  clear w1r
  rcases w1 with ⟨rfl, w1⟩ | ⟨rfl, w1⟩
  · skip
    obtain ⟨j9, hj9, rfl⟩ := m_nat w1
    have t9 : (nI j9).toInt = (j9 : Int) := nI_toInt (by omega)
    refine lv_if_eq (tgt := 33) hx hb dX6_of_8 (by decide) (fun c2 => ?_) (fun c2 => ?_)
    · exact absurd c2 (by first | decide | exact nz_lt (by omega) | exact fun h => h (nz_ge (by omega)))
    · skip
      refine lv_aload_n hx hb dX6_of_11 rfl (lv_at hl 0 rfl) ?_
      refine va_get (D := D) (ci := 6) (v := .ref h4) (C := RX6) (T := TX6) (N := 6) hx hb hts hiX6 hown hK hP 0 rfl rfl 0 (by decide) hf10 (fun _ h9 => h9) rfl dX6_of_12 ?_
      refine lv_iload_n hx hb dX6_of_15 rfl (lv_at hl 1 rfl) ?_
      refine pu_i (va_runV (As := [.int (nI j9)]) (rest := []) ⟨hx, hb, hml, hown, hts⟩ (c_X4_noted l D cI cJ cZ h4 a1 a2 a3 j9 (nI n) sn sg) (cwV 1 hts gX6_of_X4_noted rfl rfl rfl (by decide +kernel) ⟨Nat.le_of_ble_eq_true rfl, Nat.le_of_ble_eq_true rfl⟩) ⟨pc_blind, va_recv hK hP (ci := 4) (q0 := 1) rfl rfl, fun U hU hW => ⟨rfl, by rw [hU]; exact hP.sub (ws' := [(h4, .inr (4, [.ref a1, .ref a2, .ref a3, .int (nI n), .int sn, .int sg]))]) [1] rfl, hKN.warm hW⟩⟩ rfl rfl hl.1 rfl (lv_room (Nat.le_of_ble_eq_true rfl)) dX6_of_16 ⟨Nat.le_of_ble_eq_true rfl, Nat.le_of_ble_eq_true rfl⟩) hS hP (fun r3 H locs w3r hP hS => ?_)
      have w3 : r3 = if sb sn j9 = 0 then -1 else nI (sb sg j9) := w3r
      clear w3r
      refine lv_iconst (v := (-1 : Int32)) hx hb dX6_of_19 (by decide) ?_
      refine lv_icmp_ne (tgt := 33) hx hb dX6_of_20 (by decide) (fun c4 => ?_) (fun c4 => ?_)
      · skip
        refine lv_ldc2 (v := (-2 : Int64)) hx hb hown (hts (.constantLong RX6 158 (-2 : Int64)) (by decide +kernel)) dX6_of_33 ?_
        rw [← hQ]
        exact W.lret (v := (-2 : Int64)) hx hb hr (fun tS htS hWS => ⟨⟨(-2 : Int64), (), rfl, rfl, trivial⟩, hS.F htS⟩) hS.2.2 dX6_of_36
      · skip
        refine lv_aload_n hx hb dX6_of_23 rfl (lv_at hl 0 rfl) ?_
        refine va_get (D := D) (ci := 6) (v := .ref h3) (C := RX6) (T := TX6) (N := 6) hx hb hts hiX6 hown hK hP 0 rfl rfl 1 (by decide) hf19 (fun _ h9 => h9) rfl dX6_of_24 ?_
        refine pu_i (va_runV (As := []) (rest := []) ⟨hx, hb, hml, hown, hts⟩ (c_X3_hasSystem l D cI cJ cZ h3 b1 b2 c0 pt (-1 : Int32) (by first | assumption | omega)) (cwV 0 hts gX6_of_X3_hasSystem rfl rfl rfl (by decide +kernel) ⟨Nat.le_of_ble_eq_true rfl, Nat.le_of_ble_eq_true rfl⟩) ⟨pc_blind, va_recv hK hP (ci := 3) (q0 := 2) rfl rfl, fun U hU hW => ⟨rfl, by rw [hU]; exact hP.sub (ws' := [(h3, .inr (3, [.ref b1, .ref b2, .int pt, .int (nI c0), .int (-1 : Int32)]))]) [2] rfl, hKN.warm hW⟩⟩ rfl rfl hl.1 rfl (lv_room (Nat.le_of_ble_eq_true rfl)) dX6_of_27 ⟨Nat.le_of_ble_eq_true rfl, Nat.le_of_ble_eq_true rfl⟩) hS hP (fun r5 H locs w5r hP hS => ?_)
        have w5 : B01 r5 (0 ≤ (-1 : Int32).toInt ∧ (-1 : Int32).toInt < c0) := w5r
        clear w5r
        rcases w5 with ⟨rfl, w5⟩ | ⟨rfl, w5⟩
        · exact absurd w5 (by rw [show ((-1 : Int32)).toInt = -1 by decide]; omega)
        · skip
          refine lv_if_ne (tgt := 37) hx hb dX6_of_30 (by decide) (fun c6 => ?_) (fun c6 => ?_)
          · exact absurd c6 (by first | decide | exact nz_lt (by omega) | exact fun h => h (nz_ge (by omega)))
          · skip
            refine lv_ldc2 (v := (-2 : Int64)) hx hb hown (hts (.constantLong RX6 158 (-2 : Int64)) (by decide +kernel)) dX6_of_33 ?_
            rw [← hQ]
            exact W.lret (v := (-2 : Int64)) hx hb hr (fun tS htS hWS => ⟨⟨(-2 : Int64), (), rfl, rfl, trivial⟩, hS.F htS⟩) hS.2.2 dX6_of_36
  · skip
    refine lv_if_eq (tgt := 33) hx hb dX6_of_8 (by decide) (fun c7 => ?_) (fun c7 => ?_)
    · skip
      refine lv_ldc2 (v := (-2 : Int64)) hx hb hown (hts (.constantLong RX6 158 (-2 : Int64)) (by decide +kernel)) dX6_of_33 ?_
      rw [← hQ]
      exact W.lret (v := (-2 : Int64)) hx hb hr (fun tS htS hWS => ⟨⟨(-2 : Int64), (), rfl, rfl, trivial⟩, hS.F htS⟩) hS.2.2 dX6_of_36
    · exact absurd c7 (by first | decide | exact nz_lt (by omega) | exact fun h => h (nz_ge (by omega)))
