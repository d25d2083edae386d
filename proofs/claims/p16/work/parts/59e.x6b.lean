def rm_c_X6_single_b : Room := { frames := 2, cells := 0, slots := 0, locals := 43 }
set_option maxHeartbeats 400000 in
set_option maxRecDepth 100000 in
theorem c_X6_single_b (l : Launch) (D : va_G) (cI cJ cZ : ClassId) (x0 : Nat) (h4 : Nat) (h3 : Nat) (h2 : Nat) (h1 : Nat) (hB : Nat) (h5 : Nat) (a1 : Nat) (a2 : Nat) (a3 : Nat) (b1 : Nat) (b2 : Nat) (n : Nat) (c0 : Nat) (sn : Int32) (sg : Int32) (ry : Int32) (p0 : Int32) (fw : Nat → Int64) (hn : n ≤ 9) (hc : c0 ≤ 40) : Met l yX6_single wsX6_single rm_c_X6_single_b (pm_ D cI cJ cZ [.ref x0, .int p0] [(x0, .inr (6, [.ref h4, .ref h3, .ref h2, .ref h1, .ref hB, .ref h5])), (h4, .inr (4, [.ref a1, .ref a2, .ref a3, .int (nI n), .int sn, .int sg])), (h3, .inr (3, [.ref b1, .ref b2, .int (nI n), .int (nI c0), .int ry])), (b1, .inl (cJ, 320, .inr (.inl fw)))]) (va_Qi (fun (r : Int32) (u : Int32 × (Nat → Int64)) => ADXB r c0 fw ((0 ≤ p0.toInt ∧ p0.toInt < n) ∧ c0 < 40) u.1 u.2 (fun t => t < 2 ^ n ∧ t / 2 ^ p0.toInt.toNat % 2 = 1)) (fun (u : Int32 × (Nat → Int64)) tS => va_P D vwCl [(x0, .inr (6, [.ref h4, .ref h3, .ref h2, .ref h1, .ref hB, .ref h5])), (h4, .inr (4, [.ref a1, .ref a2, .ref a3, .int (nI n), .int sn, .int sg])), (h3, .inr (3, [.ref b1, .ref b2, .int (nI n), .int u.1, .int ry])), (b1, .inl (cJ, 320, .inr (.inl u.2)))] tS.heap) (aA [x0, h4, h3, b1])) 0 0 (aA [x0, h4, h3, b1]) := by
  refine Met.ofW (cc := cX6_single) (maxL := 2) (ret := (some .int)) (by decide) rfl ?_
  intro p e s m args below meth c s₁ B hml hv
  obtain ⟨rfl, hP, hKN, hD0⟩ := hv
  have hK := hKN.1
  have hx := B.exec
  have hb := B.bytes
  have hr := B.returns
  have hts := atoms_spec (ws := wsX6_single) B.pre
  have hown : s.vm.findClass RX6 = some m.cls := findClass_of_methodNamed B.named
  have hlocks := B.notSynchronized
  have hiX6 : ∀ w ∈ wsX60, w ∈ wsX6_single := by decide +kernel
  have hf10 := hts (.fieldLink RX6 10 "LookBench" "shelf" "LLookBench$Shelf;") (by decide +kernel)
  have hf19 := hts (.fieldLink RX6 19 "LookBench" "rules" "LLookBench$Rules;") (by decide +kernel)
  obtain ⟨as, has⟩ : ∃ z : List Nat, z = [x0, h4, h3, b1] := ⟨_, rfl⟩
  have hD := hD0.addr (as := as) (by rw [has]; rfl)
  have hS : va_S (aA as) s.heap s.heap [] := va_S.rf
  have hl := lv_entry ([.ref x0, .int p0]) (n := 2) (Nat.le_of_ble_eq_true rfl)
  rw [lg_entry_eq]
  generalize (lg_sl ([.ref x0, .int p0]) ++ List.replicate (2 - (lg_sl ([.ref x0, .int p0])).length) Slot.unset).toArray = ls at hl ⊢
  have hl : lv_has ls 2 [(0, .ref x0), (1, .int p0)] := hl
  generalize hQ : MQ below _ _ s _ _ _ = Q
  obtain ⟨H, hH⟩ : ∃ z, z = s.heap := ⟨_, rfl⟩
  have hP : va_P D vwCl [(x0, .inr (6, [.ref h4, .ref h3, .ref h2, .ref h1, .ref hB, .ref h5])), (h4, .inr (4, [.ref a1, .ref a2, .ref a3, .int (nI n), .int sn, .int sg])), (h3, .inr (3, [.ref b1, .ref b2, .int (nI n), .int (nI c0), .int ry])), (b1, .inl (cJ, 320, .inr (.inl fw)))] H := by rw [hH]; exact hP
  have hS : va_S (aA as) s.heap H [] := by rw [hH]; exact hS
  refine m_heap hH ?_
  clear hH
  refine lv_aload_n hx hb dX6_single_0 rfl (lv_at hl 0 rfl) ?_
  refine va_get (D := D) (ci := 6) (v := .ref h4) (C := RX6) (T := TX6) (N := 6) hx hb hts hiX6 hown hK hP 0 rfl rfl 0 (by decide) hf10 (fun _ h9 => h9) rfl dX6_single_1 ?_
  refine lv_iload_n hx hb dX6_single_4 rfl (lv_at hl 1 rfl) ?_
  refine pu_i (va_runV (As := [.int p0]) (rest := []) ⟨hx, hb, hml, hown, hts⟩ (c_X4_has l D cI cJ cZ h4 a1 a2 a3 n sn sg p0 (by first | assumption | omega)) (cwV 1 hts gX6_single_X4_has rfl rfl rfl (by decide +kernel) ⟨Nat.le_of_ble_eq_true rfl, Nat.le_of_ble_eq_true rfl⟩) ⟨pc_blind, va_recv hK hP (ci := 4) (q0 := 1) rfl rfl, fun U hU hW => ⟨rfl, by rw [hU]; exact hP.sub (ws' := [(h4, .inr (4, [.ref a1, .ref a2, .ref a3, .int (nI n), .int sn, .int sg]))]) [1] rfl, hKN.warm hW⟩⟩ rfl rfl hl.1 rfl (lv_room (Nat.le_of_ble_eq_true rfl)) dX6_single_5 ⟨Nat.le_of_ble_eq_true rfl, Nat.le_of_ble_eq_true rfl⟩) hS hP (fun r1 H locs w1r hP hS => ?_)
  have w1 : B01 r1 (0 ≤ p0.toInt ∧ p0.toInt < n) := w1r
  clear w1r
  rcases w1 with ⟨rfl, w1⟩ | ⟨rfl, w1⟩
  · skip
    obtain ⟨j9, hj9, rfl⟩ := m_nat w1
    have tj9 : (nI j9).toInt = (j9 : Int) := nI_toInt (by omega)
    refine lv_if_eq (tgt := 32) hx hb dX6_single_8 (by decide) (fun c2 => ?_) (fun c2 => ?_)
    · exact absurd c2 (by first | decide | exact nz_lt (by omega) | exact fun h => h (nz_ge (by omega)))
    · skip
      refine lv_aload_n hx hb dX6_single_11 rfl (lv_at hl 0 rfl) ?_
      refine va_get (D := D) (ci := 6) (v := .ref h3) (C := RX6) (T := TX6) (N := 6) hx hb hts hiX6 hown hK hP 0 rfl rfl 1 (by decide) hf19 (fun _ h9 => h9) rfl dX6_single_12 ?_
      refine pu_i (va_runV (As := []) (rest := []) ⟨hx, hb, hml, hown, hts⟩ (c_X3_hasRoom l D cI cJ cZ h3 b1 b2 c0 (nI n) ry (by first | assumption | omega)) (cwV 0 hts gX6_single_X3_hasRoom rfl rfl rfl (by decide +kernel) ⟨Nat.le_of_ble_eq_true rfl, Nat.le_of_ble_eq_true rfl⟩) ⟨pc_blind, va_recv hK hP (ci := 3) (q0 := 2) rfl rfl, fun U hU hW => ⟨rfl, by rw [hU]; exact hP.sub (ws' := [(h3, .inr (3, [.ref b1, .ref b2, .int (nI n), .int (nI c0), .int ry]))]) [2] rfl, hKN.warm hW⟩⟩ rfl rfl hl.1 rfl (lv_room (Nat.le_of_ble_eq_true rfl)) dX6_single_15 ⟨Nat.le_of_ble_eq_true rfl, Nat.le_of_ble_eq_true rfl⟩) hS hP (fun r3 H locs w3r hP hS => ?_)
      have w3 : B01 r3 (c0 < 40) := w3r
      clear w3r
      rcases w3 with ⟨rfl, w3⟩ | ⟨rfl, w3⟩
      · skip
        refine lv_if_eq (tgt := 32) hx hb dX6_single_18 (by decide) (fun c4 => ?_) (fun c4 => ?_)
        · exact absurd c4 (by first | decide | exact nz_lt (by omega) | exact fun h => h (nz_ge (by omega)))
        · skip
          refine lv_aload_n hx hb dX6_single_21 rfl (lv_at hl 0 rfl) ?_
          refine va_get (D := D) (ci := 6) (v := .ref h3) (C := RX6) (T := TX6) (N := 6) hx hb hts hiX6 hown hK hP 0 rfl rfl 1 (by decide) hf19 (fun _ h9 => h9) rfl dX6_single_22 ?_
          refine lv_iload_n hx hb dX6_single_25 rfl (lv_at hl 1 rfl) ?_
          refine mu_i (n := 4) (wc := [(h3, .inr (3, [.ref b1, .ref b2, .int (nI n), .int (nI c0), .int ry])), (b1, .inl (cJ, 320, .inr (.inl fw)))]) (va_runV (As := [.int (nI j9)]) (rest := []) ⟨hx, hb, hml, hown, hts⟩ (c_X3_addSingle_b l D cI cJ cZ h3 b1 b2 n c0 j9 ry fw (by first | assumption | omega) (by first | assumption | omega) (by first | assumption | omega)) (cwV 1 hts gX6_single_X3_addSingle rfl rfl rfl (by decide +kernel) ⟨Nat.le_of_ble_eq_true rfl, Nat.le_of_ble_eq_true rfl⟩) ⟨pm_blind, va_recv hK hP (ci := 3) (q0 := 2) rfl rfl, fun U hU hW => ⟨rfl, by rw [hU]; exact hP.sub (ws' := [(h3, .inr (3, [.ref b1, .ref b2, .int (nI n), .int (nI c0), .int ry])), (b1, .inl (cJ, 320, .inr (.inl fw)))]) [2, 3] rfl, hKN.warm hW, (hD.sub (ws' := [(h3, .inr (3, [.ref b1, .ref b2, .int (nI n), .int (nI c0), .int ry])), (b1, .inl (cJ, 320, .inr (.inl fw)))]) [2, 3] (by decide) rfl).weaken (fun _ _ _ _ => trivial)⟩⟩ rfl rfl hl.1 rfl (lv_room (Nat.le_of_ble_eq_true rfl)) dX6_single_26 ⟨Nat.le_of_ble_eq_true rfl, Nat.le_of_ble_eq_true rfl⟩) hS hP hD (fun (u : (Nat → Int64)) => [(x0, .inr (6, [.ref h4, .ref h3, .ref h2, .ref h1, .ref hB, .ref h5])), (h4, .inr (4, [.ref a1, .ref a2, .ref a3, .int (nI n), .int sn, .int sg])), (h3, .inr (3, [.ref b1, .ref b2, .int (nI n), .int (nI (c0 + 1)), .int ry])), (b1, .inl (cJ, 320, .inr (.inl u)))]) [2, 3] [0, 1] rfl rfl (fun _ => rfl) (fun _ => rfl) (fun _ => rfl) (fun _ => rfl) (by decide) (by decide) (fun r5 u5 H locs w5r hP hD hS => ?_)
          obtain ⟨u5_uw, rfl⟩ : ∃ z, z = u5 := ⟨_, rfl⟩
          have hP : va_P D vwCl [(x0, .inr (6, [.ref h4, .ref h3, .ref h2, .ref h1, .ref hB, .ref h5])), (h4, .inr (4, [.ref a1, .ref a2, .ref a3, .int (nI n), .int sn, .int sg])), (h3, .inr (3, [.ref b1, .ref b2, .int (nI n), .int (nI (c0 + 1)), .int ry])), (b1, .inl (cJ, 320, .inr (.inl u5_uw)))] H := hP
          have hD : va_D (aA as) [(x0, .inr (6, [.ref h4, .ref h3, .ref h2, .ref h1, .ref hB, .ref h5])), (h4, .inr (4, [.ref a1, .ref a2, .ref a3, .int (nI n), .int sn, .int sg])), (h3, .inr (3, [.ref b1, .ref b2, .int (nI n), .int (nI (c0 + 1)), .int ry])), (b1, .inl (cJ, 320, .inr (.inl u5_uw)))] := hD
          have w5 : r5 = nI c0 ∧ RW fw u5_uw c0 (fun t => t < 2 ^ n ∧ (t / 2 ^ j9 % 2 = 1)) := w5r
          clear w5r
          refine lv_goto (tgt := 33) hx hb dX6_single_29 (by decide) ?_
          rw [← hQ]
          exact W.iret (v := r5) hx hb hr (fun tS htS hWS => ⟨⟨r5, (nI (c0 + 1), u5_uw), rfl, by first | exact Or.inr ⟨rfl, by omega, rfl, rfl⟩ | exact Or.inl ⟨w5.1, by omega, rfl, by rw [m_tn (j := j9) (by omega)]; exact w5.2⟩, m_at htS hP⟩, by rw [← has]; exact hS.F htS⟩) (by rw [← has]; exact hS.2.2) dX6_single_33
      · skip
        refine lv_if_eq (tgt := 32) hx hb dX6_single_18 (by decide) (fun c6 => ?_) (fun c6 => ?_)
        · skip
          refine lv_iconst (v := (-1 : Int32)) hx hb dX6_single_32 (by decide) ?_
          rw [← hQ]
          exact W.iret (v := (-1 : Int32)) hx hb hr (fun tS htS hWS => ⟨⟨(-1 : Int32), (nI c0, fw), rfl, by first | exact Or.inr ⟨rfl, by omega, rfl, rfl⟩ | exact Or.inl ⟨w3.1, by omega, rfl, by rw [m_tn (j := j9) (by omega)]; exact w3.2⟩, m_at htS hP⟩, by rw [← has]; exact hS.F htS⟩) (by rw [← has]; exact hS.2.2) dX6_single_33
        · exact absurd c6 (by first | decide | exact nz_lt (by omega) | exact fun h => h (nz_ge (by omega)))
  · skip
    refine lv_if_eq (tgt := 32) hx hb dX6_single_8 (by decide) (fun c7 => ?_) (fun c7 => ?_)
    · skip
      refine lv_iconst (v := (-1 : Int32)) hx hb dX6_single_32 (by decide) ?_
      rw [← hQ]
      exact W.iret (v := (-1 : Int32)) hx hb hr (fun tS htS hWS => ⟨⟨(-1 : Int32), (nI c0, fw), rfl, by first | exact Or.inr ⟨rfl, by omega, rfl, rfl⟩ | exact Or.inl ⟨w1.1, by omega, rfl, by rw [m_tn (j := j9) (by omega)]; exact w1.2⟩, m_at htS hP⟩, by rw [← has]; exact hS.F htS⟩) (by rw [← has]; exact hS.2.2) dX6_single_33
    · exact absurd c7 (by first | decide | exact nz_lt (by omega) | exact fun h => h (nz_ge (by omega)))
def rm_c_X6_row_b : Room := { frames := 1, cells := 0, slots := 0, locals := 23 }
set_option maxHeartbeats 400000 in
set_option maxRecDepth 100000 in
theorem c_X6_row_b (l : Launch) (D : va_G) (cI cJ cZ : ClassId) (x0 : Nat) (h4 : Nat) (h3 : Nat) (h2 : Nat) (h1 : Nat) (hB : Nat) (h5 : Nat) (b1 : Nat) (b2 : Nat) (c0 : Nat) (pt : Int32) (ry : Int32) (p0 : Int32) (p1 : Int32) (fw : Nat → Int64) (hc : c0 ≤ 40) : Met l yX6_row wsX6_row rm_c_X6_row_b (pm_ D cI cJ cZ [.ref x0, .int p0, .int p1] [(x0, .inr (6, [.ref h4, .ref h3, .ref h2, .ref h1, .ref hB, .ref h5])), (h3, .inr (3, [.ref b1, .ref b2, .int pt, .int (nI c0), .int ry])), (b1, .inl (cJ, 320, .inr (.inl fw)))]) (va_Qi (fun (r : Int32) (u : Int32 × (Nat → Int64)) => ADXB r c0 fw ((0 ≤ p0.toInt ∧ p0.toInt < c0) ∧ (0 ≤ p1.toInt ∧ p1.toInt < c0) ∧ c0 < 40) u.1 u.2 (fun t => isG fw p0.toInt.toNat t ∧ isG fw p1.toInt.toNat t)) (fun (u : Int32 × (Nat → Int64)) tS => va_P D vwCl [(x0, .inr (6, [.ref h4, .ref h3, .ref h2, .ref h1, .ref hB, .ref h5])), (h3, .inr (3, [.ref b1, .ref b2, .int pt, .int u.1, .int ry])), (b1, .inl (cJ, 320, .inr (.inl u.2)))] tS.heap) (aA [x0, h3, b1])) 0 0 (aA [x0, h3, b1]) := by
  refine Met.ofW (cc := cX6_row) (maxL := 3) (ret := (some .int)) (by decide) rfl ?_
  intro p e s m args below meth c s₁ B hml hv
  obtain ⟨rfl, hP, hKN, hD0⟩ := hv
  have hK := hKN.1
  have hx := B.exec
  have hb := B.bytes
  have hr := B.returns
  have hts := atoms_spec (ws := wsX6_row) B.pre
  have hown : s.vm.findClass RX6 = some m.cls := findClass_of_methodNamed B.named
  have hlocks := B.notSynchronized
  have hiX6 : ∀ w ∈ wsX60, w ∈ wsX6_row := by decide +kernel
  have hf19 := hts (.fieldLink RX6 19 "LookBench" "rules" "LLookBench$Rules;") (by decide +kernel)
  obtain ⟨as, has⟩ : ∃ z : List Nat, z = [x0, h3, b1] := ⟨_, rfl⟩
  have hD := hD0.addr (as := as) (by rw [has]; rfl)
  have hS : va_S (aA as) s.heap s.heap [] := va_S.rf
  have hl := lv_entry ([.ref x0, .int p0, .int p1]) (n := 3) (Nat.le_of_ble_eq_true rfl)
  rw [lg_entry_eq]
  generalize (lg_sl ([.ref x0, .int p0, .int p1]) ++ List.replicate (3 - (lg_sl ([.ref x0, .int p0, .int p1])).length) Slot.unset).toArray = ls at hl ⊢
  have hl : lv_has ls 3 [(0, .ref x0), (1, .int p0), (2, .int p1)] := hl
  generalize hQ : MQ below _ _ s _ _ _ = Q
  obtain ⟨H, hH⟩ : ∃ z, z = s.heap := ⟨_, rfl⟩
  have hP : va_P D vwCl [(x0, .inr (6, [.ref h4, .ref h3, .ref h2, .ref h1, .ref hB, .ref h5])), (h3, .inr (3, [.ref b1, .ref b2, .int pt, .int (nI c0), .int ry])), (b1, .inl (cJ, 320, .inr (.inl fw)))] H := by rw [hH]; exact hP
  have hS : va_S (aA as) s.heap H [] := by rw [hH]; exact hS
  refine m_heap hH ?_
  clear hH
  refine lv_aload_n hx hb dX6_row_0 rfl (lv_at hl 0 rfl) ?_
  refine va_get (D := D) (ci := 6) (v := .ref h3) (C := RX6) (T := TX6) (N := 6) hx hb hts hiX6 hown hK hP 0 rfl rfl 1 (by decide) hf19 (fun _ h9 => h9) rfl dX6_row_1 ?_
  refine lv_iload_n hx hb dX6_row_4 rfl (lv_at hl 1 rfl) ?_
  refine pu_i (va_runV (As := [.int p0]) (rest := []) ⟨hx, hb, hml, hown, hts⟩ (c_X3_has l D cI cJ cZ h3 b1 b2 c0 pt ry p0 (by first | assumption | omega)) (cwV 1 hts gX6_row_X3_has rfl rfl rfl (by decide +kernel) ⟨Nat.le_of_ble_eq_true rfl, Nat.le_of_ble_eq_true rfl⟩) ⟨pc_blind, va_recv hK hP (ci := 3) (q0 := 1) rfl rfl, fun U hU hW => ⟨rfl, by rw [hU]; exact hP.sub (ws' := [(h3, .inr (3, [.ref b1, .ref b2, .int pt, .int (nI c0), .int ry]))]) [1] rfl, hKN.warm hW⟩⟩ rfl rfl hl.1 rfl (lv_room (Nat.le_of_ble_eq_true rfl)) dX6_row_5 ⟨Nat.le_of_ble_eq_true rfl, Nat.le_of_ble_eq_true rfl⟩) hS hP (fun r1 H locs w1r hP hS => ?_)
  have w1 : B01 r1 (0 ≤ p0.toInt ∧ p0.toInt < c0) := w1r
  clear w1r
  rcases w1 with ⟨rfl, w1⟩ | ⟨rfl, w1⟩
  · skip
    obtain ⟨j9, hj9, rfl⟩ := m_nat w1
    have tj9 : (nI j9).toInt = (j9 : Int) := nI_toInt (by omega)
    refine lv_if_eq (tgt := 44) hx hb dX6_row_8 (by decide) (fun c2 => ?_) (fun c2 => ?_)
    · exact absurd c2 (by first | decide | exact nz_lt (by omega) | exact fun h => h (nz_ge (by omega)))
    · skip
      refine lv_aload_n hx hb dX6_row_11 rfl (lv_at hl 0 rfl) ?_
      refine va_get (D := D) (ci := 6) (v := .ref h3) (C := RX6) (T := TX6) (N := 6) hx hb hts hiX6 hown hK hP 0 rfl rfl 1 (by decide) hf19 (fun _ h9 => h9) rfl dX6_row_12 ?_
      refine lv_iload_n hx hb dX6_row_15 rfl (lv_at hl 2 rfl) ?_
      refine pu_i (va_runV (As := [.int p1]) (rest := []) ⟨hx, hb, hml, hown, hts⟩ (c_X3_has l D cI cJ cZ h3 b1 b2 c0 pt ry p1 (by first | assumption | omega)) (cwV 1 hts gX6_row_X3_has rfl rfl rfl (by decide +kernel) ⟨Nat.le_of_ble_eq_true rfl, Nat.le_of_ble_eq_true rfl⟩) ⟨pc_blind, va_recv hK hP (ci := 3) (q0 := 1) rfl rfl, fun U hU hW => ⟨rfl, by rw [hU]; exact hP.sub (ws' := [(h3, .inr (3, [.ref b1, .ref b2, .int pt, .int (nI c0), .int ry]))]) [1] rfl, hKN.warm hW⟩⟩ rfl rfl hl.1 rfl (lv_room (Nat.le_of_ble_eq_true rfl)) dX6_row_16 ⟨Nat.le_of_ble_eq_true rfl, Nat.le_of_ble_eq_true rfl⟩) hS hP (fun r3 H locs w3r hP hS => ?_)
      have w3 : B01 r3 (0 ≤ p1.toInt ∧ p1.toInt < c0) := w3r
      clear w3r
      rcases w3 with ⟨rfl, w3⟩ | ⟨rfl, w3⟩
      · skip
        obtain ⟨j8, hj8, rfl⟩ := m_nat w3
        have tj8 : (nI j8).toInt = (j8 : Int) := nI_toInt (by omega)
        refine lv_if_eq (tgt := 44) hx hb dX6_row_19 (by decide) (fun c4 => ?_) (fun c4 => ?_)
        · exact absurd c4 (by first | decide | exact nz_lt (by omega) | exact fun h => h (nz_ge (by omega)))
        · skip
          refine lv_aload_n hx hb dX6_row_22 rfl (lv_at hl 0 rfl) ?_
          refine va_get (D := D) (ci := 6) (v := .ref h3) (C := RX6) (T := TX6) (N := 6) hx hb hts hiX6 hown hK hP 0 rfl rfl 1 (by decide) hf19 (fun _ h9 => h9) rfl dX6_row_23 ?_
          refine pu_i (va_runV (As := []) (rest := []) ⟨hx, hb, hml, hown, hts⟩ (c_X3_hasRoom l D cI cJ cZ h3 b1 b2 c0 pt ry (by first | assumption | omega)) (cwV 0 hts gX6_row_X3_hasRoom rfl rfl rfl (by decide +kernel) ⟨Nat.le_of_ble_eq_true rfl, Nat.le_of_ble_eq_true rfl⟩) ⟨pc_blind, va_recv hK hP (ci := 3) (q0 := 1) rfl rfl, fun U hU hW => ⟨rfl, by rw [hU]; exact hP.sub (ws' := [(h3, .inr (3, [.ref b1, .ref b2, .int pt, .int (nI c0), .int ry]))]) [1] rfl, hKN.warm hW⟩⟩ rfl rfl hl.1 rfl (lv_room (Nat.le_of_ble_eq_true rfl)) dX6_row_26 ⟨Nat.le_of_ble_eq_true rfl, Nat.le_of_ble_eq_true rfl⟩) hS hP (fun r5 H locs w5r hP hS => ?_)
          have w5 : B01 r5 (c0 < 40) := w5r
          clear w5r
          rcases w5 with ⟨rfl, w5⟩ | ⟨rfl, w5⟩
          · skip
            refine lv_if_eq (tgt := 44) hx hb dX6_row_29 (by decide) (fun c6 => ?_) (fun c6 => ?_)
            · exact absurd c6 (by first | decide | exact nz_lt (by omega) | exact fun h => h (nz_ge (by omega)))
            · skip
              refine lv_aload_n hx hb dX6_row_32 rfl (lv_at hl 0 rfl) ?_
              refine va_get (D := D) (ci := 6) (v := .ref h3) (C := RX6) (T := TX6) (N := 6) hx hb hts hiX6 hown hK hP 0 rfl rfl 1 (by decide) hf19 (fun _ h9 => h9) rfl dX6_row_33 ?_
              refine lv_iload_n hx hb dX6_row_36 rfl (lv_at hl 1 rfl) ?_
              refine lv_iload_n hx hb dX6_row_37 rfl (lv_at hl 2 rfl) ?_
              refine mu_i (n := 3) (wc := [(h3, .inr (3, [.ref b1, .ref b2, .int pt, .int (nI c0), .int ry])), (b1, .inl (cJ, 320, .inr (.inl fw)))]) (va_runV (As := [.int (nI j9), .int (nI j8)]) (rest := []) ⟨hx, hb, hml, hown, hts⟩ (c_X3_addRow_b l D cI cJ cZ h3 b1 b2 c0 j9 j8 pt ry fw (by first | assumption | omega) (by first | assumption | omega) (by first | assumption | omega)) (cwV 2 hts gX6_row_X3_addRow rfl rfl rfl (by decide +kernel) ⟨Nat.le_of_ble_eq_true rfl, Nat.le_of_ble_eq_true rfl⟩) ⟨pm_blind, va_recv hK hP (ci := 3) (q0 := 1) rfl rfl, fun U hU hW => ⟨rfl, by rw [hU]; exact hP.sub (ws' := [(h3, .inr (3, [.ref b1, .ref b2, .int pt, .int (nI c0), .int ry])), (b1, .inl (cJ, 320, .inr (.inl fw)))]) [1, 2] rfl, hKN.warm hW, (hD.sub (ws' := [(h3, .inr (3, [.ref b1, .ref b2, .int pt, .int (nI c0), .int ry])), (b1, .inl (cJ, 320, .inr (.inl fw)))]) [1, 2] (by decide) rfl).weaken (fun _ _ _ _ => trivial)⟩⟩ rfl rfl hl.1 rfl (lv_room (Nat.le_of_ble_eq_true rfl)) dX6_row_38 ⟨Nat.le_of_ble_eq_true rfl, Nat.le_of_ble_eq_true rfl⟩) hS hP hD (fun (u : (Nat → Int64)) => [(x0, .inr (6, [.ref h4, .ref h3, .ref h2, .ref h1, .ref hB, .ref h5])), (h3, .inr (3, [.ref b1, .ref b2, .int pt, .int (nI (c0 + 1)), .int ry])), (b1, .inl (cJ, 320, .inr (.inl u)))]) [1, 2] [0] rfl rfl (fun _ => rfl) (fun _ => rfl) (fun _ => rfl) (fun _ => rfl) (by decide) (by decide) (fun r7 u7 H locs w7r hP hD hS => ?_)
              obtain ⟨u7_uw, rfl⟩ : ∃ z, z = u7 := ⟨_, rfl⟩
              have hP : va_P D vwCl [(x0, .inr (6, [.ref h4, .ref h3, .ref h2, .ref h1, .ref hB, .ref h5])), (h3, .inr (3, [.ref b1, .ref b2, .int pt, .int (nI (c0 + 1)), .int ry])), (b1, .inl (cJ, 320, .inr (.inl u7_uw)))] H := hP
              have hD : va_D (aA as) [(x0, .inr (6, [.ref h4, .ref h3, .ref h2, .ref h1, .ref hB, .ref h5])), (h3, .inr (3, [.ref b1, .ref b2, .int pt, .int (nI (c0 + 1)), .int ry])), (b1, .inl (cJ, 320, .inr (.inl u7_uw)))] := hD
              have w7 : r7 = nI c0 ∧ RW fw u7_uw c0 (fun t => isG fw j9 t ∧ isG fw j8 t) := w7r
              clear w7r
              refine lv_goto (tgt := 45) hx hb dX6_row_41 (by decide) ?_
              rw [← hQ]
              exact W.iret (v := r7) hx hb hr (fun tS htS hWS => ⟨⟨r7, (nI (c0 + 1), u7_uw), rfl, by first | exact Or.inr ⟨rfl, by omega, rfl, rfl⟩ | exact Or.inl ⟨w7.1, by omega, rfl, by rw [m_tn (j := j9) (by omega), m_tn (j := j8) (by omega)]; exact w7.2⟩, m_at htS hP⟩, by rw [← has]; exact hS.F htS⟩) (by rw [← has]; exact hS.2.2) dX6_row_45
          · skip
            refine lv_if_eq (tgt := 44) hx hb dX6_row_29 (by decide) (fun c8 => ?_) (fun c8 => ?_)
            · skip
              refine lv_iconst (v := (-1 : Int32)) hx hb dX6_row_44 (by decide) ?_
              rw [← hQ]
              exact W.iret (v := (-1 : Int32)) hx hb hr (fun tS htS hWS => ⟨⟨(-1 : Int32), (nI c0, fw), rfl, by first | exact Or.inr ⟨rfl, by omega, rfl, rfl⟩ | exact Or.inl ⟨w5.1, by omega, rfl, by rw [m_tn (j := j9) (by omega), m_tn (j := j8) (by omega)]; exact w5.2⟩, m_at htS hP⟩, by rw [← has]; exact hS.F htS⟩) (by rw [← has]; exact hS.2.2) dX6_row_45
            · exact absurd c8 (by first | decide | exact nz_lt (by omega) | exact fun h => h (nz_ge (by omega)))
      · skip
        refine lv_if_eq (tgt := 44) hx hb dX6_row_19 (by decide) (fun c9 => ?_) (fun c9 => ?_)
        · skip
          refine lv_iconst (v := (-1 : Int32)) hx hb dX6_row_44 (by decide) ?_
          rw [← hQ]
          exact W.iret (v := (-1 : Int32)) hx hb hr (fun tS htS hWS => ⟨⟨(-1 : Int32), (nI c0, fw), rfl, by first | exact Or.inr ⟨rfl, by omega, rfl, rfl⟩ | exact Or.inl ⟨w3.1, by omega, rfl, by rw [m_tn (j := j9) (by omega), m_tn (j := j8) (by omega)]; exact w3.2⟩, m_at htS hP⟩, by rw [← has]; exact hS.F htS⟩) (by rw [← has]; exact hS.2.2) dX6_row_45
        · exact absurd c9 (by first | decide | exact nz_lt (by omega) | exact fun h => h (nz_ge (by omega)))
  · skip
    refine lv_if_eq (tgt := 44) hx hb dX6_row_8 (by decide) (fun c10 => ?_) (fun c10 => ?_)
    · skip
      refine lv_iconst (v := (-1 : Int32)) hx hb dX6_row_44 (by decide) ?_
      rw [← hQ]
      exact W.iret (v := (-1 : Int32)) hx hb hr (fun tS htS hWS => ⟨⟨(-1 : Int32), (nI c0, fw), rfl, by first | exact Or.inr ⟨rfl, by omega, rfl, rfl⟩ | exact Or.inl ⟨w1.1, by omega, rfl, by rw [m_tn (j := j9) (by omega), m_tn (j := j8) (by omega)]; exact w1.2⟩, m_at htS hP⟩, by rw [← has]; exact hS.F htS⟩) (by rw [← has]; exact hS.2.2) dX6_row_45
    · exact absurd c10 (by first | decide | exact nz_lt (by omega) | exact fun h => h (nz_ge (by omega)))
def rm_c_X6_side_b : Room := { frames := 1, cells := 0, slots := 0, locals := 23 }
set_option maxHeartbeats 400000 in
set_option maxRecDepth 100000 in
theorem c_X6_side_b (l : Launch) (D : va_G) (cI cJ cZ : ClassId) (x0 : Nat) (h4 : Nat) (h3 : Nat) (h2 : Nat) (h1 : Nat) (hB : Nat) (h5 : Nat) (b1 : Nat) (b2 : Nat) (c0 : Nat) (pt : Int32) (ry : Int32) (p0 : Int32) (p1 : Int32) (fw : Nat → Int64) (hc : c0 ≤ 40) : Met l yX6_side wsX6_side rm_c_X6_side_b (pm_ D cI cJ cZ [.ref x0, .int p0, .int p1] [(x0, .inr (6, [.ref h4, .ref h3, .ref h2, .ref h1, .ref hB, .ref h5])), (h3, .inr (3, [.ref b1, .ref b2, .int pt, .int (nI c0), .int ry])), (b1, .inl (cJ, 320, .inr (.inl fw)))]) (va_Qi (fun (r : Int32) (u : Int32 × (Nat → Int64)) => ADXB r c0 fw ((0 ≤ p0.toInt ∧ p0.toInt < c0) ∧ (0 ≤ p1.toInt ∧ p1.toInt < c0) ∧ c0 < 40) u.1 u.2 (fun t => isG fw p0.toInt.toNat t ∨ isG fw p1.toInt.toNat t)) (fun (u : Int32 × (Nat → Int64)) tS => va_P D vwCl [(x0, .inr (6, [.ref h4, .ref h3, .ref h2, .ref h1, .ref hB, .ref h5])), (h3, .inr (3, [.ref b1, .ref b2, .int pt, .int u.1, .int ry])), (b1, .inl (cJ, 320, .inr (.inl u.2)))] tS.heap) (aA [x0, h3, b1])) 0 0 (aA [x0, h3, b1]) := by
  refine Met.ofW (cc := cX6_side) (maxL := 3) (ret := (some .int)) (by decide) rfl ?_
  intro p e s m args below meth c s₁ B hml hv
  obtain ⟨rfl, hP, hKN, hD0⟩ := hv
  have hK := hKN.1
  have hx := B.exec
  have hb := B.bytes
  have hr := B.returns
  have hts := atoms_spec (ws := wsX6_side) B.pre
  have hown : s.vm.findClass RX6 = some m.cls := findClass_of_methodNamed B.named
  have hlocks := B.notSynchronized
  have hiX6 : ∀ w ∈ wsX60, w ∈ wsX6_side := by decide +kernel
  have hf19 := hts (.fieldLink RX6 19 "LookBench" "rules" "LLookBench$Rules;") (by decide +kernel)
  obtain ⟨as, has⟩ : ∃ z : List Nat, z = [x0, h3, b1] := ⟨_, rfl⟩
  have hD := hD0.addr (as := as) (by rw [has]; rfl)
  have hS : va_S (aA as) s.heap s.heap [] := va_S.rf
  have hl := lv_entry ([.ref x0, .int p0, .int p1]) (n := 3) (Nat.le_of_ble_eq_true rfl)
  rw [lg_entry_eq]
  generalize (lg_sl ([.ref x0, .int p0, .int p1]) ++ List.replicate (3 - (lg_sl ([.ref x0, .int p0, .int p1])).length) Slot.unset).toArray = ls at hl ⊢
  have hl : lv_has ls 3 [(0, .ref x0), (1, .int p0), (2, .int p1)] := hl
  generalize hQ : MQ below _ _ s _ _ _ = Q
  obtain ⟨H, hH⟩ : ∃ z, z = s.heap := ⟨_, rfl⟩
  have hP : va_P D vwCl [(x0, .inr (6, [.ref h4, .ref h3, .ref h2, .ref h1, .ref hB, .ref h5])), (h3, .inr (3, [.ref b1, .ref b2, .int pt, .int (nI c0), .int ry])), (b1, .inl (cJ, 320, .inr (.inl fw)))] H := by rw [hH]; exact hP
  have hS : va_S (aA as) s.heap H [] := by rw [hH]; exact hS
  refine m_heap hH ?_
  clear hH
  refine lv_aload_n hx hb dX6_side_0 rfl (lv_at hl 0 rfl) ?_
  refine va_get (D := D) (ci := 6) (v := .ref h3) (C := RX6) (T := TX6) (N := 6) hx hb hts hiX6 hown hK hP 0 rfl rfl 1 (by decide) hf19 (fun _ h9 => h9) rfl dX6_side_1 ?_
  refine lv_iload_n hx hb dX6_side_4 rfl (lv_at hl 1 rfl) ?_
  refine pu_i (va_runV (As := [.int p0]) (rest := []) ⟨hx, hb, hml, hown, hts⟩ (c_X3_has l D cI cJ cZ h3 b1 b2 c0 pt ry p0 (by first | assumption | omega)) (cwV 1 hts gX6_side_X3_has rfl rfl rfl (by decide +kernel) ⟨Nat.le_of_ble_eq_true rfl, Nat.le_of_ble_eq_true rfl⟩) ⟨pc_blind, va_recv hK hP (ci := 3) (q0 := 1) rfl rfl, fun U hU hW => ⟨rfl, by rw [hU]; exact hP.sub (ws' := [(h3, .inr (3, [.ref b1, .ref b2, .int pt, .int (nI c0), .int ry]))]) [1] rfl, hKN.warm hW⟩⟩ rfl rfl hl.1 rfl (lv_room (Nat.le_of_ble_eq_true rfl)) dX6_side_5 ⟨Nat.le_of_ble_eq_true rfl, Nat.le_of_ble_eq_true rfl⟩) hS hP (fun r1 H locs w1r hP hS => ?_)
  have w1 : B01 r1 (0 ≤ p0.toInt ∧ p0.toInt < c0) := w1r
  clear w1r
  rcases w1 with ⟨rfl, w1⟩ | ⟨rfl, w1⟩
  · skip
    obtain ⟨j9, hj9, rfl⟩ := m_nat w1
    have tj9 : (nI j9).toInt = (j9 : Int) := nI_toInt (by omega)
    refine lv_if_eq (tgt := 44) hx hb dX6_side_8 (by decide) (fun c2 => ?_) (fun c2 => ?_)
    · exact absurd c2 (by first | decide | exact nz_lt (by omega) | exact fun h => h (nz_ge (by omega)))
    · skip
      refine lv_aload_n hx hb dX6_side_11 rfl (lv_at hl 0 rfl) ?_
      refine va_get (D := D) (ci := 6) (v := .ref h3) (C := RX6) (T := TX6) (N := 6) hx hb hts hiX6 hown hK hP 0 rfl rfl 1 (by decide) hf19 (fun _ h9 => h9) rfl dX6_side_12 ?_
      refine lv_iload_n hx hb dX6_side_15 rfl (lv_at hl 2 rfl) ?_
      refine pu_i (va_runV (As := [.int p1]) (rest := []) ⟨hx, hb, hml, hown, hts⟩ (c_X3_has l D cI cJ cZ h3 b1 b2 c0 pt ry p1 (by first | assumption | omega)) (cwV 1 hts gX6_side_X3_has rfl rfl rfl (by decide +kernel) ⟨Nat.le_of_ble_eq_true rfl, Nat.le_of_ble_eq_true rfl⟩) ⟨pc_blind, va_recv hK hP (ci := 3) (q0 := 1) rfl rfl, fun U hU hW => ⟨rfl, by rw [hU]; exact hP.sub (ws' := [(h3, .inr (3, [.ref b1, .ref b2, .int pt, .int (nI c0), .int ry]))]) [1] rfl, hKN.warm hW⟩⟩ rfl rfl hl.1 rfl (lv_room (Nat.le_of_ble_eq_true rfl)) dX6_side_16 ⟨Nat.le_of_ble_eq_true rfl, Nat.le_of_ble_eq_true rfl⟩) hS hP (fun r3 H locs w3r hP hS => ?_)
      have w3 : B01 r3 (0 ≤ p1.toInt ∧ p1.toInt < c0) := w3r
      clear w3r
      rcases w3 with ⟨rfl, w3⟩ | ⟨rfl, w3⟩
      · skip
        obtain ⟨j8, hj8, rfl⟩ := m_nat w3
        have tj8 : (nI j8).toInt = (j8 : Int) := nI_toInt (by omega)
        refine lv_if_eq (tgt := 44) hx hb dX6_side_19 (by decide) (fun c4 => ?_) (fun c4 => ?_)
        · exact absurd c4 (by first | decide | exact nz_lt (by omega) | exact fun h => h (nz_ge (by omega)))
        · skip
          refine lv_aload_n hx hb dX6_side_22 rfl (lv_at hl 0 rfl) ?_
          refine va_get (D := D) (ci := 6) (v := .ref h3) (C := RX6) (T := TX6) (N := 6) hx hb hts hiX6 hown hK hP 0 rfl rfl 1 (by decide) hf19 (fun _ h9 => h9) rfl dX6_side_23 ?_
          refine pu_i (va_runV (As := []) (rest := []) ⟨hx, hb, hml, hown, hts⟩ (c_X3_hasRoom l D cI cJ cZ h3 b1 b2 c0 pt ry (by first | assumption | omega)) (cwV 0 hts gX6_side_X3_hasRoom rfl rfl rfl (by decide +kernel) ⟨Nat.le_of_ble_eq_true rfl, Nat.le_of_ble_eq_true rfl⟩) ⟨pc_blind, va_recv hK hP (ci := 3) (q0 := 1) rfl rfl, fun U hU hW => ⟨rfl, by rw [hU]; exact hP.sub (ws' := [(h3, .inr (3, [.ref b1, .ref b2, .int pt, .int (nI c0), .int ry]))]) [1] rfl, hKN.warm hW⟩⟩ rfl rfl hl.1 rfl (lv_room (Nat.le_of_ble_eq_true rfl)) dX6_side_26 ⟨Nat.le_of_ble_eq_true rfl, Nat.le_of_ble_eq_true rfl⟩) hS hP (fun r5 H locs w5r hP hS => ?_)
          have w5 : B01 r5 (c0 < 40) := w5r
          clear w5r
          rcases w5 with ⟨rfl, w5⟩ | ⟨rfl, w5⟩
          · skip
            refine lv_if_eq (tgt := 44) hx hb dX6_side_29 (by decide) (fun c6 => ?_) (fun c6 => ?_)
            · exact absurd c6 (by first | decide | exact nz_lt (by omega) | exact fun h => h (nz_ge (by omega)))
            · skip
              refine lv_aload_n hx hb dX6_side_32 rfl (lv_at hl 0 rfl) ?_
              refine va_get (D := D) (ci := 6) (v := .ref h3) (C := RX6) (T := TX6) (N := 6) hx hb hts hiX6 hown hK hP 0 rfl rfl 1 (by decide) hf19 (fun _ h9 => h9) rfl dX6_side_33 ?_
              refine lv_iload_n hx hb dX6_side_36 rfl (lv_at hl 1 rfl) ?_
              refine lv_iload_n hx hb dX6_side_37 rfl (lv_at hl 2 rfl) ?_
              refine mu_i (n := 3) (wc := [(h3, .inr (3, [.ref b1, .ref b2, .int pt, .int (nI c0), .int ry])), (b1, .inl (cJ, 320, .inr (.inl fw)))]) (va_runV (As := [.int (nI j9), .int (nI j8)]) (rest := []) ⟨hx, hb, hml, hown, hts⟩ (c_X3_addSide_b l D cI cJ cZ h3 b1 b2 c0 j9 j8 pt ry fw (by first | assumption | omega) (by first | assumption | omega) (by first | assumption | omega)) (cwV 2 hts gX6_side_X3_addSide rfl rfl rfl (by decide +kernel) ⟨Nat.le_of_ble_eq_true rfl, Nat.le_of_ble_eq_true rfl⟩) ⟨pm_blind, va_recv hK hP (ci := 3) (q0 := 1) rfl rfl, fun U hU hW => ⟨rfl, by rw [hU]; exact hP.sub (ws' := [(h3, .inr (3, [.ref b1, .ref b2, .int pt, .int (nI c0), .int ry])), (b1, .inl (cJ, 320, .inr (.inl fw)))]) [1, 2] rfl, hKN.warm hW, (hD.sub (ws' := [(h3, .inr (3, [.ref b1, .ref b2, .int pt, .int (nI c0), .int ry])), (b1, .inl (cJ, 320, .inr (.inl fw)))]) [1, 2] (by decide) rfl).weaken (fun _ _ _ _ => trivial)⟩⟩ rfl rfl hl.1 rfl (lv_room (Nat.le_of_ble_eq_true rfl)) dX6_side_38 ⟨Nat.le_of_ble_eq_true rfl, Nat.le_of_ble_eq_true rfl⟩) hS hP hD (fun (u : (Nat → Int64)) => [(x0, .inr (6, [.ref h4, .ref h3, .ref h2, .ref h1, .ref hB, .ref h5])), (h3, .inr (3, [.ref b1, .ref b2, .int pt, .int (nI (c0 + 1)), .int ry])), (b1, .inl (cJ, 320, .inr (.inl u)))]) [1, 2] [0] rfl rfl (fun _ => rfl) (fun _ => rfl) (fun _ => rfl) (fun _ => rfl) (by decide) (by decide) (fun r7 u7 H locs w7r hP hD hS => ?_)
              obtain ⟨u7_uw, rfl⟩ : ∃ z, z = u7 := ⟨_, rfl⟩
              have hP : va_P D vwCl [(x0, .inr (6, [.ref h4, .ref h3, .ref h2, .ref h1, .ref hB, .ref h5])), (h3, .inr (3, [.ref b1, .ref b2, .int pt, .int (nI (c0 + 1)), .int ry])), (b1, .inl (cJ, 320, .inr (.inl u7_uw)))] H := hP
              have hD : va_D (aA as) [(x0, .inr (6, [.ref h4, .ref h3, .ref h2, .ref h1, .ref hB, .ref h5])), (h3, .inr (3, [.ref b1, .ref b2, .int pt, .int (nI (c0 + 1)), .int ry])), (b1, .inl (cJ, 320, .inr (.inl u7_uw)))] := hD
              have w7 : r7 = nI c0 ∧ RW fw u7_uw c0 (fun t => isG fw j9 t ∨ isG fw j8 t) := w7r
              clear w7r
              refine lv_goto (tgt := 45) hx hb dX6_side_41 (by decide) ?_
              rw [← hQ]
              exact W.iret (v := r7) hx hb hr (fun tS htS hWS => ⟨⟨r7, (nI (c0 + 1), u7_uw), rfl, by first | exact Or.inr ⟨rfl, by omega, rfl, rfl⟩ | exact Or.inl ⟨w7.1, by omega, rfl, by rw [m_tn (j := j9) (by omega), m_tn (j := j8) (by omega)]; exact w7.2⟩, m_at htS hP⟩, by rw [← has]; exact hS.F htS⟩) (by rw [← has]; exact hS.2.2) dX6_side_45
          · skip
            refine lv_if_eq (tgt := 44) hx hb dX6_side_29 (by decide) (fun c8 => ?_) (fun c8 => ?_)
            · skip
              refine lv_iconst (v := (-1 : Int32)) hx hb dX6_side_44 (by decide) ?_
              rw [← hQ]
              exact W.iret (v := (-1 : Int32)) hx hb hr (fun tS htS hWS => ⟨⟨(-1 : Int32), (nI c0, fw), rfl, by first | exact Or.inr ⟨rfl, by omega, rfl, rfl⟩ | exact Or.inl ⟨w5.1, by omega, rfl, by rw [m_tn (j := j9) (by omega), m_tn (j := j8) (by omega)]; exact w5.2⟩, m_at htS hP⟩, by rw [← has]; exact hS.F htS⟩) (by rw [← has]; exact hS.2.2) dX6_side_45
            · exact absurd c8 (by first | decide | exact nz_lt (by omega) | exact fun h => h (nz_ge (by omega)))
      · skip
        refine lv_if_eq (tgt := 44) hx hb dX6_side_19 (by decide) (fun c9 => ?_) (fun c9 => ?_)
        · skip
          refine lv_iconst (v := (-1 : Int32)) hx hb dX6_side_44 (by decide) ?_
          rw [← hQ]
          exact W.iret (v := (-1 : Int32)) hx hb hr (fun tS htS hWS => ⟨⟨(-1 : Int32), (nI c0, fw), rfl, by first | exact Or.inr ⟨rfl, by omega, rfl, rfl⟩ | exact Or.inl ⟨w3.1, by omega, rfl, by rw [m_tn (j := j9) (by omega), m_tn (j := j8) (by omega)]; exact w3.2⟩, m_at htS hP⟩, by rw [← has]; exact hS.F htS⟩) (by rw [← has]; exact hS.2.2) dX6_side_45
        · exact absurd c9 (by first | decide | exact nz_lt (by omega) | exact fun h => h (nz_ge (by omega)))
  · skip
    refine lv_if_eq (tgt := 44) hx hb dX6_side_8 (by decide) (fun c10 => ?_) (fun c10 => ?_)
    · skip
      refine lv_iconst (v := (-1 : Int32)) hx hb dX6_side_44 (by decide) ?_
      rw [← hQ]
      exact W.iret (v := (-1 : Int32)) hx hb hr (fun tS htS hWS => ⟨⟨(-1 : Int32), (nI c0, fw), rfl, by first | exact Or.inr ⟨rfl, by omega, rfl, rfl⟩ | exact Or.inl ⟨w1.1, by omega, rfl, by rw [m_tn (j := j9) (by omega), m_tn (j := j8) (by omega)]; exact w1.2⟩, m_at htS hP⟩, by rw [← has]; exact hS.F htS⟩) (by rw [← has]; exact hS.2.2) dX6_side_45
    · exact absurd c10 (by first | decide | exact nz_lt (by omega) | exact fun h => h (nz_ge (by omega)))
def rm_c_X6_dual_b : Room := { frames := 2, cells := 0, slots := 0, locals := 45 }
set_option maxHeartbeats 400000 in
set_option maxRecDepth 100000 in
theorem c_X6_dual_b (l : Launch) (D : va_G) (cI cJ cZ : ClassId) (x0 : Nat) (h4 : Nat) (h3 : Nat) (h2 : Nat) (h1 : Nat) (hB : Nat) (h5 : Nat) (b1 : Nat) (b2 : Nat) (n : Nat) (c0 : Nat) (ry : Int32) (p0 : Int32) (fw : Nat → Int64) (hn : n ≤ 9) (hc : c0 ≤ 40) : Met l yX6_dual wsX6_dual rm_c_X6_dual_b (pm_ D cI cJ cZ [.ref x0, .int p0] [(x0, .inr (6, [.ref h4, .ref h3, .ref h2, .ref h1, .ref hB, .ref h5])), (h3, .inr (3, [.ref b1, .ref b2, .int (nI n), .int (nI c0), .int ry])), (b1, .inl (cJ, 320, .inr (.inl fw)))]) (va_Qi (fun (r : Int32) (u : Int32 × (Nat → Int64)) => ADXB r c0 fw ((0 ≤ p0.toInt ∧ p0.toInt < c0) ∧ c0 < 40) u.1 u.2 (fun t => t < 2 ^ n ∧ ¬ isG fw p0.toInt.toNat ((2 ^ n - 1) ^^^ t))) (fun (u : Int32 × (Nat → Int64)) tS => va_P D vwCl [(x0, .inr (6, [.ref h4, .ref h3, .ref h2, .ref h1, .ref hB, .ref h5])), (h3, .inr (3, [.ref b1, .ref b2, .int (nI n), .int u.1, .int ry])), (b1, .inl (cJ, 320, .inr (.inl u.2)))] tS.heap) (aA [x0, h3, b1])) 0 0 (aA [x0, h3, b1]) := by
  refine Met.ofW (cc := cX6_dual) (maxL := 2) (ret := (some .int)) (by decide) rfl ?_
  intro p e s m args below meth c s₁ B hml hv
  obtain ⟨rfl, hP, hKN, hD0⟩ := hv
  have hK := hKN.1
  have hx := B.exec
  have hb := B.bytes
  have hr := B.returns
  have hts := atoms_spec (ws := wsX6_dual) B.pre
  have hown : s.vm.findClass RX6 = some m.cls := findClass_of_methodNamed B.named
  have hlocks := B.notSynchronized
  have hiX6 : ∀ w ∈ wsX60, w ∈ wsX6_dual := by decide +kernel
  have hf19 := hts (.fieldLink RX6 19 "LookBench" "rules" "LLookBench$Rules;") (by decide +kernel)
  obtain ⟨as, has⟩ : ∃ z : List Nat, z = [x0, h3, b1] := ⟨_, rfl⟩
  have hD := hD0.addr (as := as) (by rw [has]; rfl)
  have hS : va_S (aA as) s.heap s.heap [] := va_S.rf
  have hl := lv_entry ([.ref x0, .int p0]) (n := 2) (Nat.le_of_ble_eq_true rfl)
  rw [lg_entry_eq]
  generalize (lg_sl ([.ref x0, .int p0]) ++ List.replicate (2 - (lg_sl ([.ref x0, .int p0])).length) Slot.unset).toArray = ls at hl ⊢
  have hl : lv_has ls 2 [(0, .ref x0), (1, .int p0)] := hl
  generalize hQ : MQ below _ _ s _ _ _ = Q
  obtain ⟨H, hH⟩ : ∃ z, z = s.heap := ⟨_, rfl⟩
  have hP : va_P D vwCl [(x0, .inr (6, [.ref h4, .ref h3, .ref h2, .ref h1, .ref hB, .ref h5])), (h3, .inr (3, [.ref b1, .ref b2, .int (nI n), .int (nI c0), .int ry])), (b1, .inl (cJ, 320, .inr (.inl fw)))] H := by rw [hH]; exact hP
  have hS : va_S (aA as) s.heap H [] := by rw [hH]; exact hS
  refine m_heap hH ?_
  clear hH
  refine lv_aload_n hx hb dX6_dual_0 rfl (lv_at hl 0 rfl) ?_
  refine va_get (D := D) (ci := 6) (v := .ref h3) (C := RX6) (T := TX6) (N := 6) hx hb hts hiX6 hown hK hP 0 rfl rfl 1 (by decide) hf19 (fun _ h9 => h9) rfl dX6_dual_1 ?_
  refine lv_iload_n hx hb dX6_dual_4 rfl (lv_at hl 1 rfl) ?_
  refine pu_i (va_runV (As := [.int p0]) (rest := []) ⟨hx, hb, hml, hown, hts⟩ (c_X3_has l D cI cJ cZ h3 b1 b2 c0 (nI n) ry p0 (by first | assumption | omega)) (cwV 1 hts gX6_dual_X3_has rfl rfl rfl (by decide +kernel) ⟨Nat.le_of_ble_eq_true rfl, Nat.le_of_ble_eq_true rfl⟩) ⟨pc_blind, va_recv hK hP (ci := 3) (q0 := 1) rfl rfl, fun U hU hW => ⟨rfl, by rw [hU]; exact hP.sub (ws' := [(h3, .inr (3, [.ref b1, .ref b2, .int (nI n), .int (nI c0), .int ry]))]) [1] rfl, hKN.warm hW⟩⟩ rfl rfl hl.1 rfl (lv_room (Nat.le_of_ble_eq_true rfl)) dX6_dual_5 ⟨Nat.le_of_ble_eq_true rfl, Nat.le_of_ble_eq_true rfl⟩) hS hP (fun r1 H locs w1r hP hS => ?_)
  have w1 : B01 r1 (0 ≤ p0.toInt ∧ p0.toInt < c0) := w1r
  clear w1r
  rcases w1 with ⟨rfl, w1⟩ | ⟨rfl, w1⟩
  · skip
    obtain ⟨j9, hj9, rfl⟩ := m_nat w1
    have tj9 : (nI j9).toInt = (j9 : Int) := nI_toInt (by omega)
    refine lv_if_eq (tgt := 32) hx hb dX6_dual_8 (by decide) (fun c2 => ?_) (fun c2 => ?_)
    · exact absurd c2 (by first | decide | exact nz_lt (by omega) | exact fun h => h (nz_ge (by omega)))
    · skip
      refine lv_aload_n hx hb dX6_dual_11 rfl (lv_at hl 0 rfl) ?_
      refine va_get (D := D) (ci := 6) (v := .ref h3) (C := RX6) (T := TX6) (N := 6) hx hb hts hiX6 hown hK hP 0 rfl rfl 1 (by decide) hf19 (fun _ h9 => h9) rfl dX6_dual_12 ?_
      refine pu_i (va_runV (As := []) (rest := []) ⟨hx, hb, hml, hown, hts⟩ (c_X3_hasRoom l D cI cJ cZ h3 b1 b2 c0 (nI n) ry (by first | assumption | omega)) (cwV 0 hts gX6_dual_X3_hasRoom rfl rfl rfl (by decide +kernel) ⟨Nat.le_of_ble_eq_true rfl, Nat.le_of_ble_eq_true rfl⟩) ⟨pc_blind, va_recv hK hP (ci := 3) (q0 := 1) rfl rfl, fun U hU hW => ⟨rfl, by rw [hU]; exact hP.sub (ws' := [(h3, .inr (3, [.ref b1, .ref b2, .int (nI n), .int (nI c0), .int ry]))]) [1] rfl, hKN.warm hW⟩⟩ rfl rfl hl.1 rfl (lv_room (Nat.le_of_ble_eq_true rfl)) dX6_dual_15 ⟨Nat.le_of_ble_eq_true rfl, Nat.le_of_ble_eq_true rfl⟩) hS hP (fun r3 H locs w3r hP hS => ?_)
      have w3 : B01 r3 (c0 < 40) := w3r
      clear w3r
      rcases w3 with ⟨rfl, w3⟩ | ⟨rfl, w3⟩
      · skip
        refine lv_if_eq (tgt := 32) hx hb dX6_dual_18 (by decide) (fun c4 => ?_) (fun c4 => ?_)
        · exact absurd c4 (by first | decide | exact nz_lt (by omega) | exact fun h => h (nz_ge (by omega)))
        · skip
          refine lv_aload_n hx hb dX6_dual_21 rfl (lv_at hl 0 rfl) ?_
          refine va_get (D := D) (ci := 6) (v := .ref h3) (C := RX6) (T := TX6) (N := 6) hx hb hts hiX6 hown hK hP 0 rfl rfl 1 (by decide) hf19 (fun _ h9 => h9) rfl dX6_dual_22 ?_
          refine lv_iload_n hx hb dX6_dual_25 rfl (lv_at hl 1 rfl) ?_
          refine mu_i (n := 3) (wc := [(h3, .inr (3, [.ref b1, .ref b2, .int (nI n), .int (nI c0), .int ry])), (b1, .inl (cJ, 320, .inr (.inl fw)))]) (va_runV (As := [.int (nI j9)]) (rest := []) ⟨hx, hb, hml, hown, hts⟩ (c_X3_addDual_b l D cI cJ cZ h3 b1 b2 n c0 j9 ry fw (by first | assumption | omega) (by first | assumption | omega) (by first | assumption | omega)) (cwV 1 hts gX6_dual_X3_addDual rfl rfl rfl (by decide +kernel) ⟨Nat.le_of_ble_eq_true rfl, Nat.le_of_ble_eq_true rfl⟩) ⟨pm_blind, va_recv hK hP (ci := 3) (q0 := 1) rfl rfl, fun U hU hW => ⟨rfl, by rw [hU]; exact hP.sub (ws' := [(h3, .inr (3, [.ref b1, .ref b2, .int (nI n), .int (nI c0), .int ry])), (b1, .inl (cJ, 320, .inr (.inl fw)))]) [1, 2] rfl, hKN.warm hW, (hD.sub (ws' := [(h3, .inr (3, [.ref b1, .ref b2, .int (nI n), .int (nI c0), .int ry])), (b1, .inl (cJ, 320, .inr (.inl fw)))]) [1, 2] (by decide) rfl).weaken (fun _ _ _ _ => trivial)⟩⟩ rfl rfl hl.1 rfl (lv_room (Nat.le_of_ble_eq_true rfl)) dX6_dual_26 ⟨Nat.le_of_ble_eq_true rfl, Nat.le_of_ble_eq_true rfl⟩) hS hP hD (fun (u : (Nat → Int64)) => [(x0, .inr (6, [.ref h4, .ref h3, .ref h2, .ref h1, .ref hB, .ref h5])), (h3, .inr (3, [.ref b1, .ref b2, .int (nI n), .int (nI (c0 + 1)), .int ry])), (b1, .inl (cJ, 320, .inr (.inl u)))]) [1, 2] [0] rfl rfl (fun _ => rfl) (fun _ => rfl) (fun _ => rfl) (fun _ => rfl) (by decide) (by decide) (fun r5 u5 H locs w5r hP hD hS => ?_)
          obtain ⟨u5_uw, rfl⟩ : ∃ z, z = u5 := ⟨_, rfl⟩
          have hP : va_P D vwCl [(x0, .inr (6, [.ref h4, .ref h3, .ref h2, .ref h1, .ref hB, .ref h5])), (h3, .inr (3, [.ref b1, .ref b2, .int (nI n), .int (nI (c0 + 1)), .int ry])), (b1, .inl (cJ, 320, .inr (.inl u5_uw)))] H := hP
          have hD : va_D (aA as) [(x0, .inr (6, [.ref h4, .ref h3, .ref h2, .ref h1, .ref hB, .ref h5])), (h3, .inr (3, [.ref b1, .ref b2, .int (nI n), .int (nI (c0 + 1)), .int ry])), (b1, .inl (cJ, 320, .inr (.inl u5_uw)))] := hD
          have w5 : r5 = nI c0 ∧ RW fw u5_uw c0 (fun t => t < 2 ^ n ∧ (¬ isG fw j9 ((2 ^ n - 1) ^^^ t))) := w5r
          clear w5r
          refine lv_goto (tgt := 33) hx hb dX6_dual_29 (by decide) ?_
          rw [← hQ]
          exact W.iret (v := r5) hx hb hr (fun tS htS hWS => ⟨⟨r5, (nI (c0 + 1), u5_uw), rfl, by first | exact Or.inr ⟨rfl, by omega, rfl, rfl⟩ | exact Or.inl ⟨w5.1, by omega, rfl, by rw [m_tn (j := j9) (by omega)]; exact w5.2⟩, m_at htS hP⟩, by rw [← has]; exact hS.F htS⟩) (by rw [← has]; exact hS.2.2) dX6_dual_33
      · skip
        refine lv_if_eq (tgt := 32) hx hb dX6_dual_18 (by decide) (fun c6 => ?_) (fun c6 => ?_)
        · skip
          refine lv_iconst (v := (-1 : Int32)) hx hb dX6_dual_32 (by decide) ?_
          rw [← hQ]
          exact W.iret (v := (-1 : Int32)) hx hb hr (fun tS htS hWS => ⟨⟨(-1 : Int32), (nI c0, fw), rfl, by first | exact Or.inr ⟨rfl, by omega, rfl, rfl⟩ | exact Or.inl ⟨w3.1, by omega, rfl, by rw [m_tn (j := j9) (by omega)]; exact w3.2⟩, m_at htS hP⟩, by rw [← has]; exact hS.F htS⟩) (by rw [← has]; exact hS.2.2) dX6_dual_33
        · exact absurd c6 (by first | decide | exact nz_lt (by omega) | exact fun h => h (nz_ge (by omega)))
  · skip
    refine lv_if_eq (tgt := 32) hx hb dX6_dual_8 (by decide) (fun c7 => ?_) (fun c7 => ?_)
    · skip
      refine lv_iconst (v := (-1 : Int32)) hx hb dX6_dual_32 (by decide) ?_
      rw [← hQ]
      exact W.iret (v := (-1 : Int32)) hx hb hr (fun tS htS hWS => ⟨⟨(-1 : Int32), (nI c0, fw), rfl, by first | exact Or.inr ⟨rfl, by omega, rfl, rfl⟩ | exact Or.inl ⟨w1.1, by omega, rfl, by rw [m_tn (j := j9) (by omega)]; exact w1.2⟩, m_at htS hP⟩, by rw [← has]; exact hS.F htS⟩) (by rw [← has]; exact hS.2.2) dX6_dual_33
    · exact absurd c7 (by first | decide | exact nz_lt (by omega) | exact fun h => h (nz_ge (by omega)))
def rm_c_X6_some_b : Room := { frames := 2, cells := 0, slots := 0, locals := 55 }
set_option maxHeartbeats 400000 in
set_option maxRecDepth 100000 in
theorem c_X6_some_b (l : Launch) (D : va_G) (cI cJ cZ : ClassId) (x0 : Nat) (h4 : Nat) (h3 : Nat) (h2 : Nat) (h1 : Nat) (hB : Nat) (h5 : Nat) (a1 : Nat) (a2 : Nat) (a3 : Nat) (b1 : Nat) (b2 : Nat) (n : Nat) (c0 : Nat) (sn : Int32) (sg : Int32) (ry : Int32) (se : Int32) (wi : Int32) (kk : Int32) (wo : Int64) (fw : Nat → Int64) (fo : Nat → Int32) (hn : n ≤ 9) (hc : c0 ≤ 40) : Met l yX6_some wsX6_some rm_c_X6_some_b (pm_ D cI cJ cZ [.ref x0, .int se, .long wo, .int wi, .int kk] [(x0, .inr (6, [.ref h4, .ref h3, .ref h2, .ref h1, .ref hB, .ref h5])), (h4, .inr (4, [.ref a1, .ref a2, .ref a3, .int (nI n), .int sn, .int sg])), (h3, .inr (3, [.ref b1, .ref b2, .int (nI n), .int (nI c0), .int ry])), (b1, .inl (cJ, 320, .inr (.inl fw))), (b2, .inl (cI, 9, .inl fo))]) (va_Qi (fun (r : Int32) (u : Int32 × (Nat → Int64) × (Nat → Int32)) => ADXB r c0 fw (0 ≤ se.toInt ∧ se.toInt < (2 ^ n : Nat) ∧ 0 ≤ wo.toInt ∧ 0 ≤ wi.toInt ∧ wi.toInt ≤ 3 ∧ 0 ≤ kk.toInt ∧ kk.toInt ≤ 100 ∧ c0 < 40) u.1 u.2.1 (fun t => t < 2 ^ n ∧ ¬ pf (wZ wo wi.toInt.toNat se) (nI t) n < kk)) (fun (u : Int32 × (Nat → Int64) × (Nat → Int32)) tS => va_P D vwCl [(x0, .inr (6, [.ref h4, .ref h3, .ref h2, .ref h1, .ref hB, .ref h5])), (h4, .inr (4, [.ref a1, .ref a2, .ref a3, .int (nI n), .int sn, .int sg])), (h3, .inr (3, [.ref b1, .ref b2, .int (nI n), .int u.1, .int ry])), (b1, .inl (cJ, 320, .inr (.inl u.2.1))), (b2, .inl (cI, 9, .inl u.2.2))] tS.heap) (aA [x0, h4, h3, b1, b2])) 0 0 (aA [x0, h4, h3, b1, b2]) := by
  refine Met.ofW (cc := cX6_some) (maxL := 6) (ret := (some .int)) (by decide) rfl ?_
  intro p e s m args below meth c s₁ B hml hv
  obtain ⟨rfl, hP, hKN, hD0⟩ := hv
  have hK := hKN.1
  have hx := B.exec
  have hb := B.bytes
  have hr := B.returns
  have hts := atoms_spec (ws := wsX6_some) B.pre
  have hown : s.vm.findClass RX6 = some m.cls := findClass_of_methodNamed B.named
  have hlocks := B.notSynchronized
  have hiX6 : ∀ w ∈ wsX60, w ∈ wsX6_some := by decide +kernel
  have hf10 := hts (.fieldLink RX6 10 "LookBench" "shelf" "LLookBench$Shelf;") (by decide +kernel)
  have hf19 := hts (.fieldLink RX6 19 "LookBench" "rules" "LLookBench$Rules;") (by decide +kernel)
  obtain ⟨as, has⟩ : ∃ z : List Nat, z = [x0, h4, h3, b1, b2] := ⟨_, rfl⟩
  have hD := hD0.addr (as := as) (by rw [has]; rfl)
  have hS : va_S (aA as) s.heap s.heap [] := va_S.rf
  have hl := lv_entry ([.ref x0, .int se, .long wo, .int wi, .int kk]) (n := 6) (Nat.le_of_ble_eq_true rfl)
  rw [lg_entry_eq]
  generalize (lg_sl ([.ref x0, .int se, .long wo, .int wi, .int kk]) ++ List.replicate (6 - (lg_sl ([.ref x0, .int se, .long wo, .int wi, .int kk])).length) Slot.unset).toArray = ls at hl ⊢
  have hl : lv_has ls 6 [(0, .ref x0), (1, .int se), (2, .long wo), (4, .int wi), (5, .int kk)] := hl
  generalize hQ : MQ below _ _ s _ _ _ = Q
  obtain ⟨H, hH⟩ : ∃ z, z = s.heap := ⟨_, rfl⟩
  have hP : va_P D vwCl [(x0, .inr (6, [.ref h4, .ref h3, .ref h2, .ref h1, .ref hB, .ref h5])), (h4, .inr (4, [.ref a1, .ref a2, .ref a3, .int (nI n), .int sn, .int sg])), (h3, .inr (3, [.ref b1, .ref b2, .int (nI n), .int (nI c0), .int ry])), (b1, .inl (cJ, 320, .inr (.inl fw))), (b2, .inl (cI, 9, .inl fo))] H := by rw [hH]; exact hP
  have hS : va_S (aA as) s.heap H [] := by rw [hH]; exact hS
  refine m_heap hH ?_
  clear hH
  refine lv_aload_n hx hb dX6_some_0 rfl (lv_at hl 0 rfl) ?_
  refine va_get (D := D) (ci := 6) (v := .ref h4) (C := RX6) (T := TX6) (N := 6) hx hb hts hiX6 hown hK hP 0 rfl rfl 0 (by decide) hf10 (fun _ h9 => h9) rfl dX6_some_1 ?_
  refine lv_iload_n hx hb dX6_some_4 rfl (lv_at hl 1 rfl) ?_
  refine pu_i (va_runV (As := [.int se]) (rest := []) ⟨hx, hb, hml, hown, hts⟩ (c_X4_hasSet l D cI cJ cZ h4 a1 a2 a3 n sn sg se (by first | assumption | omega)) (cwV 1 hts gX6_some_X4_hasSet rfl rfl rfl (by decide +kernel) ⟨Nat.le_of_ble_eq_true rfl, Nat.le_of_ble_eq_true rfl⟩) ⟨pc_blind, va_recv hK hP (ci := 4) (q0 := 1) rfl rfl, fun U hU hW => ⟨rfl, by rw [hU]; exact hP.sub (ws' := [(h4, .inr (4, [.ref a1, .ref a2, .ref a3, .int (nI n), .int sn, .int sg]))]) [1] rfl, hKN.warm hW⟩⟩ rfl rfl hl.1 rfl (lv_room (Nat.le_of_ble_eq_true rfl)) dX6_some_5 ⟨Nat.le_of_ble_eq_true rfl, Nat.le_of_ble_eq_true rfl⟩) hS hP (fun r1 H locs w1r hP hS => ?_)
  have w1 : B01 r1 (0 ≤ se.toInt ∧ se.toInt < (2 ^ n : Nat)) := w1r
  clear w1r
  rcases w1 with ⟨rfl, w1⟩ | ⟨rfl, w1⟩
  · skip
    refine lv_if_eq (tgt := 40) hx hb dX6_some_8 (by decide) (fun c2 => ?_) (fun c2 => ?_)
    · exact absurd c2 (by first | decide | exact nz_lt (by omega) | exact fun h => h (nz_ge (by omega)))
    · skip
      refine lv_lload_n hx hb dX6_some_11 rfl (lv_at hl 2 rfl) ?_
      refine lv_lconst (v := lN 0) hx hb dX6_some_12 (by decide) ?_
      refine W.lcmp hx hb dX6_some_13 ?_
      refine lv_if_lt (tgt := 40) hx hb dX6_some_14 (by decide) (fun c3 => ?_) (fun c3 => ?_)
      · skip
        have d3 := c3
        rw [lc_lt, j_lt, lN_toInt (n := 0) (by omega)] at d3
        refine lv_iconst (v := (-1 : Int32)) hx hb dX6_some_40 (by decide) ?_
        rw [← hQ]
        exact W.iret (v := (-1 : Int32)) hx hb hr (fun tS htS hWS => ⟨⟨(-1 : Int32), (nI c0, fw, fo), rfl, by first | exact Or.inr ⟨rfl, by omega, rfl, rfl⟩ | exact Or.inl ⟨w1.1, by omega, rfl, by rw [m_tn (j := w9) (by omega)]; exact w1.2⟩, m_at htS hP⟩, by rw [← has]; exact hS.F htS⟩) (by rw [← has]; exact hS.2.2) dX6_some_41
      · skip
        have d3 := c3
        rw [lc_lt, j_lt, lN_toInt (n := 0) (by omega)] at d3
        refine lv_iload hx hb dX6_some_17 (lv_at hl 3 rfl) ?_
        refine lv_if_lt (tgt := 40) hx hb dX6_some_19 (by decide) (fun c4 => ?_) (fun c4 => ?_)
        · skip
          have d4 := c4
          rw [i_lt, i_z] at d4
          refine lv_iconst (v := (-1 : Int32)) hx hb dX6_some_40 (by decide) ?_
          rw [← hQ]
          exact W.iret (v := (-1 : Int32)) hx hb hr (fun tS htS hWS => ⟨⟨(-1 : Int32), (nI c0, fw, fo), rfl, by first | exact Or.inr ⟨rfl, by omega, rfl, rfl⟩ | exact Or.inl ⟨w1.1, by omega, rfl, by rw [m_tn (j := w9) (by omega)]; exact w1.2⟩, m_at htS hP⟩, by rw [← has]; exact hS.F htS⟩) (by rw [← has]; exact hS.2.2) dX6_some_41
        · skip
          have d4 := c4
          rw [i_lt, i_z] at d4
          refine lv_iload hx hb dX6_some_22 (lv_at hl 3 rfl) ?_
          refine lv_iconst (v := nI 3) hx hb dX6_some_24 (by decide) ?_
          refine lv_icmp_gt (tgt := 40) hx hb dX6_some_25 (by decide) (fun c5 => ?_) (fun c5 => ?_)
          · skip
            have d5 := c5
            rw [i_lt, nI_toInt (n := 3) (by omega)] at d5
            refine lv_iconst (v := (-1 : Int32)) hx hb dX6_some_40 (by decide) ?_
            rw [← hQ]
            exact W.iret (v := (-1 : Int32)) hx hb hr (fun tS htS hWS => ⟨⟨(-1 : Int32), (nI c0, fw, fo), rfl, by first | exact Or.inr ⟨rfl, by omega, rfl, rfl⟩ | exact Or.inl ⟨w1.1, by omega, rfl, by rw [m_tn (j := w9) (by omega)]; exact w1.2⟩, m_at htS hP⟩, by rw [← has]; exact hS.F htS⟩) (by rw [← has]; exact hS.2.2) dX6_some_41
          · skip
            have d5 := c5
            rw [i_lt, nI_toInt (n := 3) (by omega)] at d5
            refine lv_iload hx hb dX6_some_28 (lv_at hl 4 rfl) ?_
            refine lv_if_lt (tgt := 40) hx hb dX6_some_30 (by decide) (fun c6 => ?_) (fun c6 => ?_)
            · skip
              have d6 := c6
              rw [i_lt, i_z] at d6
              refine lv_iconst (v := (-1 : Int32)) hx hb dX6_some_40 (by decide) ?_
              rw [← hQ]
              exact W.iret (v := (-1 : Int32)) hx hb hr (fun tS htS hWS => ⟨⟨(-1 : Int32), (nI c0, fw, fo), rfl, by first | exact Or.inr ⟨rfl, by omega, rfl, rfl⟩ | exact Or.inl ⟨w1.1, by omega, rfl, by rw [m_tn (j := w9) (by omega)]; exact w1.2⟩, m_at htS hP⟩, by rw [← has]; exact hS.F htS⟩) (by rw [← has]; exact hS.2.2) dX6_some_41
            · skip
              have d6 := c6
              rw [i_lt, i_z] at d6
              refine lv_iload hx hb dX6_some_33 (lv_at hl 4 rfl) ?_
              refine lv_bipush (v := nI 100) hx hb dX6_some_35 (by decide) ?_
              refine lv_icmp_le (tgt := 42) hx hb dX6_some_37 (by decide) (fun c7 => ?_) (fun c7 => ?_)
              · skip
                have d7 := c7
                rw [i_le, nI_toInt (n := 100) (by omega)] at d7
                refine lv_aload_n hx hb dX6_some_42 rfl (lv_at hl 0 rfl) ?_
                refine va_get (D := D) (ci := 6) (v := .ref h3) (C := RX6) (T := TX6) (N := 6) hx hb hts hiX6 hown hK hP 0 rfl rfl 1 (by decide) hf19 (fun _ h9 => h9) rfl dX6_some_43 ?_
                refine pu_i (va_runV (As := []) (rest := []) ⟨hx, hb, hml, hown, hts⟩ (c_X3_hasRoom l D cI cJ cZ h3 b1 b2 c0 (nI n) ry (by first | assumption | omega)) (cwV 0 hts gX6_some_X3_hasRoom rfl rfl rfl (by decide +kernel) ⟨Nat.le_of_ble_eq_true rfl, Nat.le_of_ble_eq_true rfl⟩) ⟨pc_blind, va_recv hK hP (ci := 3) (q0 := 2) rfl rfl, fun U hU hW => ⟨rfl, by rw [hU]; exact hP.sub (ws' := [(h3, .inr (3, [.ref b1, .ref b2, .int (nI n), .int (nI c0), .int ry]))]) [2] rfl, hKN.warm hW⟩⟩ rfl rfl hl.1 rfl (lv_room (Nat.le_of_ble_eq_true rfl)) dX6_some_46 ⟨Nat.le_of_ble_eq_true rfl, Nat.le_of_ble_eq_true rfl⟩) hS hP (fun r8 H locs w8r hP hS => ?_)
                have w8 : B01 r8 (c0 < 40) := w8r
                clear w8r
                rcases w8 with ⟨rfl, w8⟩ | ⟨rfl, w8⟩
                · skip
                  refine lv_if_eq (tgt := 68) hx hb dX6_some_49 (by decide) (fun c9 => ?_) (fun c9 => ?_)
                  · exact absurd c9 (by first | decide | exact nz_lt (by omega) | exact fun h => h (nz_ge (by omega)))
                  · skip
                    obtain ⟨w9, hw9, rfl⟩ := m_nat (x := wi) (n := 4) (by omega)
                    refine lv_aload_n hx hb dX6_some_52 rfl (lv_at hl 0 rfl) ?_
                    refine va_get (D := D) (ci := 6) (v := .ref h3) (C := RX6) (T := TX6) (N := 6) hx hb hts hiX6 hown hK hP 0 rfl rfl 1 (by decide) hf19 (fun _ h9 => h9) rfl dX6_some_53 ?_
                    refine lv_iload_n hx hb dX6_some_56 rfl (lv_at hl 1 rfl) ?_
                    refine lv_lload_n hx hb dX6_some_57 rfl (lv_at hl 2 rfl) ?_
                    refine lv_iload hx hb dX6_some_58 (lv_at hl 3 rfl) ?_
                    refine lv_iload hx hb dX6_some_60 (lv_at hl 4 rfl) ?_
                    refine mu_i (n := 5) (wc := [(h3, .inr (3, [.ref b1, .ref b2, .int (nI n), .int (nI c0), .int ry])), (b1, .inl (cJ, 320, .inr (.inl fw))), (b2, .inl (cI, 9, .inl fo))]) (va_runV (As := [.int se, .long wo, .int (nI w9), .int kk]) (rest := []) ⟨hx, hb, hml, hown, hts⟩ (c_X3_addSome_b l D cI cJ cZ h3 b1 b2 n c0 w9 ry se wo kk fw fo (by first | assumption | omega) (by first | assumption | omega) (by first | assumption | omega)) (cwV 4 hts gX6_some_X3_addSome rfl rfl rfl (by decide +kernel) ⟨Nat.le_of_ble_eq_true rfl, Nat.le_of_ble_eq_true rfl⟩) ⟨pm_blind, va_recv hK hP (ci := 3) (q0 := 2) rfl rfl, fun U hU hW => ⟨rfl, by rw [hU]; exact hP.sub (ws' := [(h3, .inr (3, [.ref b1, .ref b2, .int (nI n), .int (nI c0), .int ry])), (b1, .inl (cJ, 320, .inr (.inl fw))), (b2, .inl (cI, 9, .inl fo))]) [2, 3, 4] rfl, hKN.warm hW, (hD.sub (ws' := [(h3, .inr (3, [.ref b1, .ref b2, .int (nI n), .int (nI c0), .int ry])), (b1, .inl (cJ, 320, .inr (.inl fw))), (b2, .inl (cI, 9, .inl fo))]) [2, 3, 4] (by decide) rfl).weaken (fun _ _ _ _ => trivial)⟩⟩ rfl rfl hl.1 rfl (lv_room (Nat.le_of_ble_eq_true rfl)) dX6_some_62 ⟨Nat.le_of_ble_eq_true rfl, Nat.le_of_ble_eq_true rfl⟩) hS hP hD (fun (u : (Nat → Int64) × (Nat → Int32)) => [(x0, .inr (6, [.ref h4, .ref h3, .ref h2, .ref h1, .ref hB, .ref h5])), (h4, .inr (4, [.ref a1, .ref a2, .ref a3, .int (nI n), .int sn, .int sg])), (h3, .inr (3, [.ref b1, .ref b2, .int (nI n), .int (nI (c0 + 1)), .int ry])), (b1, .inl (cJ, 320, .inr (.inl u.1))), (b2, .inl (cI, 9, .inl u.2))]) [2, 3, 4] [0, 1] rfl rfl (fun _ => rfl) (fun _ => rfl) (fun _ => rfl) (fun _ => rfl) (by decide) (by decide) (fun r10 u10 H locs w10r hP hD hS => ?_)
                    obtain ⟨u10_uw, u10_uo⟩ := u10
                    have hP : va_P D vwCl [(x0, .inr (6, [.ref h4, .ref h3, .ref h2, .ref h1, .ref hB, .ref h5])), (h4, .inr (4, [.ref a1, .ref a2, .ref a3, .int (nI n), .int sn, .int sg])), (h3, .inr (3, [.ref b1, .ref b2, .int (nI n), .int (nI (c0 + 1)), .int ry])), (b1, .inl (cJ, 320, .inr (.inl u10_uw))), (b2, .inl (cI, 9, .inl u10_uo))] H := hP
                    have hD : va_D (aA as) [(x0, .inr (6, [.ref h4, .ref h3, .ref h2, .ref h1, .ref hB, .ref h5])), (h4, .inr (4, [.ref a1, .ref a2, .ref a3, .int (nI n), .int sn, .int sg])), (h3, .inr (3, [.ref b1, .ref b2, .int (nI n), .int (nI (c0 + 1)), .int ry])), (b1, .inl (cJ, 320, .inr (.inl u10_uw))), (b2, .inl (cI, 9, .inl u10_uo))] := hD
                    have w10 : r10 = nI c0 ∧ RW fw u10_uw c0 (fun t => t < 2 ^ n ∧ (¬ pf (wZ wo w9 se) (nI t) n < kk)) := w10r
                    clear w10r
                    refine lv_goto (tgt := 69) hx hb dX6_some_65 (by decide) ?_
                    rw [← hQ]
                    exact W.iret (v := r10) hx hb hr (fun tS htS hWS => ⟨⟨r10, (nI (c0 + 1), u10_uw, u10_uo), rfl, by first | exact Or.inr ⟨rfl, by omega, rfl, rfl⟩ | exact Or.inl ⟨w10.1, by omega, rfl, by rw [m_tn (j := w9) (by omega)]; exact w10.2⟩, m_at htS hP⟩, by rw [← has]; exact hS.F htS⟩) (by rw [← has]; exact hS.2.2) dX6_some_69
                · skip
                  refine lv_if_eq (tgt := 68) hx hb dX6_some_49 (by decide) (fun c11 => ?_) (fun c11 => ?_)
                  · skip
                    refine lv_iconst (v := (-1 : Int32)) hx hb dX6_some_68 (by decide) ?_
                    rw [← hQ]
                    exact W.iret (v := (-1 : Int32)) hx hb hr (fun tS htS hWS => ⟨⟨(-1 : Int32), (nI c0, fw, fo), rfl, by first | exact Or.inr ⟨rfl, by omega, rfl, rfl⟩ | exact Or.inl ⟨w8.1, by omega, rfl, by rw [m_tn (j := w9) (by omega)]; exact w8.2⟩, m_at htS hP⟩, by rw [← has]; exact hS.F htS⟩) (by rw [← has]; exact hS.2.2) dX6_some_69
                  · exact absurd c11 (by first | decide | exact nz_lt (by omega) | exact fun h => h (nz_ge (by omega)))
              · skip
                have d7 := c7
                rw [i_le, nI_toInt (n := 100) (by omega)] at d7
                refine lv_iconst (v := (-1 : Int32)) hx hb dX6_some_40 (by decide) ?_
                rw [← hQ]
                exact W.iret (v := (-1 : Int32)) hx hb hr (fun tS htS hWS => ⟨⟨(-1 : Int32), (nI c0, fw, fo), rfl, by first | exact Or.inr ⟨rfl, by omega, rfl, rfl⟩ | exact Or.inl ⟨w1.1, by omega, rfl, by rw [m_tn (j := w9) (by omega)]; exact w1.2⟩, m_at htS hP⟩, by rw [← has]; exact hS.F htS⟩) (by rw [← has]; exact hS.2.2) dX6_some_41
  · skip
    refine lv_if_eq (tgt := 40) hx hb dX6_some_8 (by decide) (fun c12 => ?_) (fun c12 => ?_)
    · skip
      refine lv_iconst (v := (-1 : Int32)) hx hb dX6_some_40 (by decide) ?_
      rw [← hQ]
      exact W.iret (v := (-1 : Int32)) hx hb hr (fun tS htS hWS => ⟨⟨(-1 : Int32), (nI c0, fw, fo), rfl, by first | exact Or.inr ⟨rfl, by omega, rfl, rfl⟩ | exact Or.inl ⟨w1.1, by omega, rfl, by rw [m_tn (j := w9) (by omega)]; exact w1.2⟩, m_at htS hP⟩, by rw [← has]; exact hS.F htS⟩) (by rw [← has]; exact hS.2.2) dX6_some_41
    · exact absurd c12 (by first | decide | exact nz_lt (by omega) | exact fun h => h (nz_ge (by omega)))
def rm_c_X6_says_b : Room := { frames := 1, cells := 0, slots := 0, locals := 22 }
set_option maxHeartbeats 400000 in
set_option maxRecDepth 100000 in
theorem c_X6_says_b (l : Launch) (D : va_G) (cI cJ cZ : ClassId) (x0 : Nat) (h4 : Nat) (h3 : Nat) (h2 : Nat) (h1 : Nat) (hB : Nat) (h5 : Nat) (a1 : Nat) (a2 : Nat) (a3 : Nat) (b1 : Nat) (b2 : Nat) (n : Nat) (c0 : Nat) (sn : Int32) (sg : Int32) (pt : Int32) (ry : Int32) (p0 : Int32) (p1 : Int32) (fw : Nat → Int64) (hn : n ≤ 9) (hc : c0 ≤ 40) : Met l yX6_says wsX6_says rm_c_X6_says_b (pc_ D cI cJ cZ [.ref x0, .int p0, .int p1] [(x0, .inr (6, [.ref h4, .ref h3, .ref h2, .ref h1, .ref hB, .ref h5])), (h4, .inr (4, [.ref a1, .ref a2, .ref a3, .int (nI n), .int sn, .int sg])), (h3, .inr (3, [.ref b1, .ref b2, .int pt, .int (nI c0), .int ry])), (b1, .inl (cJ, 320, .inr (.inl fw)))]) (va_Qi (fun (r : Int32) (_ : Unit) => SAY r ((0 ≤ p0.toInt ∧ p0.toInt < c0) ∧ (0 ≤ p1.toInt ∧ p1.toInt < (2 ^ n : Nat))) (isG fw p0.toInt.toNat p1.toInt.toNat)) (fun _ _ => True) aN) 0 0 aN := by
  refine Met.ofW (cc := cX6_says) (maxL := 3) (ret := (some .int)) (by decide) rfl ?_
  intro p e s m args below meth c s₁ B hml hv
  obtain ⟨rfl, hP, hKN⟩ := hv
  have hK := hKN.1
  have hx := B.exec
  have hb := B.bytes
  have hr := B.returns
  have hts := atoms_spec (ws := wsX6_says) B.pre
  have hown : s.vm.findClass RX6 = some m.cls := findClass_of_methodNamed B.named
  have hlocks := B.notSynchronized
  have hiX6 : ∀ w ∈ wsX60, w ∈ wsX6_says := by decide +kernel
  have hf10 := hts (.fieldLink RX6 10 "LookBench" "shelf" "LLookBench$Shelf;") (by decide +kernel)
  have hf19 := hts (.fieldLink RX6 19 "LookBench" "rules" "LLookBench$Rules;") (by decide +kernel)
  have hS : va_S aN s.heap s.heap [] := va_S.rf
  have hl := lv_entry ([.ref x0, .int p0, .int p1]) (n := 3) (Nat.le_of_ble_eq_true rfl)
  rw [lg_entry_eq]
  generalize (lg_sl ([.ref x0, .int p0, .int p1]) ++ List.replicate (3 - (lg_sl ([.ref x0, .int p0, .int p1])).length) Slot.unset).toArray = ls at hl ⊢
  have hl : lv_has ls 3 [(0, .ref x0), (1, .int p0), (2, .int p1)] := hl
  generalize hQ : MQ below _ _ s _ _ _ = Q
  obtain ⟨H, hH⟩ : ∃ z, z = s.heap := ⟨_, rfl⟩
  have hP : va_P D vwCl [(x0, .inr (6, [.ref h4, .ref h3, .ref h2, .ref h1, .ref hB, .ref h5])), (h4, .inr (4, [.ref a1, .ref a2, .ref a3, .int (nI n), .int sn, .int sg])), (h3, .inr (3, [.ref b1, .ref b2, .int pt, .int (nI c0), .int ry])), (b1, .inl (cJ, 320, .inr (.inl fw)))] H := by rw [hH]; exact hP
  have hS : va_S aN s.heap H [] := by rw [hH]; exact hS
  refine m_heap hH ?_
  clear hH
  have h2n := m_pow hn
  have h2p := m_powp n
  refine lv_aload_n hx hb dX6_says_0 rfl (lv_at hl 0 rfl) ?_
  refine va_get (D := D) (ci := 6) (v := .ref h3) (C := RX6) (T := TX6) (N := 6) hx hb hts hiX6 hown hK hP 0 rfl rfl 1 (by decide) hf19 (fun _ h9 => h9) rfl dX6_says_1 ?_
  refine lv_iload_n hx hb dX6_says_4 rfl (lv_at hl 1 rfl) ?_
  refine pu_i (va_runV (As := [.int p0]) (rest := []) ⟨hx, hb, hml, hown, hts⟩ (c_X3_has l D cI cJ cZ h3 b1 b2 c0 pt ry p0 (by first | assumption | omega)) (cwV 1 hts gX6_says_X3_has rfl rfl rfl (by decide +kernel) ⟨Nat.le_of_ble_eq_true rfl, Nat.le_of_ble_eq_true rfl⟩) ⟨pc_blind, va_recv hK hP (ci := 3) (q0 := 2) rfl rfl, fun U hU hW => ⟨rfl, by rw [hU]; exact hP.sub (ws' := [(h3, .inr (3, [.ref b1, .ref b2, .int pt, .int (nI c0), .int ry]))]) [2] rfl, hKN.warm hW⟩⟩ rfl rfl hl.1 rfl (lv_room (Nat.le_of_ble_eq_true rfl)) dX6_says_5 ⟨Nat.le_of_ble_eq_true rfl, Nat.le_of_ble_eq_true rfl⟩) hS hP (fun r1 H locs w1r hP hS => ?_)
  have w1 : B01 r1 (0 ≤ p0.toInt ∧ p0.toInt < c0) := w1r
  clear w1r
  rcases w1 with ⟨rfl, w1⟩ | ⟨rfl, w1⟩
  · skip
    obtain ⟨j9, hj9, rfl⟩ := m_nat w1
    have tj9 : (nI j9).toInt = (j9 : Int) := nI_toInt (by omega)
    refine lv_if_eq (tgt := 22) hx hb dX6_says_8 (by decide) (fun c2 => ?_) (fun c2 => ?_)
    · exact absurd c2 (by first | decide | exact nz_lt (by omega) | exact fun h => h (nz_ge (by omega)))
    · skip
      refine lv_aload_n hx hb dX6_says_11 rfl (lv_at hl 0 rfl) ?_
      refine va_get (D := D) (ci := 6) (v := .ref h4) (C := RX6) (T := TX6) (N := 6) hx hb hts hiX6 hown hK hP 0 rfl rfl 0 (by decide) hf10 (fun _ h9 => h9) rfl dX6_says_12 ?_
      refine lv_iload_n hx hb dX6_says_15 rfl (lv_at hl 2 rfl) ?_
      refine pu_i (va_runV (As := [.int p1]) (rest := []) ⟨hx, hb, hml, hown, hts⟩ (c_X4_hasSet l D cI cJ cZ h4 a1 a2 a3 n sn sg p1 (by first | assumption | omega)) (cwV 1 hts gX6_says_X4_hasSet rfl rfl rfl (by decide +kernel) ⟨Nat.le_of_ble_eq_true rfl, Nat.le_of_ble_eq_true rfl⟩) ⟨pc_blind, va_recv hK hP (ci := 4) (q0 := 1) rfl rfl, fun U hU hW => ⟨rfl, by rw [hU]; exact hP.sub (ws' := [(h4, .inr (4, [.ref a1, .ref a2, .ref a3, .int (nI n), .int sn, .int sg]))]) [1] rfl, hKN.warm hW⟩⟩ rfl rfl hl.1 rfl (lv_room (Nat.le_of_ble_eq_true rfl)) dX6_says_16 ⟨Nat.le_of_ble_eq_true rfl, Nat.le_of_ble_eq_true rfl⟩) hS hP (fun r3 H locs w3r hP hS => ?_)
      have w3 : B01 r3 (0 ≤ p1.toInt ∧ p1.toInt < (2 ^ n : Nat)) := w3r
      clear w3r
      rcases w3 with ⟨rfl, w3⟩ | ⟨rfl, w3⟩
      · skip
        obtain ⟨j8, hj8, rfl⟩ := m_nat w3
        have tj8 : (nI j8).toInt = (j8 : Int) := nI_toInt (by omega)
        refine lv_if_ne (tgt := 24) hx hb dX6_says_19 (by decide) (fun c4 => ?_) (fun c4 => ?_)
        · skip
          refine lv_aload_n hx hb dX6_says_24 rfl (lv_at hl 0 rfl) ?_
          refine va_get (D := D) (ci := 6) (v := .ref h3) (C := RX6) (T := TX6) (N := 6) hx hb hts hiX6 hown hK hP 0 rfl rfl 1 (by decide) hf19 (fun _ h9 => h9) rfl dX6_says_25 ?_
          refine lv_iload_n hx hb dX6_says_28 rfl (lv_at hl 1 rfl) ?_
          refine lv_iload_n hx hb dX6_says_29 rfl (lv_at hl 2 rfl) ?_
          refine pu_i (va_runV (As := [.int (nI j9), .int (nI j8)]) (rest := []) ⟨hx, hb, hml, hown, hts⟩ (c_X3_isGood l D cI cJ cZ h3 b1 b2 j9 j8 pt (nI c0) ry fw (by first | assumption | omega) (by first | assumption | omega)) (cwV 2 hts gX6_says_X3_isGood rfl rfl rfl (by decide +kernel) ⟨Nat.le_of_ble_eq_true rfl, Nat.le_of_ble_eq_true rfl⟩) ⟨pc_blind, va_recv hK hP (ci := 3) (q0 := 2) rfl rfl, fun U hU hW => ⟨rfl, by rw [hU]; exact hP.sub (ws' := [(h3, .inr (3, [.ref b1, .ref b2, .int pt, .int (nI c0), .int ry])), (b1, .inl (cJ, 320, .inr (.inl fw)))]) [2, 3] rfl, hKN.warm hW⟩⟩ rfl rfl hl.1 rfl (lv_room (Nat.le_of_ble_eq_true rfl)) dX6_says_30 ⟨Nat.le_of_ble_eq_true rfl, Nat.le_of_ble_eq_true rfl⟩) hS hP (fun r5 H locs w5r hP hS => ?_)
          have w5 : B01 r5 (isG fw j9 j8) := w5r
          clear w5r
          rcases w5 with ⟨rfl, w5⟩ | ⟨rfl, w5⟩
          · skip
            refine lv_if_eq (tgt := 40) hx hb dX6_says_33 (by decide) (fun c6 => ?_) (fun c6 => ?_)
            · exact absurd c6 (by first | decide | exact nz_lt (by omega) | exact fun h => h (nz_ge (by omega)))
            · skip
              refine lv_iconst (v := nI 1) hx hb dX6_says_36 (by decide) ?_
              refine lv_goto (tgt := 41) hx hb dX6_says_37 (by decide) ?_
              rw [← hQ]
              exact W.iret (v := nI 1) hx hb hr (fun tS htS hWS => ⟨⟨(nI 1), (), rfl, by first | exact Or.inr ⟨rfl, by omega⟩ | exact Or.inl ⟨by omega, Or.inl ⟨rfl, by rw [m_tn (j := j9) (by omega), m_tn (j := j8) (by omega)]; assumption⟩⟩ | exact Or.inl ⟨by omega, Or.inr ⟨rfl, by rw [m_tn (j := j9) (by omega), m_tn (j := j8) (by omega)]; assumption⟩⟩, trivial⟩, hS.F htS⟩) hS.2.2 dX6_says_41
          · skip
            refine lv_if_eq (tgt := 40) hx hb dX6_says_33 (by decide) (fun c7 => ?_) (fun c7 => ?_)
            · skip
              refine lv_iconst (v := nI 0) hx hb dX6_says_40 (by decide) ?_
              rw [← hQ]
              exact W.iret (v := nI 0) hx hb hr (fun tS htS hWS => ⟨⟨(nI 0), (), rfl, by first | exact Or.inr ⟨rfl, by omega⟩ | exact Or.inl ⟨by omega, Or.inl ⟨rfl, by rw [m_tn (j := j9) (by omega), m_tn (j := j8) (by omega)]; assumption⟩⟩ | exact Or.inl ⟨by omega, Or.inr ⟨rfl, by rw [m_tn (j := j9) (by omega), m_tn (j := j8) (by omega)]; assumption⟩⟩, trivial⟩, hS.F htS⟩) hS.2.2 dX6_says_41
            · exact absurd c7 (by first | decide | exact nz_lt (by omega) | exact fun h => h (nz_ge (by omega)))
        · exact absurd c4 (by first | decide | exact nz_lt (by omega) | exact fun h => h (nz_ge (by omega)))
      · skip
        refine lv_if_ne (tgt := 24) hx hb dX6_says_19 (by decide) (fun c8 => ?_) (fun c8 => ?_)
        · exact absurd c8 (by first | decide | exact nz_lt (by omega) | exact fun h => h (nz_ge (by omega)))
        · skip
          refine lv_iconst (v := (-1 : Int32)) hx hb dX6_says_22 (by decide) ?_
          rw [← hQ]
          exact W.iret (v := (-1 : Int32)) hx hb hr (fun tS htS hWS => ⟨⟨(-1 : Int32), (), rfl, Or.inr ⟨rfl, by omega⟩, trivial⟩, hS.F htS⟩) hS.2.2 dX6_says_23
  · skip
    refine lv_if_eq (tgt := 22) hx hb dX6_says_8 (by decide) (fun c9 => ?_) (fun c9 => ?_)
    · skip
      refine lv_iconst (v := (-1 : Int32)) hx hb dX6_says_22 (by decide) ?_
      rw [← hQ]
      exact W.iret (v := (-1 : Int32)) hx hb hr (fun tS htS hWS => ⟨⟨(-1 : Int32), (), rfl, Or.inr ⟨rfl, by omega⟩, trivial⟩, hS.F htS⟩) hS.2.2 dX6_says_23
    · exact absurd c9 (by first | decide | exact nz_lt (by omega) | exact fun h => h (nz_ge (by omega)))
def rm_c_X6_differ_b : Room := { frames := 2, cells := 0, slots := 0, locals := 45 }
set_option maxHeartbeats 400000 in
set_option maxRecDepth 100000 in
theorem c_X6_differ_b (l : Launch) (D : va_G) (cI cJ cZ : ClassId) (x0 : Nat) (h4 : Nat) (h3 : Nat) (h2 : Nat) (h1 : Nat) (hB : Nat) (h5 : Nat) (b1 : Nat) (b2 : Nat) (n : Nat) (c0 : Nat) (ry : Int32) (p0 : Int32) (p1 : Int32) (fw : Nat → Int64) (hn : n ≤ 9) (hc : c0 ≤ 40) : Met l yX6_differ wsX6_differ rm_c_X6_differ_b (pc_ D cI cJ cZ [.ref x0, .int p0, .int p1] [(x0, .inr (6, [.ref h4, .ref h3, .ref h2, .ref h1, .ref hB, .ref h5])), (h3, .inr (3, [.ref b1, .ref b2, .int (nI n), .int (nI c0), .int ry])), (b1, .inl (cJ, 320, .inr (.inl fw)))]) (va_Qi (fun (r : Int32) (_ : Unit) => (((0 ≤ p0.toInt ∧ p0.toInt < c0) ∧ (0 ≤ p1.toInt ∧ p1.toInt < c0)) ∧ FU r (2 ^ n) (isG fw p0.toInt.toNat) (isG fw p1.toInt.toNat)) ∨ (r = -1 ∧ ¬ ((0 ≤ p0.toInt ∧ p0.toInt < c0) ∧ (0 ≤ p1.toInt ∧ p1.toInt < c0)))) (fun _ _ => True) aN) 0 0 aN := by
  refine Met.ofW (cc := cX6_differ) (maxL := 3) (ret := (some .int)) (by decide) rfl ?_
  intro p e s m args below meth c s₁ B hml hv
  obtain ⟨rfl, hP, hKN⟩ := hv
  have hK := hKN.1
  have hx := B.exec
  have hb := B.bytes
  have hr := B.returns
  have hts := atoms_spec (ws := wsX6_differ) B.pre
  have hown : s.vm.findClass RX6 = some m.cls := findClass_of_methodNamed B.named
  have hlocks := B.notSynchronized
  have hiX6 : ∀ w ∈ wsX60, w ∈ wsX6_differ := by decide +kernel
  have hf19 := hts (.fieldLink RX6 19 "LookBench" "rules" "LLookBench$Rules;") (by decide +kernel)
  have hS : va_S aN s.heap s.heap [] := va_S.rf
  have hl := lv_entry ([.ref x0, .int p0, .int p1]) (n := 3) (Nat.le_of_ble_eq_true rfl)
  rw [lg_entry_eq]
  generalize (lg_sl ([.ref x0, .int p0, .int p1]) ++ List.replicate (3 - (lg_sl ([.ref x0, .int p0, .int p1])).length) Slot.unset).toArray = ls at hl ⊢
  have hl : lv_has ls 3 [(0, .ref x0), (1, .int p0), (2, .int p1)] := hl
  generalize hQ : MQ below _ _ s _ _ _ = Q
  obtain ⟨H, hH⟩ : ∃ z, z = s.heap := ⟨_, rfl⟩
  have hP : va_P D vwCl [(x0, .inr (6, [.ref h4, .ref h3, .ref h2, .ref h1, .ref hB, .ref h5])), (h3, .inr (3, [.ref b1, .ref b2, .int (nI n), .int (nI c0), .int ry])), (b1, .inl (cJ, 320, .inr (.inl fw)))] H := by rw [hH]; exact hP
  have hS : va_S aN s.heap H [] := by rw [hH]; exact hS
  refine m_heap hH ?_
  clear hH
  refine lv_aload_n hx hb dX6_differ_0 rfl (lv_at hl 0 rfl) ?_
  refine va_get (D := D) (ci := 6) (v := .ref h3) (C := RX6) (T := TX6) (N := 6) hx hb hts hiX6 hown hK hP 0 rfl rfl 1 (by decide) hf19 (fun _ h9 => h9) rfl dX6_differ_1 ?_
  refine lv_iload_n hx hb dX6_differ_4 rfl (lv_at hl 1 rfl) ?_
  refine pu_i (va_runV (As := [.int p0]) (rest := []) ⟨hx, hb, hml, hown, hts⟩ (c_X3_has l D cI cJ cZ h3 b1 b2 c0 (nI n) ry p0 (by first | assumption | omega)) (cwV 1 hts gX6_differ_X3_has rfl rfl rfl (by decide +kernel) ⟨Nat.le_of_ble_eq_true rfl, Nat.le_of_ble_eq_true rfl⟩) ⟨pc_blind, va_recv hK hP (ci := 3) (q0 := 1) rfl rfl, fun U hU hW => ⟨rfl, by rw [hU]; exact hP.sub (ws' := [(h3, .inr (3, [.ref b1, .ref b2, .int (nI n), .int (nI c0), .int ry]))]) [1] rfl, hKN.warm hW⟩⟩ rfl rfl hl.1 rfl (lv_room (Nat.le_of_ble_eq_true rfl)) dX6_differ_5 ⟨Nat.le_of_ble_eq_true rfl, Nat.le_of_ble_eq_true rfl⟩) hS hP (fun r1 H locs w1r hP hS => ?_)
  have w1 : B01 r1 (0 ≤ p0.toInt ∧ p0.toInt < c0) := w1r
  clear w1r
  rcases w1 with ⟨rfl, w1⟩ | ⟨rfl, w1⟩
  · skip
    obtain ⟨j9, hj9, rfl⟩ := m_nat w1
    have tj9 : (nI j9).toInt = (j9 : Int) := nI_toInt (by omega)
    refine lv_if_eq (tgt := 34) hx hb dX6_differ_8 (by decide) (fun c2 => ?_) (fun c2 => ?_)
    · exact absurd c2 (by first | decide | exact nz_lt (by omega) | exact fun h => h (nz_ge (by omega)))
    · skip
      refine lv_aload_n hx hb dX6_differ_11 rfl (lv_at hl 0 rfl) ?_
      refine va_get (D := D) (ci := 6) (v := .ref h3) (C := RX6) (T := TX6) (N := 6) hx hb hts hiX6 hown hK hP 0 rfl rfl 1 (by decide) hf19 (fun _ h9 => h9) rfl dX6_differ_12 ?_
      refine lv_iload_n hx hb dX6_differ_15 rfl (lv_at hl 2 rfl) ?_
      refine pu_i (va_runV (As := [.int p1]) (rest := []) ⟨hx, hb, hml, hown, hts⟩ (c_X3_has l D cI cJ cZ h3 b1 b2 c0 (nI n) ry p1 (by first | assumption | omega)) (cwV 1 hts gX6_differ_X3_has rfl rfl rfl (by decide +kernel) ⟨Nat.le_of_ble_eq_true rfl, Nat.le_of_ble_eq_true rfl⟩) ⟨pc_blind, va_recv hK hP (ci := 3) (q0 := 1) rfl rfl, fun U hU hW => ⟨rfl, by rw [hU]; exact hP.sub (ws' := [(h3, .inr (3, [.ref b1, .ref b2, .int (nI n), .int (nI c0), .int ry]))]) [1] rfl, hKN.warm hW⟩⟩ rfl rfl hl.1 rfl (lv_room (Nat.le_of_ble_eq_true rfl)) dX6_differ_16 ⟨Nat.le_of_ble_eq_true rfl, Nat.le_of_ble_eq_true rfl⟩) hS hP (fun r3 H locs w3r hP hS => ?_)
      have w3 : B01 r3 (0 ≤ p1.toInt ∧ p1.toInt < c0) := w3r
      clear w3r
      rcases w3 with ⟨rfl, w3⟩ | ⟨rfl, w3⟩
      · skip
        obtain ⟨j8, hj8, rfl⟩ := m_nat w3
        have tj8 : (nI j8).toInt = (j8 : Int) := nI_toInt (by omega)
        refine lv_if_eq (tgt := 34) hx hb dX6_differ_19 (by decide) (fun c4 => ?_) (fun c4 => ?_)
        · exact absurd c4 (by first | decide | exact nz_lt (by omega) | exact fun h => h (nz_ge (by omega)))
        · skip
          refine lv_aload_n hx hb dX6_differ_22 rfl (lv_at hl 0 rfl) ?_
          refine va_get (D := D) (ci := 6) (v := .ref h3) (C := RX6) (T := TX6) (N := 6) hx hb hts hiX6 hown hK hP 0 rfl rfl 1 (by decide) hf19 (fun _ h9 => h9) rfl dX6_differ_23 ?_
          refine lv_iload_n hx hb dX6_differ_26 rfl (lv_at hl 1 rfl) ?_
          refine lv_iload_n hx hb dX6_differ_27 rfl (lv_at hl 2 rfl) ?_
          refine pu_i (va_runV (As := [.int (nI j9), .int (nI j8)]) (rest := []) ⟨hx, hb, hml, hown, hts⟩ (c_X3_firstUnlike l D cI cJ cZ h3 b1 b2 n j9 j8 (nI c0) ry fw (by first | assumption | omega) (by first | assumption | omega) (by first | assumption | omega)) (cwV 2 hts gX6_differ_X3_firstUnlike rfl rfl rfl (by decide +kernel) ⟨Nat.le_of_ble_eq_true rfl, Nat.le_of_ble_eq_true rfl⟩) ⟨pc_blind, va_recv hK hP (ci := 3) (q0 := 1) rfl rfl, fun U hU hW => ⟨rfl, by rw [hU]; exact hP.sub (ws' := [(h3, .inr (3, [.ref b1, .ref b2, .int (nI n), .int (nI c0), .int ry])), (b1, .inl (cJ, 320, .inr (.inl fw)))]) [1, 2] rfl, hKN.warm hW⟩⟩ rfl rfl hl.1 rfl (lv_room (Nat.le_of_ble_eq_true rfl)) dX6_differ_28 ⟨Nat.le_of_ble_eq_true rfl, Nat.le_of_ble_eq_true rfl⟩) hS hP (fun r5 H locs w5r hP hS => ?_)
          have w5 : (r5 = -1 ∧ ∀ z, z < 2 ^ n → (isG fw j9 z ↔ isG fw j8 z)) ∨ (∃ x, x < 2 ^ n ∧ r5 = nI x ∧ ¬ (isG fw j9 x ↔ isG fw j8 x) ∧ ∀ z, z < x → (isG fw j9 z ↔ isG fw j8 z)) := w5r
          clear w5r
          refine lv_goto (tgt := 35) hx hb dX6_differ_31 (by decide) ?_
          rw [← hQ]
          exact W.iret (v := r5) hx hb hr (fun tS htS hWS => ⟨⟨r5, (), rfl, by first | exact Or.inr ⟨rfl, by omega⟩ | exact Or.inl ⟨by omega, by rw [m_tn (j := j9) (by omega), m_tn (j := j8) (by omega)]; exact w5⟩, trivial⟩, hS.F htS⟩) hS.2.2 dX6_differ_35
      · skip
        refine lv_if_eq (tgt := 34) hx hb dX6_differ_19 (by decide) (fun c6 => ?_) (fun c6 => ?_)
        · skip
          refine lv_iconst (v := (-1 : Int32)) hx hb dX6_differ_34 (by decide) ?_
          rw [← hQ]
          exact W.iret (v := (-1 : Int32)) hx hb hr (fun tS htS hWS => ⟨⟨(-1 : Int32), (), rfl, by first | exact Or.inr ⟨rfl, by omega⟩ | exact Or.inl ⟨by omega, by rw [m_tn (j := j9) (by omega), m_tn (j := j8) (by omega)]; exact w3⟩, trivial⟩, hS.F htS⟩) hS.2.2 dX6_differ_35
        · exact absurd c6 (by first | decide | exact nz_lt (by omega) | exact fun h => h (nz_ge (by omega)))
  · skip
    refine lv_if_eq (tgt := 34) hx hb dX6_differ_8 (by decide) (fun c7 => ?_) (fun c7 => ?_)
    · skip
      refine lv_iconst (v := (-1 : Int32)) hx hb dX6_differ_34 (by decide) ?_
      rw [← hQ]
      exact W.iret (v := (-1 : Int32)) hx hb hr (fun tS htS hWS => ⟨⟨(-1 : Int32), (), rfl, by first | exact Or.inr ⟨rfl, by omega⟩ | exact Or.inl ⟨by omega, by rw [m_tn (j := j9) (by omega), m_tn (j := j8) (by omega)]; exact w1⟩, trivial⟩, hS.F htS⟩) hS.2.2 dX6_differ_35
    · exact absurd c7 (by first | decide | exact nz_lt (by omega) | exact fun h => h (nz_ge (by omega)))
def rm_c_X6_sets_b : Room := { frames := 5, cells := 0, slots := 0, locals := 112 }
set_option maxHeartbeats 400000 in
set_option maxRecDepth 100000 in
theorem c_X6_sets_b (l : Launch) (D : va_G) (cI cJ cZ : ClassId) (x0 : Nat) (h4 : Nat) (h3 : Nat) (h2 : Nat) (h1 : Nat) (hB : Nat) (h5 : Nat) (b1 : Nat) (b2 : Nat) (n : Nat) (c0 : Nat) (y : Nat) (p0 : Int32) (fw : Nat → Int64) (hn : n ≤ 9) (hc : c0 ≤ 40) (hy : y < c0) : Met l yX6_sets wsX6_sets rm_c_X6_sets_b (pc_ D cI cJ cZ [.ref x0, .int p0] [(x0, .inr (6, [.ref h4, .ref h3, .ref h2, .ref h1, .ref hB, .ref h5])), (h3, .inr (3, [.ref b1, .ref b2, .int (nI n), .int (nI c0), .int (nI y)])), (b1, .inl (cJ, 320, .inr (.inl fw)))]) (va_Qi (fun (r : Int32) (_ : Unit) => ((0 ≤ p0.toInt ∧ p0.toInt ≤ 1) ∧ ∃ d, r = nI d ∧ CL (lst fw y n (if p0 = 0 then nI 1 else nI 0)) (2 ^ n) d) ∨ (r = -1 ∧ ¬ (0 ≤ p0.toInt ∧ p0.toInt ≤ 1))) (fun _ _ => True) aN) 0 0 aN := by
  refine Met.ofW (cc := cX6_sets) (maxL := 2) (ret := (some .int)) (by decide) rfl ?_
  intro p e s m args below meth c s₁ B hml hv
  obtain ⟨rfl, hP, hKN⟩ := hv
  have hK := hKN.1
  have hx := B.exec
  have hb := B.bytes
  have hr := B.returns
  have hts := atoms_spec (ws := wsX6_sets) B.pre
  have hown : s.vm.findClass RX6 = some m.cls := findClass_of_methodNamed B.named
  have hlocks := B.notSynchronized
  have hiX6 : ∀ w ∈ wsX60, w ∈ wsX6_sets := by decide +kernel
  have hf19 := hts (.fieldLink RX6 19 "LookBench" "rules" "LLookBench$Rules;") (by decide +kernel)
  have hS : va_S aN s.heap s.heap [] := va_S.rf
  have hl := lv_entry ([.ref x0, .int p0]) (n := 2) (Nat.le_of_ble_eq_true rfl)
  rw [lg_entry_eq]
  generalize (lg_sl ([.ref x0, .int p0]) ++ List.replicate (2 - (lg_sl ([.ref x0, .int p0])).length) Slot.unset).toArray = ls at hl ⊢
  have hl : lv_has ls 2 [(0, .ref x0), (1, .int p0)] := hl
  generalize hQ : MQ below _ _ s _ _ _ = Q
  obtain ⟨H, hH⟩ : ∃ z, z = s.heap := ⟨_, rfl⟩
  have hP : va_P D vwCl [(x0, .inr (6, [.ref h4, .ref h3, .ref h2, .ref h1, .ref hB, .ref h5])), (h3, .inr (3, [.ref b1, .ref b2, .int (nI n), .int (nI c0), .int (nI y)])), (b1, .inl (cJ, 320, .inr (.inl fw)))] H := by rw [hH]; exact hP
  have hS : va_S aN s.heap H [] := by rw [hH]; exact hS
  refine m_heap hH ?_
  clear hH
  have ty9 : (nI y).toInt = (y : Int) := nI_toInt (by omega)
  refine lv_iload_n hx hb dX6_sets_0 rfl (lv_at hl 1 rfl) ?_
  refine lv_if_lt (tgt := 19) hx hb dX6_sets_1 (by decide) (fun c1 => ?_) (fun c1 => ?_)
  · skip
    have d1 := c1
    rw [i_lt, i_z] at d1
    refine lv_iconst (v := (-1 : Int32)) hx hb dX6_sets_19 (by decide) ?_
    rw [← hQ]
    exact W.iret (v := (-1 : Int32)) hx hb hr (fun tS htS hWS => ⟨⟨(-1 : Int32), (), rfl, Or.inr ⟨rfl, by omega⟩, trivial⟩, hS.F htS⟩) hS.2.2 dX6_sets_20
  · skip
    have d1 := c1
    rw [i_lt, i_z] at d1
    refine lv_iload_n hx hb dX6_sets_4 rfl (lv_at hl 1 rfl) ?_
    refine lv_iconst (v := nI 1) hx hb dX6_sets_5 (by decide) ?_
    refine lv_icmp_gt (tgt := 19) hx hb dX6_sets_6 (by decide) (fun c2 => ?_) (fun c2 => ?_)
    · skip
      have d2 := c2
      rw [i_lt, nI_toInt (n := 1) (by omega)] at d2
      refine lv_iconst (v := (-1 : Int32)) hx hb dX6_sets_19 (by decide) ?_
      rw [← hQ]
      exact W.iret (v := (-1 : Int32)) hx hb hr (fun tS htS hWS => ⟨⟨(-1 : Int32), (), rfl, Or.inr ⟨rfl, by omega⟩, trivial⟩, hS.F htS⟩) hS.2.2 dX6_sets_20
    · skip
      have d2 := c2
      rw [i_lt, nI_toInt (n := 1) (by omega)] at d2
      refine lv_aload_n hx hb dX6_sets_9 rfl (lv_at hl 0 rfl) ?_
      refine va_get (D := D) (ci := 6) (v := .ref h3) (C := RX6) (T := TX6) (N := 6) hx hb hts hiX6 hown hK hP 0 rfl rfl 1 (by decide) hf19 (fun _ h9 => h9) rfl dX6_sets_10 ?_
      refine pu_i (va_runV (As := []) (rest := []) ⟨hx, hb, hml, hown, hts⟩ (c_X3_hasSystem l D cI cJ cZ h3 b1 b2 c0 (nI n) (nI y) (by first | assumption | omega)) (cwV 0 hts gX6_sets_X3_hasSystem rfl rfl rfl (by decide +kernel) ⟨Nat.le_of_ble_eq_true rfl, Nat.le_of_ble_eq_true rfl⟩) ⟨pc_blind, va_recv hK hP (ci := 3) (q0 := 1) rfl rfl, fun U hU hW => ⟨rfl, by rw [hU]; exact hP.sub (ws' := [(h3, .inr (3, [.ref b1, .ref b2, .int (nI n), .int (nI c0), .int (nI y)]))]) [1] rfl, hKN.warm hW⟩⟩ rfl rfl hl.1 rfl (lv_room (Nat.le_of_ble_eq_true rfl)) dX6_sets_13 ⟨Nat.le_of_ble_eq_true rfl, Nat.le_of_ble_eq_true rfl⟩) hS hP (fun r3 H locs w3r hP hS => ?_)
      have w3 : B01 r3 (0 ≤ (nI y).toInt ∧ (nI y).toInt < c0) := w3r
      clear w3r
      rcases w3 with ⟨rfl, w3⟩ | ⟨rfl, w3⟩
      · skip
        refine lv_if_ne (tgt := 21) hx hb dX6_sets_16 (by decide) (fun c4 => ?_) (fun c4 => ?_)
        · skip
          refine lv_aload_n hx hb dX6_sets_21 rfl (lv_at hl 0 rfl) ?_
          refine va_get (D := D) (ci := 6) (v := .ref h3) (C := RX6) (T := TX6) (N := 6) hx hb hts hiX6 hown hK hP 0 rfl rfl 1 (by decide) hf19 (fun _ h9 => h9) rfl dX6_sets_22 ?_
          refine lv_iload_n hx hb dX6_sets_25 rfl (lv_at hl 1 rfl) ?_
          refine lv_if_ne (tgt := 33) hx hb dX6_sets_26 (by decide) (fun c5 => ?_) (fun c5 => ?_)
          · skip
            have e9 := c5
            refine lv_iconst (v := nI 0) hx hb dX6_sets_33 (by decide) ?_
            refine pu_i (va_runV (As := [.int (nI 0)]) (rest := []) ⟨hx, hb, hml, hown, hts⟩ (c_X3_countLeast_b l D cI cJ cZ h3 b1 b2 n y (nI c0) (nI 0) fw (by first | assumption | omega) (by first | assumption | omega)) (cwV 1 hts gX6_sets_X3_countLeast rfl rfl rfl (by decide +kernel) ⟨Nat.le_of_ble_eq_true rfl, Nat.le_of_ble_eq_true rfl⟩) ⟨pc_blind, va_recv hK hP (ci := 3) (q0 := 1) rfl rfl, fun U hU hW => ⟨rfl, by rw [hU]; exact hP.sub (ws' := [(h3, .inr (3, [.ref b1, .ref b2, .int (nI n), .int (nI c0), .int (nI y)])), (b1, .inl (cJ, 320, .inr (.inl fw)))]) [1, 2] rfl, hKN.warm hW⟩⟩ rfl rfl hl.1 rfl (lv_room (Nat.le_of_ble_eq_true rfl)) dX6_sets_34 ⟨Nat.le_of_ble_eq_true rfl, Nat.le_of_ble_eq_true rfl⟩) hS hP (fun r6 H locs w6r hP hS => ?_)
            have w6 : ∃ d, r6 = nI d ∧ CL (lst fw y n (nI 0)) (2 ^ n) d := w6r
            clear w6r
            rw [← hQ]
            exact W.iret (v := r6) hx hb hr (fun tS htS hWS => ⟨⟨r6, (), rfl, by first | exact Or.inl ⟨by omega, by rw [if_pos e9]; exact w6⟩ | exact Or.inl ⟨by omega, by rw [if_neg e9]; exact w6⟩, trivial⟩, hS.F htS⟩) hS.2.2 dX6_sets_37
          · skip
            have e9 := c5
            refine lv_iconst (v := nI 1) hx hb dX6_sets_29 (by decide) ?_
            refine lv_goto (tgt := 34) hx hb dX6_sets_30 (by decide) ?_
            refine pu_i (va_runV (As := [.int (nI 1)]) (rest := []) ⟨hx, hb, hml, hown, hts⟩ (c_X3_countLeast_b l D cI cJ cZ h3 b1 b2 n y (nI c0) (nI 1) fw (by first | assumption | omega) (by first | assumption | omega)) (cwV 1 hts gX6_sets_X3_countLeast rfl rfl rfl (by decide +kernel) ⟨Nat.le_of_ble_eq_true rfl, Nat.le_of_ble_eq_true rfl⟩) ⟨pc_blind, va_recv hK hP (ci := 3) (q0 := 1) rfl rfl, fun U hU hW => ⟨rfl, by rw [hU]; exact hP.sub (ws' := [(h3, .inr (3, [.ref b1, .ref b2, .int (nI n), .int (nI c0), .int (nI y)])), (b1, .inl (cJ, 320, .inr (.inl fw)))]) [1, 2] rfl, hKN.warm hW⟩⟩ rfl rfl hl.1 rfl (lv_room (Nat.le_of_ble_eq_true rfl)) dX6_sets_34 ⟨Nat.le_of_ble_eq_true rfl, Nat.le_of_ble_eq_true rfl⟩) hS hP (fun r7 H locs w7r hP hS => ?_)
            have w7 : ∃ d, r7 = nI d ∧ CL (lst fw y n (nI 1)) (2 ^ n) d := w7r
            clear w7r
            rw [← hQ]
            exact W.iret (v := r7) hx hb hr (fun tS htS hWS => ⟨⟨r7, (), rfl, by first | exact Or.inl ⟨by omega, by rw [if_pos e9]; exact w7⟩ | exact Or.inl ⟨by omega, by rw [if_neg e9]; exact w7⟩, trivial⟩, hS.F htS⟩) hS.2.2 dX6_sets_37
        · exact absurd c4 (by first | decide | exact nz_lt (by omega) | exact fun h => h (nz_ge (by omega)))
      · exact absurd ⟨by omega, by omega⟩ w3
def rm_c_X6_set_b : Room := { frames := 5, cells := 0, slots := 0, locals := 113 }
set_option maxHeartbeats 400000 in
set_option maxRecDepth 100000 in
theorem c_X6_set_b (l : Launch) (D : va_G) (cI cJ cZ : ClassId) (x0 : Nat) (h4 : Nat) (h3 : Nat) (h2 : Nat) (h1 : Nat) (hB : Nat) (h5 : Nat) (b1 : Nat) (b2 : Nat) (n : Nat) (c0 : Nat) (y : Nat) (p0 : Int32) (ii : Int32) (fw : Nat → Int64) (hn : n ≤ 9) (hc : c0 ≤ 40) (hy : y < c0) : Met l yX6_set wsX6_set rm_c_X6_set_b (pc_ D cI cJ cZ [.ref x0, .int p0, .int ii] [(x0, .inr (6, [.ref h4, .ref h3, .ref h2, .ref h1, .ref hB, .ref h5])), (h3, .inr (3, [.ref b1, .ref b2, .int (nI n), .int (nI c0), .int (nI y)])), (b1, .inl (cJ, 320, .inr (.inl fw)))]) (va_Qi (fun (r : Int32) (_ : Unit) => ((0 ≤ p0.toInt ∧ p0.toInt ≤ 1) ∧ FL r ii (2 ^ n) (lst fw y n (if p0 = 0 then nI 1 else nI 0))) ∨ (r = -1 ∧ ¬ (0 ≤ p0.toInt ∧ p0.toInt ≤ 1))) (fun _ _ => True) aN) 0 0 aN := by
  refine Met.ofW (cc := cX6_set) (maxL := 3) (ret := (some .int)) (by decide) rfl ?_
  intro p e s m args below meth c s₁ B hml hv
  obtain ⟨rfl, hP, hKN⟩ := hv
  have hK := hKN.1
  have hx := B.exec
  have hb := B.bytes
  have hr := B.returns
  have hts := atoms_spec (ws := wsX6_set) B.pre
  have hown : s.vm.findClass RX6 = some m.cls := findClass_of_methodNamed B.named
  have hlocks := B.notSynchronized
  have hiX6 : ∀ w ∈ wsX60, w ∈ wsX6_set := by decide +kernel
  have hf19 := hts (.fieldLink RX6 19 "LookBench" "rules" "LLookBench$Rules;") (by decide +kernel)
  have hS : va_S aN s.heap s.heap [] := va_S.rf
  have hl := lv_entry ([.ref x0, .int p0, .int ii]) (n := 3) (Nat.le_of_ble_eq_true rfl)
  rw [lg_entry_eq]
  generalize (lg_sl ([.ref x0, .int p0, .int ii]) ++ List.replicate (3 - (lg_sl ([.ref x0, .int p0, .int ii])).length) Slot.unset).toArray = ls at hl ⊢
  have hl : lv_has ls 3 [(0, .ref x0), (1, .int p0), (2, .int ii)] := hl
  generalize hQ : MQ below _ _ s _ _ _ = Q
  obtain ⟨H, hH⟩ : ∃ z, z = s.heap := ⟨_, rfl⟩
  have hP : va_P D vwCl [(x0, .inr (6, [.ref h4, .ref h3, .ref h2, .ref h1, .ref hB, .ref h5])), (h3, .inr (3, [.ref b1, .ref b2, .int (nI n), .int (nI c0), .int (nI y)])), (b1, .inl (cJ, 320, .inr (.inl fw)))] H := by rw [hH]; exact hP
  have hS : va_S aN s.heap H [] := by rw [hH]; exact hS
  refine m_heap hH ?_
  clear hH
  have ty9 : (nI y).toInt = (y : Int) := nI_toInt (by omega)
  have h2n := m_pow hn
  have h2p := m_powp n
  refine lv_iload_n hx hb dX6_set_0 rfl (lv_at hl 1 rfl) ?_
  refine lv_if_lt (tgt := 23) hx hb dX6_set_1 (by decide) (fun c1 => ?_) (fun c1 => ?_)
  · skip
    have d1 := c1
    rw [i_lt, i_z] at d1
    refine lv_iconst (v := (-1 : Int32)) hx hb dX6_set_23 (by decide) ?_
    rw [← hQ]
    exact W.iret (v := (-1 : Int32)) hx hb hr (fun tS htS hWS => ⟨⟨(-1 : Int32), (), rfl, by first | exact Or.inr ⟨rfl, by omega⟩ | exact Or.inl ⟨by omega, Or.inr ⟨rfl, fun x d hx hp hd => neg_no (by assumption) (by have h5 := hd.le; omega)⟩⟩, trivial⟩, hS.F htS⟩) hS.2.2 dX6_set_24
  · skip
    have d1 := c1
    rw [i_lt, i_z] at d1
    refine lv_iload_n hx hb dX6_set_4 rfl (lv_at hl 1 rfl) ?_
    refine lv_iconst (v := nI 1) hx hb dX6_set_5 (by decide) ?_
    refine lv_icmp_gt (tgt := 23) hx hb dX6_set_6 (by decide) (fun c2 => ?_) (fun c2 => ?_)
    · skip
      have d2 := c2
      rw [i_lt, nI_toInt (n := 1) (by omega)] at d2
      refine lv_iconst (v := (-1 : Int32)) hx hb dX6_set_23 (by decide) ?_
      rw [← hQ]
      exact W.iret (v := (-1 : Int32)) hx hb hr (fun tS htS hWS => ⟨⟨(-1 : Int32), (), rfl, by first | exact Or.inr ⟨rfl, by omega⟩ | exact Or.inl ⟨by omega, Or.inr ⟨rfl, fun x d hx hp hd => neg_no (by assumption) (by have h5 := hd.le; omega)⟩⟩, trivial⟩, hS.F htS⟩) hS.2.2 dX6_set_24
    · skip
      have d2 := c2
      rw [i_lt, nI_toInt (n := 1) (by omega)] at d2
      refine lv_iload_n hx hb dX6_set_9 rfl (lv_at hl 2 rfl) ?_
      refine lv_if_lt (tgt := 23) hx hb dX6_set_10 (by decide) (fun c3 => ?_) (fun c3 => ?_)
      · skip
        have d3 := c3
        rw [i_lt, i_z] at d3
        refine lv_iconst (v := (-1 : Int32)) hx hb dX6_set_23 (by decide) ?_
        rw [← hQ]
        exact W.iret (v := (-1 : Int32)) hx hb hr (fun tS htS hWS => ⟨⟨(-1 : Int32), (), rfl, by first | exact Or.inr ⟨rfl, by omega⟩ | exact Or.inl ⟨by omega, Or.inr ⟨rfl, fun x d hx hp hd => neg_no (by assumption) (by have h5 := hd.le; omega)⟩⟩, trivial⟩, hS.F htS⟩) hS.2.2 dX6_set_24
      · skip
        have d3 := c3
        rw [i_lt, i_z] at d3
        refine lv_aload_n hx hb dX6_set_13 rfl (lv_at hl 0 rfl) ?_
        refine va_get (D := D) (ci := 6) (v := .ref h3) (C := RX6) (T := TX6) (N := 6) hx hb hts hiX6 hown hK hP 0 rfl rfl 1 (by decide) hf19 (fun _ h9 => h9) rfl dX6_set_14 ?_
        refine pu_i (va_runV (As := []) (rest := []) ⟨hx, hb, hml, hown, hts⟩ (c_X3_hasSystem l D cI cJ cZ h3 b1 b2 c0 (nI n) (nI y) (by first | assumption | omega)) (cwV 0 hts gX6_set_X3_hasSystem rfl rfl rfl (by decide +kernel) ⟨Nat.le_of_ble_eq_true rfl, Nat.le_of_ble_eq_true rfl⟩) ⟨pc_blind, va_recv hK hP (ci := 3) (q0 := 1) rfl rfl, fun U hU hW => ⟨rfl, by rw [hU]; exact hP.sub (ws' := [(h3, .inr (3, [.ref b1, .ref b2, .int (nI n), .int (nI c0), .int (nI y)]))]) [1] rfl, hKN.warm hW⟩⟩ rfl rfl hl.1 rfl (lv_room (Nat.le_of_ble_eq_true rfl)) dX6_set_17 ⟨Nat.le_of_ble_eq_true rfl, Nat.le_of_ble_eq_true rfl⟩) hS hP (fun r4 H locs w4r hP hS => ?_)
        have w4 : B01 r4 (0 ≤ (nI y).toInt ∧ (nI y).toInt < c0) := w4r
        clear w4r
        rcases w4 with ⟨rfl, w4⟩ | ⟨rfl, w4⟩
        · skip
          refine lv_if_ne (tgt := 25) hx hb dX6_set_20 (by decide) (fun c5 => ?_) (fun c5 => ?_)
          · skip
            refine lv_aload_n hx hb dX6_set_25 rfl (lv_at hl 0 rfl) ?_
            refine va_get (D := D) (ci := 6) (v := .ref h3) (C := RX6) (T := TX6) (N := 6) hx hb hts hiX6 hown hK hP 0 rfl rfl 1 (by decide) hf19 (fun _ h9 => h9) rfl dX6_set_26 ?_
            refine lv_iload_n hx hb dX6_set_29 rfl (lv_at hl 1 rfl) ?_
            refine lv_if_ne (tgt := 37) hx hb dX6_set_30 (by decide) (fun c6 => ?_) (fun c6 => ?_)
            · skip
              have e9 := c6
              refine lv_iconst (v := nI 0) hx hb dX6_set_37 (by decide) ?_
              refine lv_iload_n hx hb dX6_set_38 rfl (lv_at hl 2 rfl) ?_
              refine pu_i (va_runV (As := [.int (nI 0), .int ii]) (rest := []) ⟨hx, hb, hml, hown, hts⟩ (c_X3_findLeast_b l D cI cJ cZ h3 b1 b2 n y (nI c0) (nI 0) ii fw (by first | assumption | omega) (by first | assumption | omega)) (cwV 2 hts gX6_set_X3_findLeast rfl rfl rfl (by decide +kernel) ⟨Nat.le_of_ble_eq_true rfl, Nat.le_of_ble_eq_true rfl⟩) ⟨pc_blind, va_recv hK hP (ci := 3) (q0 := 1) rfl rfl, fun U hU hW => ⟨rfl, by rw [hU]; exact hP.sub (ws' := [(h3, .inr (3, [.ref b1, .ref b2, .int (nI n), .int (nI c0), .int (nI y)])), (b1, .inl (cJ, 320, .inr (.inl fw)))]) [1, 2] rfl, hKN.warm hW⟩⟩ rfl rfl hl.1 rfl (lv_room (Nat.le_of_ble_eq_true rfl)) dX6_set_39 ⟨Nat.le_of_ble_eq_true rfl, Nat.le_of_ble_eq_true rfl⟩) hS hP (fun r7 H locs w7r hP hS => ?_)
              have w7 : FL r7 ii (2 ^ n) (lst fw y n (nI 0)) := w7r
              clear w7r
              rw [← hQ]
              exact W.iret (v := r7) hx hb hr (fun tS htS hWS => ⟨⟨r7, (), rfl, by first | exact Or.inl ⟨by omega, by rw [if_pos e9]; exact w7⟩ | exact Or.inl ⟨by omega, by rw [if_neg e9]; exact w7⟩, trivial⟩, hS.F htS⟩) hS.2.2 dX6_set_42
            · skip
              have e9 := c6
              refine lv_iconst (v := nI 1) hx hb dX6_set_33 (by decide) ?_
              refine lv_goto (tgt := 38) hx hb dX6_set_34 (by decide) ?_
              refine lv_iload_n hx hb dX6_set_38 rfl (lv_at hl 2 rfl) ?_
              refine pu_i (va_runV (As := [.int (nI 1), .int ii]) (rest := []) ⟨hx, hb, hml, hown, hts⟩ (c_X3_findLeast_b l D cI cJ cZ h3 b1 b2 n y (nI c0) (nI 1) ii fw (by first | assumption | omega) (by first | assumption | omega)) (cwV 2 hts gX6_set_X3_findLeast rfl rfl rfl (by decide +kernel) ⟨Nat.le_of_ble_eq_true rfl, Nat.le_of_ble_eq_true rfl⟩) ⟨pc_blind, va_recv hK hP (ci := 3) (q0 := 1) rfl rfl, fun U hU hW => ⟨rfl, by rw [hU]; exact hP.sub (ws' := [(h3, .inr (3, [.ref b1, .ref b2, .int (nI n), .int (nI c0), .int (nI y)])), (b1, .inl (cJ, 320, .inr (.inl fw)))]) [1, 2] rfl, hKN.warm hW⟩⟩ rfl rfl hl.1 rfl (lv_room (Nat.le_of_ble_eq_true rfl)) dX6_set_39 ⟨Nat.le_of_ble_eq_true rfl, Nat.le_of_ble_eq_true rfl⟩) hS hP (fun r8 H locs w8r hP hS => ?_)
              have w8 : FL r8 ii (2 ^ n) (lst fw y n (nI 1)) := w8r
              clear w8r
              rw [← hQ]
              exact W.iret (v := r8) hx hb hr (fun tS htS hWS => ⟨⟨r8, (), rfl, by first | exact Or.inl ⟨by omega, by rw [if_pos e9]; exact w8⟩ | exact Or.inl ⟨by omega, by rw [if_neg e9]; exact w8⟩, trivial⟩, hS.F htS⟩) hS.2.2 dX6_set_42
          · exact absurd c5 (by first | decide | exact nz_lt (by omega) | exact fun h => h (nz_ge (by omega)))
        · exact absurd ⟨by omega, by omega⟩ w4
