
def ADX (r : Int32) (c0 : Nat) (fw : Nat → Int64) (P : Prop) (uc : Int32) (uw : Nat → Int64) : Prop := (r = nI c0 ∧ P ∧ uc = nI (c0 + 1)) ∨ (r = -1 ∧ ¬ P ∧ uc = nI c0 ∧ uw = fw)
def rm_c_X6_single_g : Room := { frames := 2, cells := 0, slots := 0, locals := 43 }
set_option maxHeartbeats 400000 in
set_option maxRecDepth 100000 in
theorem c_X6_single_g (l : Launch) (D : va_G) (cI cJ cZ : ClassId) (x0 : Nat) (h4 : Nat) (h3 : Nat) (h2 : Nat) (h1 : Nat) (hB : Nat) (h5 : Nat) (a1 : Nat) (a2 : Nat) (a3 : Nat) (b1 : Nat) (b2 : Nat) (n : Nat) (c0 : Nat) (sn : Int32) (sg : Int32) (ry : Int32) (p0 : Int32) (fw : Nat → Int64) (hn : n ≤ 9) (hc : c0 ≤ 40) : Met l yX6_single wsX6_single rm_c_X6_single_g (pm_ D cI cJ cZ [.ref x0, .int p0] [(x0, .inr (6, [.ref h4, .ref h3, .ref h2, .ref h1, .ref hB, .ref h5])), (h4, .inr (4, [.ref a1, .ref a2, .ref a3, .int (nI n), .int sn, .int sg])), (h3, .inr (3, [.ref b1, .ref b2, .int (nI n), .int (nI c0), .int ry])), (b1, .inl (cJ, 320, .inr (.inl fw)))]) (va_Qi (fun (r : Int32) (u : Int32 × (Nat → Int64)) => ADX r c0 fw ((0 ≤ p0.toInt ∧ p0.toInt < n) ∧ c0 < 40) u.1 u.2) (fun (u : Int32 × (Nat → Int64)) tS => va_P D vwCl [(x0, .inr (6, [.ref h4, .ref h3, .ref h2, .ref h1, .ref hB, .ref h5])), (h4, .inr (4, [.ref a1, .ref a2, .ref a3, .int (nI n), .int sn, .int sg])), (h3, .inr (3, [.ref b1, .ref b2, .int (nI n), .int u.1, .int ry])), (b1, .inl (cJ, 320, .inr (.inl u.2)))] tS.heap) (aA [x0, h4, h3, b1])) 0 0 (aA [x0, h4, h3, b1]) := by
  refine Met.ofW (cc := cX6_single) (maxL := 2) (ret := (some .int)) (by decide) rfl ?_
  intro p e s m args below meth c s₁ B hml hv
  obtain ⟨rfl, hP, hKN, hD0⟩ := hv
  have hK := hKN.1
  have hx := B.exec
  have hb := B.bytes
  have hr := B.returns
  have hts := atoms_spec (ws := wsX6_single) B.pre
  have hown : s.vm.findClass RX6 = some m.cls := findClass_of_methodNamed B.named
  have hlocks := B.notSynchronized
  have hiX6 : ∀ w ∈ wsX60, w ∈ wsX6_single := by decide +kernel
  have hf10 := hts (.fieldLink RX6 10 "LookBench" "shelf" "LLookBench$Shelf;") (by decide +kernel)
  have hf19 := hts (.fieldLink RX6 19 "LookBench" "rules" "LLookBench$Rules;") (by decide +kernel)
  obtain ⟨as, has⟩ : ∃ z : List Nat, z = [x0, h4, h3, b1] := ⟨_, rfl⟩
  have hD := hD0.addr (as := as) (by rw [has]; rfl)
  have hS : va_S (aA as) s.heap s.heap [] := va_S.rf
  have hl := lv_entry ([.ref x0, .int p0]) (n := 2) (Nat.le_of_ble_eq_true rfl)
  rw [lg_entry_eq]
  generalize (lg_sl ([.ref x0, .int p0]) ++ List.replicate (2 - (lg_sl ([.ref x0, .int p0])).length) Slot.unset).toArray = ls at hl ⊢
  have hl : lv_has ls 2 [(0, .ref x0), (1, .int p0)] := hl
  generalize hQ : MQ below _ _ s _ _ _ = Q
  obtain ⟨H, hH⟩ : ∃ z, z = s.heap := ⟨_, rfl⟩
  have hP : va_P D vwCl [(x0, .inr (6, [.ref h4, .ref h3, .ref h2, .ref h1, .ref hB, .ref h5])), (h4, .inr (4, [.ref a1, .ref a2, .ref a3, .int (nI n), .int sn, .int sg])), (h3, .inr (3, [.ref b1, .ref b2, .int (nI n), .int (nI c0), .int ry])), (b1, .inl (cJ, 320, .inr (.inl fw)))] H := by rw [hH]; exact hP
  have hS : va_S (aA as) s.heap H [] := by rw [hH]; exact hS
  refine m_heap hH ?_
  clear hH
  refine lv_aload_n hx hb dX6_single_0 rfl (lv_at hl 0 rfl) ?_
  refine va_get (D := D) (ci := 6) (v := .ref h4) (C := RX6) (T := TX6) (N := 6) hx hb hts hiX6 hown hK hP 0 rfl rfl 0 (by decide) hf10 (fun _ h9 => h9) rfl dX6_single_1 ?_
  refine lv_iload_n hx hb dX6_single_4 rfl (lv_at hl 1 rfl) ?_
  refine pu_i (va_runV (As := [.int p0]) (rest := []) ⟨hx, hb, hml, hown, hts⟩ (c_X4_has l D cI cJ cZ h4 a1 a2 a3 n sn sg p0 (by first | assumption | omega)) (cwV 1 hts gX6_single_X4_has rfl rfl rfl (by decide +kernel) ⟨Nat.le_of_ble_eq_true rfl, Nat.le_of_ble_eq_true rfl⟩) ⟨pc_blind, va_recv hK hP (ci := 4) (q0 := 1) rfl rfl, fun U hU hW => ⟨rfl, by rw [hU]; exact hP.sub (ws' := [(h4, .inr (4, [.ref a1, .ref a2, .ref a3, .int (nI n), .int sn, .int sg]))]) [1] rfl, hKN.warm hW⟩⟩ rfl rfl hl.1 rfl (lv_room (Nat.le_of_ble_eq_true rfl)) dX6_single_5 ⟨Nat.le_of_ble_eq_true rfl, Nat.le_of_ble_eq_true rfl⟩) hS hP (fun r1 H locs w1r hP hS => ?_)
  have w1 : B01 r1 (0 ≤ p0.toInt ∧ p0.toInt < n) := w1r
  clear w1r
  rcases w1 with ⟨rfl, w1⟩ | ⟨rfl, w1⟩
  · skip
    obtain ⟨j9, hj9, rfl⟩ := m_nat w1
    have tj9 : (nI j9).toInt = (j9 : Int) := nI_toInt (by omega)
    refine lv_if_eq (tgt := 32) hx hb dX6_single_8 (by decide) (fun c2 => ?_) (fun c2 => ?_)
    · exact absurd c2 (by first | decide | exact nz_lt (by omega) | exact fun h => h (nz_ge (by omega)))
    · skip
      refine lv_aload_n hx hb dX6_single_11 rfl (lv_at hl 0 rfl) ?_
      refine va_get (D := D) (ci := 6) (v := .ref h3) (C := RX6) (T := TX6) (N := 6) hx hb hts hiX6 hown hK hP 0 rfl rfl 1 (by decide) hf19 (fun _ h9 => h9) rfl dX6_single_12 ?_
      refine pu_i (va_runV (As := []) (rest := []) ⟨hx, hb, hml, hown, hts⟩ (c_X3_hasRoom l D cI cJ cZ h3 b1 b2 c0 (nI n) ry (by first | assumption | omega)) (cwV 0 hts gX6_single_X3_hasRoom rfl rfl rfl (by decide +kernel) ⟨Nat.le_of_ble_eq_true rfl, Nat.le_of_ble_eq_true rfl⟩) ⟨pc_blind, va_recv hK hP (ci := 3) (q0 := 2) rfl rfl, fun U hU hW => ⟨rfl, by rw [hU]; exact hP.sub (ws' := [(h3, .inr (3, [.ref b1, .ref b2, .int (nI n), .int (nI c0), .int ry]))]) [2] rfl, hKN.warm hW⟩⟩ rfl rfl hl.1 rfl (lv_room (Nat.le_of_ble_eq_true rfl)) dX6_single_15 ⟨Nat.le_of_ble_eq_true rfl, Nat.le_of_ble_eq_true rfl⟩) hS hP (fun r3 H locs w3r hP hS => ?_)
      have w3 : B01 r3 (c0 < 40) := w3r
      clear w3r
      rcases w3 with ⟨rfl, w3⟩ | ⟨rfl, w3⟩
      · skip
        refine lv_if_eq (tgt := 32) hx hb dX6_single_18 (by decide) (fun c4 => ?_) (fun c4 => ?_)
        · exact absurd c4 (by first | decide | exact nz_lt (by omega) | exact fun h => h (nz_ge (by omega)))
        · skip
          refine lv_aload_n hx hb dX6_single_21 rfl (lv_at hl 0 rfl) ?_
          refine va_get (D := D) (ci := 6) (v := .ref h3) (C := RX6) (T := TX6) (N := 6) hx hb hts hiX6 hown hK hP 0 rfl rfl 1 (by decide) hf19 (fun _ h9 => h9) rfl dX6_single_22 ?_
          refine lv_iload_n hx hb dX6_single_25 rfl (lv_at hl 1 rfl) ?_
          refine mu_i (n := 4) (wc := [(h3, .inr (3, [.ref b1, .ref b2, .int (nI n), .int (nI c0), .int ry])), (b1, .inl (cJ, 320, .inr (.inl fw)))]) (va_runV (As := [.int (nI j9)]) (rest := []) ⟨hx, hb, hml, hown, hts⟩ (c_X3_addSingle l D cI cJ cZ h3 b1 b2 n c0 j9 ry fw (by first | assumption | omega) (by first | assumption | omega) (by first | assumption | omega)) (cwV 1 hts gX6_single_X3_addSingle rfl rfl rfl (by decide +kernel) ⟨Nat.le_of_ble_eq_true rfl, Nat.le_of_ble_eq_true rfl⟩) ⟨pm_blind, va_recv hK hP (ci := 3) (q0 := 2) rfl rfl, fun U hU hW => ⟨rfl, by rw [hU]; exact hP.sub (ws' := [(h3, .inr (3, [.ref b1, .ref b2, .int (nI n), .int (nI c0), .int ry])), (b1, .inl (cJ, 320, .inr (.inl fw)))]) [2, 3] rfl, hKN.warm hW, (hD.sub (ws' := [(h3, .inr (3, [.ref b1, .ref b2, .int (nI n), .int (nI c0), .int ry])), (b1, .inl (cJ, 320, .inr (.inl fw)))]) [2, 3] (by decide) rfl).weaken (fun _ _ _ _ => trivial)⟩⟩ rfl rfl hl.1 rfl (lv_room (Nat.le_of_ble_eq_true rfl)) dX6_single_26 ⟨Nat.le_of_ble_eq_true rfl, Nat.le_of_ble_eq_true rfl⟩) hS hP hD (fun (u : (Nat → Int64)) => [(x0, .inr (6, [.ref h4, .ref h3, .ref h2, .ref h1, .ref hB, .ref h5])), (h4, .inr (4, [.ref a1, .ref a2, .ref a3, .int (nI n), .int sn, .int sg])), (h3, .inr (3, [.ref b1, .ref b2, .int (nI n), .int (nI (c0 + 1)), .int ry])), (b1, .inl (cJ, 320, .inr (.inl u)))]) [2, 3] [0, 1] rfl rfl (fun _ => rfl) (fun _ => rfl) (fun _ => rfl) (fun _ => rfl) (by decide) (by decide) (fun r5 u5 H locs w5r hP hD hS => ?_)
          obtain ⟨u5_uw, rfl⟩ : ∃ z, z = u5 := ⟨_, rfl⟩
          have hP : va_P D vwCl [(x0, .inr (6, [.ref h4, .ref h3, .ref h2, .ref h1, .ref hB, .ref h5])), (h4, .inr (4, [.ref a1, .ref a2, .ref a3, .int (nI n), .int sn, .int sg])), (h3, .inr (3, [.ref b1, .ref b2, .int (nI n), .int (nI (c0 + 1)), .int ry])), (b1, .inl (cJ, 320, .inr (.inl u5_uw)))] H := hP
          have hD : va_D (aA as) [(x0, .inr (6, [.ref h4, .ref h3, .ref h2, .ref h1, .ref hB, .ref h5])), (h4, .inr (4, [.ref a1, .ref a2, .ref a3, .int (nI n), .int sn, .int sg])), (h3, .inr (3, [.ref b1, .ref b2, .int (nI n), .int (nI (c0 + 1)), .int ry])), (b1, .inl (cJ, 320, .inr (.inl u5_uw)))] := hD
          have w5 : r5 = nI c0 := w5r
          clear w5r
          refine lv_goto (tgt := 33) hx hb dX6_single_29 (by decide) ?_
          rw [← hQ]
          exact W.iret (v := r5) hx hb hr (fun tS htS hWS => ⟨⟨r5, (nI (c0 + 1), u5_uw), rfl, by first | exact Or.inr ⟨rfl, by omega, rfl, rfl⟩ | exact Or.inl ⟨by assumption, by omega, rfl⟩, m_at htS hP⟩, by rw [← has]; exact hS.F htS⟩) (by rw [← has]; exact hS.2.2) dX6_single_33
      · skip
        refine lv_if_eq (tgt := 32) hx hb dX6_single_18 (by decide) (fun c6 => ?_) (fun c6 => ?_)
        · skip
          refine lv_iconst (v := (-1 : Int32)) hx hb dX6_single_32 (by decide) ?_
          rw [← hQ]
          exact W.iret (v := (-1 : Int32)) hx hb hr (fun tS htS hWS => ⟨⟨(-1 : Int32), (nI c0, fw), rfl, by first | exact Or.inr ⟨rfl, by omega, rfl, rfl⟩ | exact Or.inl ⟨by assumption, by omega, rfl⟩, m_at htS hP⟩, by rw [← has]; exact hS.F htS⟩) (by rw [← has]; exact hS.2.2) dX6_single_33
        · exact absurd c6 (by first | decide | exact nz_lt (by omega) | exact fun h => h (nz_ge (by omega)))
  · skip
    refine lv_if_eq (tgt := 32) hx hb dX6_single_8 (by decide) (fun c7 => ?_) (fun c7 => ?_)
    · skip
      refine lv_iconst (v := (-1 : Int32)) hx hb dX6_single_32 (by decide) ?_
      rw [← hQ]
      exact W.iret (v := (-1 : Int32)) hx hb hr (fun tS htS hWS => ⟨⟨(-1 : Int32), (nI c0, fw), rfl, by first | exact Or.inr ⟨rfl, by omega, rfl, rfl⟩ | exact Or.inl ⟨by assumption, by omega, rfl⟩, m_at htS hP⟩, by rw [← has]; exact hS.F htS⟩) (by rw [← has]; exact hS.2.2) dX6_single_33
    · exact absurd c7 (by first | decide | exact nz_lt (by omega) | exact fun h => h (nz_ge (by omega)))
def rm_c_X6_row_g : Room := { frames := 1, cells := 0, slots := 0, locals := 23 }
set_option maxHeartbeats 400000 in
set_option maxRecDepth 100000 in
theorem c_X6_row_g (l : Launch) (D : va_G) (cI cJ cZ : ClassId) (x0 : Nat) (h4 : Nat) (h3 : Nat) (h2 : Nat) (h1 : Nat) (hB : Nat) (h5 : Nat) (b1 : Nat) (b2 : Nat) (c0 : Nat) (pt : Int32) (ry : Int32) (p0 : Int32) (p1 : Int32) (fw : Nat → Int64) (hc : c0 ≤ 40) : Met l yX6_row wsX6_row rm_c_X6_row_g (pm_ D cI cJ cZ [.ref x0, .int p0, .int p1] [(x0, .inr (6, [.ref h4, .ref h3, .ref h2, .ref h1, .ref hB, .ref h5])), (h3, .inr (3, [.ref b1, .ref b2, .int pt, .int (nI c0), .int ry])), (b1, .inl (cJ, 320, .inr (.inl fw)))]) (va_Qi (fun (r : Int32) (u : Int32 × (Nat → Int64)) => ADX r c0 fw ((0 ≤ p0.toInt ∧ p0.toInt < c0) ∧ (0 ≤ p1.toInt ∧ p1.toInt < c0) ∧ c0 < 40) u.1 u.2) (fun (u : Int32 × (Nat → Int64)) tS => va_P D vwCl [(x0, .inr (6, [.ref h4, .ref h3, .ref h2, .ref h1, .ref hB, .ref h5])), (h3, .inr (3, [.ref b1, .ref b2, .int pt, .int u.1, .int ry])), (b1, .inl (cJ, 320, .inr (.inl u.2)))] tS.heap) (aA [x0, h3, b1])) 0 0 (aA [x0, h3, b1]) := by
  refine Met.ofW (cc := cX6_row) (maxL := 3) (ret := (some .int)) (by decide) rfl ?_
  intro p e s m args below meth c s₁ B hml hv
  obtain ⟨rfl, hP, hKN, hD0⟩ := hv
  have hK := hKN.1
  have hx := B.exec
  have hb := B.bytes
  have hr := B.returns
  have hts := atoms_spec (ws := wsX6_row) B.pre
  have hown : s.vm.findClass RX6 = some m.cls := findClass_of_methodNamed B.named
  have hlocks := B.notSynchronized
  have hiX6 : ∀ w ∈ wsX60, w ∈ wsX6_row := by decide +kernel
  have hf19 := hts (.fieldLink RX6 19 "LookBench" "rules" "LLookBench$Rules;") (by decide +kernel)
  obtain ⟨as, has⟩ : ∃ z : List Nat, z = [x0, h3, b1] := ⟨_, rfl⟩
  have hD := hD0.addr (as := as) (by rw [has]; rfl)
  have hS : va_S (aA as) s.heap s.heap [] := va_S.rf
  have hl := lv_entry ([.ref x0, .int p0, .int p1]) (n := 3) (Nat.le_of_ble_eq_true rfl)
  rw [lg_entry_eq]
  generalize (lg_sl ([.ref x0, .int p0, .int p1]) ++ List.replicate (3 - (lg_sl ([.ref x0, .int p0, .int p1])).length) Slot.unset).toArray = ls at hl ⊢
  have hl : lv_has ls 3 [(0, .ref x0), (1, .int p0), (2, .int p1)] := hl
  generalize hQ : MQ below _ _ s _ _ _ = Q
  obtain ⟨H, hH⟩ : ∃ z, z = s.heap := ⟨_, rfl⟩
  have hP : va_P D vwCl [(x0, .inr (6, [.ref h4, .ref h3, .ref h2, .ref h1, .ref hB, .ref h5])), (h3, .inr (3, [.ref b1, .ref b2, .int pt, .int (nI c0), .int ry])), (b1, .inl (cJ, 320, .inr (.inl fw)))] H := by rw [hH]; exact hP
  have hS : va_S (aA as) s.heap H [] := by rw [hH]; exact hS
  refine m_heap hH ?_
  clear hH
  refine lv_aload_n hx hb dX6_row_0 rfl (lv_at hl 0 rfl) ?_
  refine va_get (D := D) (ci := 6) (v := .ref h3) (C := RX6) (T := TX6) (N := 6) hx hb hts hiX6 hown hK hP 0 rfl rfl 1 (by decide) hf19 (fun _ h9 => h9) rfl dX6_row_1 ?_
  refine lv_iload_n hx hb dX6_row_4 rfl (lv_at hl 1 rfl) ?_
  refine pu_i (va_runV (As := [.int p0]) (rest := []) ⟨hx, hb, hml, hown, hts⟩ (c_X3_has l D cI cJ cZ h3 b1 b2 c0 pt ry p0 (by first | assumption | omega)) (cwV 1 hts gX6_row_X3_has rfl rfl rfl (by decide +kernel) ⟨Nat.le_of_ble_eq_true rfl, Nat.le_of_ble_eq_true rfl⟩) ⟨pc_blind, va_recv hK hP (ci := 3) (q0 := 1) rfl rfl, fun U hU hW => ⟨rfl, by rw [hU]; exact hP.sub (ws' := [(h3, .inr (3, [.ref b1, .ref b2, .int pt, .int (nI c0), .int ry]))]) [1] rfl, hKN.warm hW⟩⟩ rfl rfl hl.1 rfl (lv_room (Nat.le_of_ble_eq_true rfl)) dX6_row_5 ⟨Nat.le_of_ble_eq_true rfl, Nat.le_of_ble_eq_true rfl⟩) hS hP (fun r1 H locs w1r hP hS => ?_)
  have w1 : B01 r1 (0 ≤ p0.toInt ∧ p0.toInt < c0) := w1r
  clear w1r
  rcases w1 with ⟨rfl, w1⟩ | ⟨rfl, w1⟩
  · skip
    obtain ⟨j9, hj9, rfl⟩ := m_nat w1
    have tj9 : (nI j9).toInt = (j9 : Int) := nI_toInt (by omega)
    refine lv_if_eq (tgt := 44) hx hb dX6_row_8 (by decide) (fun c2 => ?_) (fun c2 => ?_)
    · exact absurd c2 (by first | decide | exact nz_lt (by omega) | exact fun h => h (nz_ge (by omega)))
    · skip
      refine lv_aload_n hx hb dX6_row_11 rfl (lv_at hl 0 rfl) ?_
      refine va_get (D := D) (ci := 6) (v := .ref h3) (C := RX6) (T := TX6) (N := 6) hx hb hts hiX6 hown hK hP 0 rfl rfl 1 (by decide) hf19 (fun _ h9 => h9) rfl dX6_row_12 ?_
      refine lv_iload_n hx hb dX6_row_15 rfl (lv_at hl 2 rfl) ?_
      refine pu_i (va_runV (As := [.int p1]) (rest := []) ⟨hx, hb, hml, hown, hts⟩ (c_X3_has l D cI cJ cZ h3 b1 b2 c0 pt ry p1 (by first | assumption | omega)) (cwV 1 hts gX6_row_X3_has rfl rfl rfl (by decide +kernel) ⟨Nat.le_of_ble_eq_true rfl, Nat.le_of_ble_eq_true rfl⟩) ⟨pc_blind, va_recv hK hP (ci := 3) (q0 := 1) rfl rfl, fun U hU hW => ⟨rfl, by rw [hU]; exact hP.sub (ws' := [(h3, .inr (3, [.ref b1, .ref b2, .int pt, .int (nI c0), .int ry]))]) [1] rfl, hKN.warm hW⟩⟩ rfl rfl hl.1 rfl (lv_room (Nat.le_of_ble_eq_true rfl)) dX6_row_16 ⟨Nat.le_of_ble_eq_true rfl, Nat.le_of_ble_eq_true rfl⟩) hS hP (fun r3 H locs w3r hP hS => ?_)
      have w3 : B01 r3 (0 ≤ p1.toInt ∧ p1.toInt < c0) := w3r
      clear w3r
      rcases w3 with ⟨rfl, w3⟩ | ⟨rfl, w3⟩
      · skip
        obtain ⟨j8, hj8, rfl⟩ := m_nat w3
        have tj8 : (nI j8).toInt = (j8 : Int) := nI_toInt (by omega)
        refine lv_if_eq (tgt := 44) hx hb dX6_row_19 (by decide) (fun c4 => ?_) (fun c4 => ?_)
        · exact absurd c4 (by first | decide | exact nz_lt (by omega) | exact fun h => h (nz_ge (by omega)))
        · skip
          refine lv_aload_n hx hb dX6_row_22 rfl (lv_at hl 0 rfl) ?_
          refine va_get (D := D) (ci := 6) (v := .ref h3) (C := RX6) (T := TX6) (N := 6) hx hb hts hiX6 hown hK hP 0 rfl rfl 1 (by decide) hf19 (fun _ h9 => h9) rfl dX6_row_23 ?_
          refine pu_i (va_runV (As := []) (rest := []) ⟨hx, hb, hml, hown, hts⟩ (c_X3_hasRoom l D cI cJ cZ h3 b1 b2 c0 pt ry (by first | assumption | omega)) (cwV 0 hts gX6_row_X3_hasRoom rfl rfl rfl (by decide +kernel) ⟨Nat.le_of_ble_eq_true rfl, Nat.le_of_ble_eq_true rfl⟩) ⟨pc_blind, va_recv hK hP (ci := 3) (q0 := 1) rfl rfl, fun U hU hW => ⟨rfl, by rw [hU]; exact hP.sub (ws' := [(h3, .inr (3, [.ref b1, .ref b2, .int pt, .int (nI c0), .int ry]))]) [1] rfl, hKN.warm hW⟩⟩ rfl rfl hl.1 rfl (lv_room (Nat.le_of_ble_eq_true rfl)) dX6_row_26 ⟨Nat.le_of_ble_eq_true rfl, Nat.le_of_ble_eq_true rfl⟩) hS hP (fun r5 H locs w5r hP hS => ?_)
          have w5 : B01 r5 (c0 < 40) := w5r
          clear w5r
          rcases w5 with ⟨rfl, w5⟩ | ⟨rfl, w5⟩
          · skip
            refine lv_if_eq (tgt := 44) hx hb dX6_row_29 (by decide) (fun c6 => ?_) (fun c6 => ?_)
            · exact absurd c6 (by first | decide | exact nz_lt (by omega) | exact fun h => h (nz_ge (by omega)))
            · skip
              refine lv_aload_n hx hb dX6_row_32 rfl (lv_at hl 0 rfl) ?_
              refine va_get (D := D) (ci := 6) (v := .ref h3) (C := RX6) (T := TX6) (N := 6) hx hb hts hiX6 hown hK hP 0 rfl rfl 1 (by decide) hf19 (fun _ h9 => h9) rfl dX6_row_33 ?_
              refine lv_iload_n hx hb dX6_row_36 rfl (lv_at hl 1 rfl) ?_
              refine lv_iload_n hx hb dX6_row_37 rfl (lv_at hl 2 rfl) ?_
              refine mu_i (n := 3) (wc := [(h3, .inr (3, [.ref b1, .ref b2, .int pt, .int (nI c0), .int ry])), (b1, .inl (cJ, 320, .inr (.inl fw)))]) (va_runV (As := [.int (nI j9), .int (nI j8)]) (rest := []) ⟨hx, hb, hml, hown, hts⟩ (c_X3_addRow l D cI cJ cZ h3 b1 b2 c0 j9 j8 pt ry fw (by first | assumption | omega) (by first | assumption | omega) (by first | assumption | omega)) (cwV 2 hts gX6_row_X3_addRow rfl rfl rfl (by decide +kernel) ⟨Nat.le_of_ble_eq_true rfl, Nat.le_of_ble_eq_true rfl⟩) ⟨pm_blind, va_recv hK hP (ci := 3) (q0 := 1) rfl rfl, fun U hU hW => ⟨rfl, by rw [hU]; exact hP.sub (ws' := [(h3, .inr (3, [.ref b1, .ref b2, .int pt, .int (nI c0), .int ry])), (b1, .inl (cJ, 320, .inr (.inl fw)))]) [1, 2] rfl, hKN.warm hW, (hD.sub (ws' := [(h3, .inr (3, [.ref b1, .ref b2, .int pt, .int (nI c0), .int ry])), (b1, .inl (cJ, 320, .inr (.inl fw)))]) [1, 2] (by decide) rfl).weaken (fun _ _ _ _ => trivial)⟩⟩ rfl rfl hl.1 rfl (lv_room (Nat.le_of_ble_eq_true rfl)) dX6_row_38 ⟨Nat.le_of_ble_eq_true rfl, Nat.le_of_ble_eq_true rfl⟩) hS hP hD (fun (u : (Nat → Int64)) => [(x0, .inr (6, [.ref h4, .ref h3, .ref h2, .ref h1, .ref hB, .ref h5])), (h3, .inr (3, [.ref b1, .ref b2, .int pt, .int (nI (c0 + 1)), .int ry])), (b1, .inl (cJ, 320, .inr (.inl u)))]) [1, 2] [0] rfl rfl (fun _ => rfl) (fun _ => rfl) (fun _ => rfl) (fun _ => rfl) (by decide) (by decide) (fun r7 u7 H locs w7r hP hD hS => ?_)
              obtain ⟨u7_uw, rfl⟩ : ∃ z, z = u7 := ⟨_, rfl⟩
              have hP : va_P D vwCl [(x0, .inr (6, [.ref h4, .ref h3, .ref h2, .ref h1, .ref hB, .ref h5])), (h3, .inr (3, [.ref b1, .ref b2, .int pt, .int (nI (c0 + 1)), .int ry])), (b1, .inl (cJ, 320, .inr (.inl u7_uw)))] H := hP
              have hD : va_D (aA as) [(x0, .inr (6, [.ref h4, .ref h3, .ref h2, .ref h1, .ref hB, .ref h5])), (h3, .inr (3, [.ref b1, .ref b2, .int pt, .int (nI (c0 + 1)), .int ry])), (b1, .inl (cJ, 320, .inr (.inl u7_uw)))] := hD
              have w7 : r7 = nI c0 := w7r
              clear w7r
              refine lv_goto (tgt := 45) hx hb dX6_row_41 (by decide) ?_
              rw [← hQ]
              exact W.iret (v := r7) hx hb hr (fun tS htS hWS => ⟨⟨r7, (nI (c0 + 1), u7_uw), rfl, by first | exact Or.inr ⟨rfl, by omega, rfl, rfl⟩ | exact Or.inl ⟨by assumption, by omega, rfl⟩, m_at htS hP⟩, by rw [← has]; exact hS.F htS⟩) (by rw [← has]; exact hS.2.2) dX6_row_45
          · skip
            refine lv_if_eq (tgt := 44) hx hb dX6_row_29 (by decide) (fun c8 => ?_) (fun c8 => ?_)
            · skip
              refine lv_iconst (v := (-1 : Int32)) hx hb dX6_row_44 (by decide) ?_
              rw [← hQ]
              exact W.iret (v := (-1 : Int32)) hx hb hr (fun tS htS hWS => ⟨⟨(-1 : Int32), (nI c0, fw), rfl, by first | exact Or.inr ⟨rfl, by omega, rfl, rfl⟩ | exact Or.inl ⟨by assumption, by omega, rfl⟩, m_at htS hP⟩, by rw [← has]; exact hS.F htS⟩) (by rw [← has]; exact hS.2.2) dX6_row_45
            · exact absurd c8 (by first | decide | exact nz_lt (by omega) | exact fun h => h (nz_ge (by omega)))
      · skip
        refine lv_if_eq (tgt := 44) hx hb dX6_row_19 (by decide) (fun c9 => ?_) (fun c9 => ?_)
        · skip
          refine lv_iconst (v := (-1 : Int32)) hx hb dX6_row_44 (by decide) ?_
          rw [← hQ]
          exact W.iret (v := (-1 : Int32)) hx hb hr (fun tS htS hWS => ⟨⟨(-1 : Int32), (nI c0, fw), rfl, by first | exact Or.inr ⟨rfl, by omega, rfl, rfl⟩ | exact Or.inl ⟨by assumption, by omega, rfl⟩, m_at htS hP⟩, by rw [← has]; exact hS.F htS⟩) (by rw [← has]; exact hS.2.2) dX6_row_45
        · exact absurd c9 (by first | decide | exact nz_lt (by omega) | exact fun h => h (nz_ge (by omega)))
  · skip
    refine lv_if_eq (tgt := 44) hx hb dX6_row_8 (by decide) (fun c10 => ?_) (fun c10 => ?_)
    · skip
      refine lv_iconst (v := (-1 : Int32)) hx hb dX6_row_44 (by decide) ?_
      rw [← hQ]
      exact W.iret (v := (-1 : Int32)) hx hb hr (fun tS htS hWS => ⟨⟨(-1 : Int32), (nI c0, fw), rfl, by first | exact Or.inr ⟨rfl, by omega, rfl, rfl⟩ | exact Or.inl ⟨by assumption, by omega, rfl⟩, m_at htS hP⟩, by rw [← has]; exact hS.F htS⟩) (by rw [← has]; exact hS.2.2) dX6_row_45
    · exact absurd c10 (by first | decide | exact nz_lt (by omega) | exact fun h => h (nz_ge (by omega)))
def rm_c_X6_side_g : Room := { frames := 1, cells := 0, slots := 0, locals := 23 }
set_option maxHeartbeats 400000 in
set_option maxRecDepth 100000 in
theorem c_X6_side_g (l : Launch) (D : va_G) (cI cJ cZ : ClassId) (x0 : Nat) (h4 : Nat) (h3 : Nat) (h2 : Nat) (h1 : Nat) (hB : Nat) (h5 : Nat) (b1 : Nat) (b2 : Nat) (c0 : Nat) (pt : Int32) (ry : Int32) (p0 : Int32) (p1 : Int32) (fw : Nat → Int64) (hc : c0 ≤ 40) : Met l yX6_side wsX6_side rm_c_X6_side_g (pm_ D cI cJ cZ [.ref x0, .int p0, .int p1] [(x0, .inr (6, [.ref h4, .ref h3, .ref h2, .ref h1, .ref hB, .ref h5])), (h3, .inr (3, [.ref b1, .ref b2, .int pt, .int (nI c0), .int ry])), (b1, .inl (cJ, 320, .inr (.inl fw)))]) (va_Qi (fun (r : Int32) (u : Int32 × (Nat → Int64)) => ADX r c0 fw ((0 ≤ p0.toInt ∧ p0.toInt < c0) ∧ (0 ≤ p1.toInt ∧ p1.toInt < c0) ∧ c0 < 40) u.1 u.2) (fun (u : Int32 × (Nat → Int64)) tS => va_P D vwCl [(x0, .inr (6, [.ref h4, .ref h3, .ref h2, .ref h1, .ref hB, .ref h5])), (h3, .inr (3, [.ref b1, .ref b2, .int pt, .int u.1, .int ry])), (b1, .inl (cJ, 320, .inr (.inl u.2)))] tS.heap) (aA [x0, h3, b1])) 0 0 (aA [x0, h3, b1]) := by
  refine Met.ofW (cc := cX6_side) (maxL := 3) (ret := (some .int)) (by decide) rfl ?_
  intro p e s m args below meth c s₁ B hml hv
  obtain ⟨rfl, hP, hKN, hD0⟩ := hv
  have hK := hKN.1
  have hx := B.exec
  have hb := B.bytes
  have hr := B.returns
  have hts := atoms_spec (ws := wsX6_side) B.pre
  have hown : s.vm.findClass RX6 = some m.cls := findClass_of_methodNamed B.named
  have hlocks := B.notSynchronized
  have hiX6 : ∀ w ∈ wsX60, w ∈ wsX6_side := by decide +kernel
  have hf19 := hts (.fieldLink RX6 19 "LookBench" "rules" "LLookBench$Rules;") (by decide +kernel)
  obtain ⟨as, has⟩ : ∃ z : List Nat, z = [x0, h3, b1] := ⟨_, rfl⟩
  have hD := hD0.addr (as := as) (by rw [has]; rfl)
  have hS : va_S (aA as) s.heap s.heap [] := va_S.rf
  have hl := lv_entry ([.ref x0, .int p0, .int p1]) (n := 3) (Nat.le_of_ble_eq_true rfl)
  rw [lg_entry_eq]
  generalize (lg_sl ([.ref x0, .int p0, .int p1]) ++ List.replicate (3 - (lg_sl ([.ref x0, .int p0, .int p1])).length) Slot.unset).toArray = ls at hl ⊢
  have hl : lv_has ls 3 [(0, .ref x0), (1, .int p0), (2, .int p1)] := hl
  generalize hQ : MQ below _ _ s _ _ _ = Q
  obtain ⟨H, hH⟩ : ∃ z, z = s.heap := ⟨_, rfl⟩
  have hP : va_P D vwCl [(x0, .inr (6, [.ref h4, .ref h3, .ref h2, .ref h1, .ref hB, .ref h5])), (h3, .inr (3, [.ref b1, .ref b2, .int pt, .int (nI c0), .int ry])), (b1, .inl (cJ, 320, .inr (.inl fw)))] H := by rw [hH]; exact hP
  have hS : va_S (aA as) s.heap H [] := by rw [hH]; exact hS
  refine m_heap hH ?_
  clear hH
  refine lv_aload_n hx hb dX6_side_0 rfl (lv_at hl 0 rfl) ?_
  refine va_get (D := D) (ci := 6) (v := .ref h3) (C := RX6) (T := TX6) (N := 6) hx hb hts hiX6 hown hK hP 0 rfl rfl 1 (by decide) hf19 (fun _ h9 => h9) rfl dX6_side_1 ?_
  refine lv_iload_n hx hb dX6_side_4 rfl (lv_at hl 1 rfl) ?_
  refine pu_i (va_runV (As := [.int p0]) (rest := []) ⟨hx, hb, hml, hown, hts⟩ (c_X3_has l D cI cJ cZ h3 b1 b2 c0 pt ry p0 (by first | assumption | omega)) (cwV 1 hts gX6_side_X3_has rfl rfl rfl (by decide +kernel) ⟨Nat.le_of_ble_eq_true rfl, Nat.le_of_ble_eq_true rfl⟩) ⟨pc_blind, va_recv hK hP (ci := 3) (q0 := 1) rfl rfl, fun U hU hW => ⟨rfl, by rw [hU]; exact hP.sub (ws' := [(h3, .inr (3, [.ref b1, .ref b2, .int pt, .int (nI c0), .int ry]))]) [1] rfl, hKN.warm hW⟩⟩ rfl rfl hl.1 rfl (lv_room (Nat.le_of_ble_eq_true rfl)) dX6_side_5 ⟨Nat.le_of_ble_eq_true rfl, Nat.le_of_ble_eq_true rfl⟩) hS hP (fun r1 H locs w1r hP hS => ?_)
  have w1 : B01 r1 (0 ≤ p0.toInt ∧ p0.toInt < c0) := w1r
  clear w1r
  rcases w1 with ⟨rfl, w1⟩ | ⟨rfl, w1⟩
  · skip
    obtain ⟨j9, hj9, rfl⟩ := m_nat w1
    have tj9 : (nI j9).toInt = (j9 : Int) := nI_toInt (by omega)
    refine lv_if_eq (tgt := 44) hx hb dX6_side_8 (by decide) (fun c2 => ?_) (fun c2 => ?_)
    · exact absurd c2 (by first | decide | exact nz_lt (by omega) | exact fun h => h (nz_ge (by omega)))
    · skip
      refine lv_aload_n hx hb dX6_side_11 rfl (lv_at hl 0 rfl) ?_
      refine va_get (D := D) (ci := 6) (v := .ref h3) (C := RX6) (T := TX6) (N := 6) hx hb hts hiX6 hown hK hP 0 rfl rfl 1 (by decide) hf19 (fun _ h9 => h9) rfl dX6_side_12 ?_
      refine lv_iload_n hx hb dX6_side_15 rfl (lv_at hl 2 rfl) ?_
      refine pu_i (va_runV (As := [.int p1]) (rest := []) ⟨hx, hb, hml, hown, hts⟩ (c_X3_has l D cI cJ cZ h3 b1 b2 c0 pt ry p1 (by first | assumption | omega)) (cwV 1 hts gX6_side_X3_has rfl rfl rfl (by decide +kernel) ⟨Nat.le_of_ble_eq_true rfl, Nat.le_of_ble_eq_true rfl⟩) ⟨pc_blind, va_recv hK hP (ci := 3) (q0 := 1) rfl rfl, fun U hU hW => ⟨rfl, by rw [hU]; exact hP.sub (ws' := [(h3, .inr (3, [.ref b1, .ref b2, .int pt, .int (nI c0), .int ry]))]) [1] rfl, hKN.warm hW⟩⟩ rfl rfl hl.1 rfl (lv_room (Nat.le_of_ble_eq_true rfl)) dX6_side_16 ⟨Nat.le_of_ble_eq_true rfl, Nat.le_of_ble_eq_true rfl⟩) hS hP (fun r3 H locs w3r hP hS => ?_)
      have w3 : B01 r3 (0 ≤ p1.toInt ∧ p1.toInt < c0) := w3r
      clear w3r
      rcases w3 with ⟨rfl, w3⟩ | ⟨rfl, w3⟩
      · skip
        obtain ⟨j8, hj8, rfl⟩ := m_nat w3
        have tj8 : (nI j8).toInt = (j8 : Int) := nI_toInt (by omega)
        refine lv_if_eq (tgt := 44) hx hb dX6_side_19 (by decide) (fun c4 => ?_) (fun c4 => ?_)
        · exact absurd c4 (by first | decide | exact nz_lt (by omega) | exact fun h => h (nz_ge (by omega)))
        · skip
          refine lv_aload_n hx hb dX6_side_22 rfl (lv_at hl 0 rfl) ?_
          refine va_get (D := D) (ci := 6) (v := .ref h3) (C := RX6) (T := TX6) (N := 6) hx hb hts hiX6 hown hK hP 0 rfl rfl 1 (by decide) hf19 (fun _ h9 => h9) rfl dX6_side_23 ?_
          refine pu_i (va_runV (As := []) (rest := []) ⟨hx, hb, hml, hown, hts⟩ (c_X3_hasRoom l D cI cJ cZ h3 b1 b2 c0 pt ry (by first | assumption | omega)) (cwV 0 hts gX6_side_X3_hasRoom rfl rfl rfl (by decide +kernel) ⟨Nat.le_of_ble_eq_true rfl, Nat.le_of_ble_eq_true rfl⟩) ⟨pc_blind, va_recv hK hP (ci := 3) (q0 := 1) rfl rfl, fun U hU hW => ⟨rfl, by rw [hU]; exact hP.sub (ws' := [(h3, .inr (3, [.ref b1, .ref b2, .int pt, .int (nI c0), .int ry]))]) [1] rfl, hKN.warm hW⟩⟩ rfl rfl hl.1 rfl (lv_room (Nat.le_of_ble_eq_true rfl)) dX6_side_26 ⟨Nat.le_of_ble_eq_true rfl, Nat.le_of_ble_eq_true rfl⟩) hS hP (fun r5 H locs w5r hP hS => ?_)
          have w5 : B01 r5 (c0 < 40) := w5r
          clear w5r
          rcases w5 with ⟨rfl, w5⟩ | ⟨rfl, w5⟩
          · skip
            refine lv_if_eq (tgt := 44) hx hb dX6_side_29 (by decide) (fun c6 => ?_) (fun c6 => ?_)
            · exact absurd c6 (by first | decide | exact nz_lt (by omega) | exact fun h => h (nz_ge (by omega)))
            · skip
              refine lv_aload_n hx hb dX6_side_32 rfl (lv_at hl 0 rfl) ?_
              refine va_get (D := D) (ci := 6) (v := .ref h3) (C := RX6) (T := TX6) (N := 6) hx hb hts hiX6 hown hK hP 0 rfl rfl 1 (by decide) hf19 (fun _ h9 => h9) rfl dX6_side_33 ?_
              refine lv_iload_n hx hb dX6_side_36 rfl (lv_at hl 1 rfl) ?_
              refine lv_iload_n hx hb dX6_side_37 rfl (lv_at hl 2 rfl) ?_
              refine mu_i (n := 3) (wc := [(h3, .inr (3, [.ref b1, .ref b2, .int pt, .int (nI c0), .int ry])), (b1, .inl (cJ, 320, .inr (.inl fw)))]) (va_runV (As := [.int (nI j9), .int (nI j8)]) (rest := []) ⟨hx, hb, hml, hown, hts⟩ (c_X3_addSide l D cI cJ cZ h3 b1 b2 c0 j9 j8 pt ry fw (by first | assumption | omega) (by first | assumption | omega) (by first | assumption | omega)) (cwV 2 hts gX6_side_X3_addSide rfl rfl rfl (by decide +kernel) ⟨Nat.le_of_ble_eq_true rfl, Nat.le_of_ble_eq_true rfl⟩) ⟨pm_blind, va_recv hK hP (ci := 3) (q0 := 1) rfl rfl, fun U hU hW => ⟨rfl, by rw [hU]; exact hP.sub (ws' := [(h3, .inr (3, [.ref b1, .ref b2, .int pt, .int (nI c0), .int ry])), (b1, .inl (cJ, 320, .inr (.inl fw)))]) [1, 2] rfl, hKN.warm hW, (hD.sub (ws' := [(h3, .inr (3, [.ref b1, .ref b2, .int pt, .int (nI c0), .int ry])), (b1, .inl (cJ, 320, .inr (.inl fw)))]) [1, 2] (by decide) rfl).weaken (fun _ _ _ _ => trivial)⟩⟩ rfl rfl hl.1 rfl (lv_room (Nat.le_of_ble_eq_true rfl)) dX6_side_38 ⟨Nat.le_of_ble_eq_true rfl, Nat.le_of_ble_eq_true rfl⟩) hS hP hD (fun (u : (Nat → Int64)) => [(x0, .inr (6, [.ref h4, .ref h3, .ref h2, .ref h1, .ref hB, .ref h5])), (h3, .inr (3, [.ref b1, .ref b2, .int pt, .int (nI (c0 + 1)), .int ry])), (b1, .inl (cJ, 320, .inr (.inl u)))]) [1, 2] [0] rfl rfl (fun _ => rfl) (fun _ => rfl) (fun _ => rfl) (fun _ => rfl) (by decide) (by decide) (fun r7 u7 H locs w7r hP hD hS => ?_)
              obtain ⟨u7_uw, rfl⟩ : ∃ z, z = u7 := ⟨_, rfl⟩
              have hP : va_P D vwCl [(x0, .inr (6, [.ref h4, .ref h3, .ref h2, .ref h1, .ref hB, .ref h5])), (h3, .inr (3, [.ref b1, .ref b2, .int pt, .int (nI (c0 + 1)), .int ry])), (b1, .inl (cJ, 320, .inr (.inl u7_uw)))] H := hP
              have hD : va_D (aA as) [(x0, .inr (6, [.ref h4, .ref h3, .ref h2, .ref h1, .ref hB, .ref h5])), (h3, .inr (3, [.ref b1, .ref b2, .int pt, .int (nI (c0 + 1)), .int ry])), (b1, .inl (cJ, 320, .inr (.inl u7_uw)))] := hD
              have w7 : r7 = nI c0 := w7r
              clear w7r
              refine lv_goto (tgt := 45) hx hb dX6_side_41 (by decide) ?_
              rw [← hQ]
              exact W.iret (v := r7) hx hb hr (fun tS htS hWS => ⟨⟨r7, (nI (c0 + 1), u7_uw), rfl, by first | exact Or.inr ⟨rfl, by omega, rfl, rfl⟩ | exact Or.inl ⟨by assumption, by omega, rfl⟩, m_at htS hP⟩, by rw [← has]; exact hS.F htS⟩) (by rw [← has]; exact hS.2.2) dX6_side_45
          · skip
            refine lv_if_eq (tgt := 44) hx hb dX6_side_29 (by decide) (fun c8 => ?_) (fun c8 => ?_)
            · skip
              refine lv_iconst (v := (-1 : Int32)) hx hb dX6_side_44 (by decide) ?_
              rw [← hQ]
              exact W.iret (v := (-1 : Int32)) hx hb hr (fun tS htS hWS => ⟨⟨(-1 : Int32), (nI c0, fw), rfl, by first | exact Or.inr ⟨rfl, by omega, rfl, rfl⟩ | exact Or.inl ⟨by assumption, by omega, rfl⟩, m_at htS hP⟩, by rw [← has]; exact hS.F htS⟩) (by rw [← has]; exact hS.2.2) dX6_side_45
            · exact absurd c8 (by first | decide | exact nz_lt (by omega) | exact fun h => h (nz_ge (by omega)))
      · skip
        refine lv_if_eq (tgt := 44) hx hb dX6_side_19 (by decide) (fun c9 => ?_) (fun c9 => ?_)
        · skip
          refine lv_iconst (v := (-1 : Int32)) hx hb dX6_side_44 (by decide) ?_
          rw [← hQ]
          exact W.iret (v := (-1 : Int32)) hx hb hr (fun tS htS hWS => ⟨⟨(-1 : Int32), (nI c0, fw), rfl, by first | exact Or.inr ⟨rfl, by omega, rfl, rfl⟩ | exact Or.inl ⟨by assumption, by omega, rfl⟩, m_at htS hP⟩, by rw [← has]; exact hS.F htS⟩) (by rw [← has]; exact hS.2.2) dX6_side_45
        · exact absurd c9 (by first | decide | exact nz_lt (by omega) | exact fun h => h (nz_ge (by omega)))
  · skip
    refine lv_if_eq (tgt := 44) hx hb dX6_side_8 (by decide) (fun c10 => ?_) (fun c10 => ?_)
    · skip
      refine lv_iconst (v := (-1 : Int32)) hx hb dX6_side_44 (by decide) ?_
      rw [← hQ]
      exact W.iret (v := (-1 : Int32)) hx hb hr (fun tS htS hWS => ⟨⟨(-1 : Int32), (nI c0, fw), rfl, by first | exact Or.inr ⟨rfl, by omega, rfl, rfl⟩ | exact Or.inl ⟨by assumption, by omega, rfl⟩, m_at htS hP⟩, by rw [← has]; exact hS.F htS⟩) (by rw [← has]; exact hS.2.2) dX6_side_45
    · exact absurd c10 (by first | decide | exact nz_lt (by omega) | exact fun h => h (nz_ge (by omega)))
def rm_c_X6_dual_g : Room := { frames := 2, cells := 0, slots := 0, locals := 45 }
set_option maxHeartbeats 400000 in
set_option maxRecDepth 100000 in
theorem c_X6_dual_g (l : Launch) (D : va_G) (cI cJ cZ : ClassId) (x0 : Nat) (h4 : Nat) (h3 : Nat) (h2 : Nat) (h1 : Nat) (hB : Nat) (h5 : Nat) (b1 : Nat) (b2 : Nat) (n : Nat) (c0 : Nat) (ry : Int32) (p0 : Int32) (fw : Nat → Int64) (hn : n ≤ 9) (hc : c0 ≤ 40) : Met l yX6_dual wsX6_dual rm_c_X6_dual_g (pm_ D cI cJ cZ [.ref x0, .int p0] [(x0, .inr (6, [.ref h4, .ref h3, .ref h2, .ref h1, .ref hB, .ref h5])), (h3, .inr (3, [.ref b1, .ref b2, .int (nI n), .int (nI c0), .int ry])), (b1, .inl (cJ, 320, .inr (.inl fw)))]) (va_Qi (fun (r : Int32) (u : Int32 × (Nat → Int64)) => ADX r c0 fw ((0 ≤ p0.toInt ∧ p0.toInt < c0) ∧ c0 < 40) u.1 u.2) (fun (u : Int32 × (Nat → Int64)) tS => va_P D vwCl [(x0, .inr (6, [.ref h4, .ref h3, .ref h2, .ref h1, .ref hB, .ref h5])), (h3, .inr (3, [.ref b1, .ref b2, .int (nI n), .int u.1, .int ry])), (b1, .inl (cJ, 320, .inr (.inl u.2)))] tS.heap) (aA [x0, h3, b1])) 0 0 (aA [x0, h3, b1]) := by
  refine Met.ofW (cc := cX6_dual) (maxL := 2) (ret := (some .int)) (by decide) rfl ?_
  intro p e s m args below meth c s₁ B hml hv
  obtain ⟨rfl, hP, hKN, hD0⟩ := hv
  have hK := hKN.1
  have hx := B.exec
  have hb := B.bytes
  have hr := B.returns
  have hts := atoms_spec (ws := wsX6_dual) B.pre
  have hown : s.vm.findClass RX6 = some m.cls := findClass_of_methodNamed B.named
  have hlocks := B.notSynchronized
  have hiX6 : ∀ w ∈ wsX60, w ∈ wsX6_dual := by decide +kernel
  have hf19 := hts (.fieldLink RX6 19 "LookBench" "rules" "LLookBench$Rules;") (by decide +kernel)
  obtain ⟨as, has⟩ : ∃ z : List Nat, z = [x0, h3, b1] := ⟨_, rfl⟩
  have hD := hD0.addr (as := as) (by rw [has]; rfl)
  have hS : va_S (aA as) s.heap s.heap [] := va_S.rf
  have hl := lv_entry ([.ref x0, .int p0]) (n := 2) (Nat.le_of_ble_eq_true rfl)
  rw [lg_entry_eq]
  generalize (lg_sl ([.ref x0, .int p0]) ++ List.replicate (2 - (lg_sl ([.ref x0, .int p0])).length) Slot.unset).toArray = ls at hl ⊢
  have hl : lv_has ls 2 [(0, .ref x0), (1, .int p0)] := hl
  generalize hQ : MQ below _ _ s _ _ _ = Q
  obtain ⟨H, hH⟩ : ∃ z, z = s.heap := ⟨_, rfl⟩
  have hP : va_P D vwCl [(x0, .inr (6, [.ref h4, .ref h3, .ref h2, .ref h1, .ref hB, .ref h5])), (h3, .inr (3, [.ref b1, .ref b2, .int (nI n), .int (nI c0), .int ry])), (b1, .inl (cJ, 320, .inr (.inl fw)))] H := by rw [hH]; exact hP
  have hS : va_S (aA as) s.heap H [] := by rw [hH]; exact hS
  refine m_heap hH ?_
  clear hH
  refine lv_aload_n hx hb dX6_dual_0 rfl (lv_at hl 0 rfl) ?_
  refine va_get (D := D) (ci := 6) (v := .ref h3) (C := RX6) (T := TX6) (N := 6) hx hb hts hiX6 hown hK hP 0 rfl rfl 1 (by decide) hf19 (fun _ h9 => h9) rfl dX6_dual_1 ?_
  refine lv_iload_n hx hb dX6_dual_4 rfl (lv_at hl 1 rfl) ?_
  refine pu_i (va_runV (As := [.int p0]) (rest := []) ⟨hx, hb, hml, hown, hts⟩ (c_X3_has l D cI cJ cZ h3 b1 b2 c0 (nI n) ry p0 (by first | assumption | omega)) (cwV 1 hts gX6_dual_X3_has rfl rfl rfl (by decide +kernel) ⟨Nat.le_of_ble_eq_true rfl, Nat.le_of_ble_eq_true rfl⟩) ⟨pc_blind, va_recv hK hP (ci := 3) (q0 := 1) rfl rfl, fun U hU hW => ⟨rfl, by rw [hU]; exact hP.sub (ws' := [(h3, .inr (3, [.ref b1, .ref b2, .int (nI n), .int (nI c0), .int ry]))]) [1] rfl, hKN.warm hW⟩⟩ rfl rfl hl.1 rfl (lv_room (Nat.le_of_ble_eq_true rfl)) dX6_dual_5 ⟨Nat.le_of_ble_eq_true rfl, Nat.le_of_ble_eq_true rfl⟩) hS hP (fun r1 H locs w1r hP hS => ?_)
  have w1 : B01 r1 (0 ≤ p0.toInt ∧ p0.toInt < c0) := w1r
  clear w1r
  rcases w1 with ⟨rfl, w1⟩ | ⟨rfl, w1⟩
  · skip
    obtain ⟨j9, hj9, rfl⟩ := m_nat w1
    have tj9 : (nI j9).toInt = (j9 : Int) := nI_toInt (by omega)
    refine lv_if_eq (tgt := 32) hx hb dX6_dual_8 (by decide) (fun c2 => ?_) (fun c2 => ?_)
    · exact absurd c2 (by first | decide | exact nz_lt (by omega) | exact fun h => h (nz_ge (by omega)))
    · skip
      refine lv_aload_n hx hb dX6_dual_11 rfl (lv_at hl 0 rfl) ?_
      refine va_get (D := D) (ci := 6) (v := .ref h3) (C := RX6) (T := TX6) (N := 6) hx hb hts hiX6 hown hK hP 0 rfl rfl 1 (by decide) hf19 (fun _ h9 => h9) rfl dX6_dual_12 ?_
      refine pu_i (va_runV (As := []) (rest := []) ⟨hx, hb, hml, hown, hts⟩ (c_X3_hasRoom l D cI cJ cZ h3 b1 b2 c0 (nI n) ry (by first | assumption | omega)) (cwV 0 hts gX6_dual_X3_hasRoom rfl rfl rfl (by decide +kernel) ⟨Nat.le_of_ble_eq_true rfl, Nat.le_of_ble_eq_true rfl⟩) ⟨pc_blind, va_recv hK hP (ci := 3) (q0 := 1) rfl rfl, fun U hU hW => ⟨rfl, by rw [hU]; exact hP.sub (ws' := [(h3, .inr (3, [.ref b1, .ref b2, .int (nI n), .int (nI c0), .int ry]))]) [1] rfl, hKN.warm hW⟩⟩ rfl rfl hl.1 rfl (lv_room (Nat.le_of_ble_eq_true rfl)) dX6_dual_15 ⟨Nat.le_of_ble_eq_true rfl, Nat.le_of_ble_eq_true rfl⟩) hS hP (fun r3 H locs w3r hP hS => ?_)
      have w3 : B01 r3 (c0 < 40) := w3r
      clear w3r
      rcases w3 with ⟨rfl, w3⟩ | ⟨rfl, w3⟩
      · skip
        refine lv_if_eq (tgt := 32) hx hb dX6_dual_18 (by decide) (fun c4 => ?_) (fun c4 => ?_)
        · exact absurd c4 (by first | decide | exact nz_lt (by omega) | exact fun h => h (nz_ge (by omega)))
        · skip
          refine lv_aload_n hx hb dX6_dual_21 rfl (lv_at hl 0 rfl) ?_
          refine va_get (D := D) (ci := 6) (v := .ref h3) (C := RX6) (T := TX6) (N := 6) hx hb hts hiX6 hown hK hP 0 rfl rfl 1 (by decide) hf19 (fun _ h9 => h9) rfl dX6_dual_22 ?_
          refine lv_iload_n hx hb dX6_dual_25 rfl (lv_at hl 1 rfl) ?_
          refine mu_i (n := 3) (wc := [(h3, .inr (3, [.ref b1, .ref b2, .int (nI n), .int (nI c0), .int ry])), (b1, .inl (cJ, 320, .inr (.inl fw)))]) (va_runV (As := [.int (nI j9)]) (rest := []) ⟨hx, hb, hml, hown, hts⟩ (c_X3_addDual l D cI cJ cZ h3 b1 b2 n c0 j9 ry fw (by first | assumption | omega) (by first | assumption | omega) (by first | assumption | omega)) (cwV 1 hts gX6_dual_X3_addDual rfl rfl rfl (by decide +kernel) ⟨Nat.le_of_ble_eq_true rfl, Nat.le_of_ble_eq_true rfl⟩) ⟨pm_blind, va_recv hK hP (ci := 3) (q0 := 1) rfl rfl, fun U hU hW => ⟨rfl, by rw [hU]; exact hP.sub (ws' := [(h3, .inr (3, [.ref b1, .ref b2, .int (nI n), .int (nI c0), .int ry])), (b1, .inl (cJ, 320, .inr (.inl fw)))]) [1, 2] rfl, hKN.warm hW, (hD.sub (ws' := [(h3, .inr (3, [.ref b1, .ref b2, .int (nI n), .int (nI c0), .int ry])), (b1, .inl (cJ, 320, .inr (.inl fw)))]) [1, 2] (by decide) rfl).weaken (fun _ _ _ _ => trivial)⟩⟩ rfl rfl hl.1 rfl (lv_room (Nat.le_of_ble_eq_true rfl)) dX6_dual_26 ⟨Nat.le_of_ble_eq_true rfl, Nat.le_of_ble_eq_true rfl⟩) hS hP hD (fun (u : (Nat → Int64)) => [(x0, .inr (6, [.ref h4, .ref h3, .ref h2, .ref h1, .ref hB, .ref h5])), (h3, .inr (3, [.ref b1, .ref b2, .int (nI n), .int (nI (c0 + 1)), .int ry])), (b1, .inl (cJ, 320, .inr (.inl u)))]) [1, 2] [0] rfl rfl (fun _ => rfl) (fun _ => rfl) (fun _ => rfl) (fun _ => rfl) (by decide) (by decide) (fun r5 u5 H locs w5r hP hD hS => ?_)
          obtain ⟨u5_uw, rfl⟩ : ∃ z, z = u5 := ⟨_, rfl⟩
          have hP : va_P D vwCl [(x0, .inr (6, [.ref h4, .ref h3, .ref h2, .ref h1, .ref hB, .ref h5])), (h3, .inr (3, [.ref b1, .ref b2, .int (nI n), .int (nI (c0 + 1)), .int ry])), (b1, .inl (cJ, 320, .inr (.inl u5_uw)))] H := hP
          have hD : va_D (aA as) [(x0, .inr (6, [.ref h4, .ref h3, .ref h2, .ref h1, .ref hB, .ref h5])), (h3, .inr (3, [.ref b1, .ref b2, .int (nI n), .int (nI (c0 + 1)), .int ry])), (b1, .inl (cJ, 320, .inr (.inl u5_uw)))] := hD
          have w5 : r5 = nI c0 := w5r
          clear w5r
          refine lv_goto (tgt := 33) hx hb dX6_dual_29 (by decide) ?_
          rw [← hQ]
          exact W.iret (v := r5) hx hb hr (fun tS htS hWS => ⟨⟨r5, (nI (c0 + 1), u5_uw), rfl, by first | exact Or.inr ⟨rfl, by omega, rfl, rfl⟩ | exact Or.inl ⟨by assumption, by omega, rfl⟩, m_at htS hP⟩, by rw [← has]; exact hS.F htS⟩) (by rw [← has]; exact hS.2.2) dX6_dual_33
      · skip
        refine lv_if_eq (tgt := 32) hx hb dX6_dual_18 (by decide) (fun c6 => ?_) (fun c6 => ?_)
        · skip
          refine lv_iconst (v := (-1 : Int32)) hx hb dX6_dual_32 (by decide) ?_
          rw [← hQ]
          exact W.iret (v := (-1 : Int32)) hx hb hr (fun tS htS hWS => ⟨⟨(-1 : Int32), (nI c0, fw), rfl, by first | exact Or.inr ⟨rfl, by omega, rfl, rfl⟩ | exact Or.inl ⟨by assumption, by omega, rfl⟩, m_at htS hP⟩, by rw [← has]; exact hS.F htS⟩) (by rw [← has]; exact hS.2.2) dX6_dual_33
        · exact absurd c6 (by first | decide | exact nz_lt (by omega) | exact fun h => h (nz_ge (by omega)))
  · skip
    refine lv_if_eq (tgt := 32) hx hb dX6_dual_8 (by decide) (fun c7 => ?_) (fun c7 => ?_)
    · skip
      refine lv_iconst (v := (-1 : Int32)) hx hb dX6_dual_32 (by decide) ?_
      rw [← hQ]
      exact W.iret (v := (-1 : Int32)) hx hb hr (fun tS htS hWS => ⟨⟨(-1 : Int32), (nI c0, fw), rfl, by first | exact Or.inr ⟨rfl, by omega, rfl, rfl⟩ | exact Or.inl ⟨by assumption, by omega, rfl⟩, m_at htS hP⟩, by rw [← has]; exact hS.F htS⟩) (by rw [← has]; exact hS.2.2) dX6_dual_33
    · exact absurd c7 (by first | decide | exact nz_lt (by omega) | exact fun h => h (nz_ge (by omega)))
def rm_c_X6_some_g : Room := { frames := 2, cells := 0, slots := 0, locals := 55 }
set_option maxHeartbeats 400000 in
set_option maxRecDepth 100000 in
theorem c_X6_some_g (l : Launch) (D : va_G) (cI cJ cZ : ClassId) (x0 : Nat) (h4 : Nat) (h3 : Nat) (h2 : Nat) (h1 : Nat) (hB : Nat) (h5 : Nat) (a1 : Nat) (a2 : Nat) (a3 : Nat) (b1 : Nat) (b2 : Nat) (n : Nat) (c0 : Nat) (sn : Int32) (sg : Int32) (ry : Int32) (se : Int32) (wi : Int32) (kk : Int32) (wo : Int64) (fw : Nat → Int64) (fo : Nat → Int32) (hn : n ≤ 9) (hc : c0 ≤ 40) : Met l yX6_some wsX6_some rm_c_X6_some_g (pm_ D cI cJ cZ [.ref x0, .int se, .long wo, .int wi, .int kk] [(x0, .inr (6, [.ref h4, .ref h3, .ref h2, .ref h1, .ref hB, .ref h5])), (h4, .inr (4, [.ref a1, .ref a2, .ref a3, .int (nI n), .int sn, .int sg])), (h3, .inr (3, [.ref b1, .ref b2, .int (nI n), .int (nI c0), .int ry])), (b1, .inl (cJ, 320, .inr (.inl fw))), (b2, .inl (cI, 9, .inl fo))]) (va_Qi (fun (r : Int32) (u : Int32 × (Nat → Int64) × (Nat → Int32)) => ADX r c0 fw (0 ≤ se.toInt ∧ se.toInt < (2 ^ n : Nat) ∧ 0 ≤ wo.toInt ∧ 0 ≤ wi.toInt ∧ wi.toInt ≤ 3 ∧ 0 ≤ kk.toInt ∧ kk.toInt ≤ 100 ∧ c0 < 40) u.1 u.2.1) (fun (u : Int32 × (Nat → Int64) × (Nat → Int32)) tS => va_P D vwCl [(x0, .inr (6, [.ref h4, .ref h3, .ref h2, .ref h1, .ref hB, .ref h5])), (h4, .inr (4, [.ref a1, .ref a2, .ref a3, .int (nI n), .int sn, .int sg])), (h3, .inr (3, [.ref b1, .ref b2, .int (nI n), .int u.1, .int ry])), (b1, .inl (cJ, 320, .inr (.inl u.2.1))), (b2, .inl (cI, 9, .inl u.2.2))] tS.heap) (aA [x0, h4, h3, b1, b2])) 0 0 (aA [x0, h4, h3, b1, b2]) := by
  refine Met.ofW (cc := cX6_some) (maxL := 6) (ret := (some .int)) (by decide) rfl ?_
  intro p e s m args below meth c s₁ B hml hv
  obtain ⟨rfl, hP, hKN, hD0⟩ := hv
  have hK := hKN.1
  have hx := B.exec
  have hb := B.bytes
  have hr := B.returns
  have hts := atoms_spec (ws := wsX6_some) B.pre
  have hown : s.vm.findClass RX6 = some m.cls := findClass_of_methodNamed B.named
  have hlocks := B.notSynchronized
  have hiX6 : ∀ w ∈ wsX60, w ∈ wsX6_some := by decide +kernel
  have hf10 := hts (.fieldLink RX6 10 "LookBench" "shelf" "LLookBench$Shelf;") (by decide +kernel)
  have hf19 := hts (.fieldLink RX6 19 "LookBench" "rules" "LLookBench$Rules;") (by decide +kernel)
  obtain ⟨as, has⟩ : ∃ z : List Nat, z = [x0, h4, h3, b1, b2] := ⟨_, rfl⟩
  have hD := hD0.addr (as := as) (by rw [has]; rfl)
  have hS : va_S (aA as) s.heap s.heap [] := va_S.rf
  have hl := lv_entry ([.ref x0, .int se, .long wo, .int wi, .int kk]) (n := 6) (Nat.le_of_ble_eq_true rfl)
  rw [lg_entry_eq]
  generalize (lg_sl ([.ref x0, .int se, .long wo, .int wi, .int kk]) ++ List.replicate (6 - (lg_sl ([.ref x0, .int se, .long wo, .int wi, .int kk])).length) Slot.unset).toArray = ls at hl ⊢
  have hl : lv_has ls 6 [(0, .ref x0), (1, .int se), (2, .long wo), (4, .int wi), (5, .int kk)] := hl
  generalize hQ : MQ below _ _ s _ _ _ = Q
  obtain ⟨H, hH⟩ : ∃ z, z = s.heap := ⟨_, rfl⟩
  have hP : va_P D vwCl [(x0, .inr (6, [.ref h4, .ref h3, .ref h2, .ref h1, .ref hB, .ref h5])), (h4, .inr (4, [.ref a1, .ref a2, .ref a3, .int (nI n), .int sn, .int sg])), (h3, .inr (3, [.ref b1, .ref b2, .int (nI n), .int (nI c0), .int ry])), (b1, .inl (cJ, 320, .inr (.inl fw))), (b2, .inl (cI, 9, .inl fo))] H := by rw [hH]; exact hP
  have hS : va_S (aA as) s.heap H [] := by rw [hH]; exact hS
  refine m_heap hH ?_
  clear hH
  refine lv_aload_n hx hb dX6_some_0 rfl (lv_at hl 0 rfl) ?_
  refine va_get (D := D) (ci := 6) (v := .ref h4) (C := RX6) (T := TX6) (N := 6) hx hb hts hiX6 hown hK hP 0 rfl rfl 0 (by decide) hf10 (fun _ h9 => h9) rfl dX6_some_1 ?_
  refine lv_iload_n hx hb dX6_some_4 rfl (lv_at hl 1 rfl) ?_
  refine pu_i (va_runV (As := [.int se]) (rest := []) ⟨hx, hb, hml, hown, hts⟩ (c_X4_hasSet l D cI cJ cZ h4 a1 a2 a3 n sn sg se (by first | assumption | omega)) (cwV 1 hts gX6_some_X4_hasSet rfl rfl rfl (by decide +kernel) ⟨Nat.le_of_ble_eq_true rfl, Nat.le_of_ble_eq_true rfl⟩) ⟨pc_blind, va_recv hK hP (ci := 4) (q0 := 1) rfl rfl, fun U hU hW => ⟨rfl, by rw [hU]; exact hP.sub (ws' := [(h4, .inr (4, [.ref a1, .ref a2, .ref a3, .int (nI n), .int sn, .int sg]))]) [1] rfl, hKN.warm hW⟩⟩ rfl rfl hl.1 rfl (lv_room (Nat.le_of_ble_eq_true rfl)) dX6_some_5 ⟨Nat.le_of_ble_eq_true rfl, Nat.le_of_ble_eq_true rfl⟩) hS hP (fun r1 H locs w1r hP hS => ?_)
  have w1 : B01 r1 (0 ≤ se.toInt ∧ se.toInt < (2 ^ n : Nat)) := w1r
  clear w1r
  rcases w1 with ⟨rfl, w1⟩ | ⟨rfl, w1⟩
  · skip
    refine lv_if_eq (tgt := 40) hx hb dX6_some_8 (by decide) (fun c2 => ?_) (fun c2 => ?_)
    · exact absurd c2 (by first | decide | exact nz_lt (by omega) | exact fun h => h (nz_ge (by omega)))
    · skip
      refine lv_lload_n hx hb dX6_some_11 rfl (lv_at hl 2 rfl) ?_
      refine lv_lconst (v := lN 0) hx hb dX6_some_12 (by decide) ?_
      refine W.lcmp hx hb dX6_some_13 ?_
      refine lv_if_lt (tgt := 40) hx hb dX6_some_14 (by decide) (fun c3 => ?_) (fun c3 => ?_)
      · skip
        have d3 := c3
        rw [lc_lt, j_lt, lN_toInt (n := 0) (by omega)] at d3
        refine lv_iconst (v := (-1 : Int32)) hx hb dX6_some_40 (by decide) ?_
        rw [← hQ]
        exact W.iret (v := (-1 : Int32)) hx hb hr (fun tS htS hWS => ⟨⟨(-1 : Int32), (nI c0, fw, fo), rfl, by first | exact Or.inr ⟨rfl, by omega, rfl, rfl⟩ | exact Or.inl ⟨by assumption, by omega, rfl⟩, m_at htS hP⟩, by rw [← has]; exact hS.F htS⟩) (by rw [← has]; exact hS.2.2) dX6_some_41
      · skip
        have d3 := c3
        rw [lc_lt, j_lt, lN_toInt (n := 0) (by omega)] at d3
        refine lv_iload hx hb dX6_some_17 (lv_at hl 3 rfl) ?_
        refine lv_if_lt (tgt := 40) hx hb dX6_some_19 (by decide) (fun c4 => ?_) (fun c4 => ?_)
        · skip
          have d4 := c4
          rw [i_lt, i_z] at d4
          refine lv_iconst (v := (-1 : Int32)) hx hb dX6_some_40 (by decide) ?_
          rw [← hQ]
          exact W.iret (v := (-1 : Int32)) hx hb hr (fun tS htS hWS => ⟨⟨(-1 : Int32), (nI c0, fw, fo), rfl, by first | exact Or.inr ⟨rfl, by omega, rfl, rfl⟩ | exact Or.inl ⟨by assumption, by omega, rfl⟩, m_at htS hP⟩, by rw [← has]; exact hS.F htS⟩) (by rw [← has]; exact hS.2.2) dX6_some_41
        · skip
          have d4 := c4
          rw [i_lt, i_z] at d4
          refine lv_iload hx hb dX6_some_22 (lv_at hl 3 rfl) ?_
          refine lv_iconst (v := nI 3) hx hb dX6_some_24 (by decide) ?_
          refine lv_icmp_gt (tgt := 40) hx hb dX6_some_25 (by decide) (fun c5 => ?_) (fun c5 => ?_)
          · skip
            have d5 := c5
            rw [i_lt, nI_toInt (n := 3) (by omega)] at d5
            refine lv_iconst (v := (-1 : Int32)) hx hb dX6_some_40 (by decide) ?_
            rw [← hQ]
            exact W.iret (v := (-1 : Int32)) hx hb hr (fun tS htS hWS => ⟨⟨(-1 : Int32), (nI c0, fw, fo), rfl, by first | exact Or.inr ⟨rfl, by omega, rfl, rfl⟩ | exact Or.inl ⟨by assumption, by omega, rfl⟩, m_at htS hP⟩, by rw [← has]; exact hS.F htS⟩) (by rw [← has]; exact hS.2.2) dX6_some_41
          · skip
            have d5 := c5
            rw [i_lt, nI_toInt (n := 3) (by omega)] at d5
            refine lv_iload hx hb dX6_some_28 (lv_at hl 4 rfl) ?_
            refine lv_if_lt (tgt := 40) hx hb dX6_some_30 (by decide) (fun c6 => ?_) (fun c6 => ?_)
            · skip
              have d6 := c6
              rw [i_lt, i_z] at d6
              refine lv_iconst (v := (-1 : Int32)) hx hb dX6_some_40 (by decide) ?_
              rw [← hQ]
              exact W.iret (v := (-1 : Int32)) hx hb hr (fun tS htS hWS => ⟨⟨(-1 : Int32), (nI c0, fw, fo), rfl, by first | exact Or.inr ⟨rfl, by omega, rfl, rfl⟩ | exact Or.inl ⟨by assumption, by omega, rfl⟩, m_at htS hP⟩, by rw [← has]; exact hS.F htS⟩) (by rw [← has]; exact hS.2.2) dX6_some_41
            · skip
              have d6 := c6
              rw [i_lt, i_z] at d6
              refine lv_iload hx hb dX6_some_33 (lv_at hl 4 rfl) ?_
              refine lv_bipush (v := nI 100) hx hb dX6_some_35 (by decide) ?_
              refine lv_icmp_le (tgt := 42) hx hb dX6_some_37 (by decide) (fun c7 => ?_) (fun c7 => ?_)
              · skip
                have d7 := c7
                rw [i_le, nI_toInt (n := 100) (by omega)] at d7
                refine lv_aload_n hx hb dX6_some_42 rfl (lv_at hl 0 rfl) ?_
                refine va_get (D := D) (ci := 6) (v := .ref h3) (C := RX6) (T := TX6) (N := 6) hx hb hts hiX6 hown hK hP 0 rfl rfl 1 (by decide) hf19 (fun _ h9 => h9) rfl dX6_some_43 ?_
                refine pu_i (va_runV (As := []) (rest := []) ⟨hx, hb, hml, hown, hts⟩ (c_X3_hasRoom l D cI cJ cZ h3 b1 b2 c0 (nI n) ry (by first | assumption | omega)) (cwV 0 hts gX6_some_X3_hasRoom rfl rfl rfl (by decide +kernel) ⟨Nat.le_of_ble_eq_true rfl, Nat.le_of_ble_eq_true rfl⟩) ⟨pc_blind, va_recv hK hP (ci := 3) (q0 := 2) rfl rfl, fun U hU hW => ⟨rfl, by rw [hU]; exact hP.sub (ws' := [(h3, .inr (3, [.ref b1, .ref b2, .int (nI n), .int (nI c0), .int ry]))]) [2] rfl, hKN.warm hW⟩⟩ rfl rfl hl.1 rfl (lv_room (Nat.le_of_ble_eq_true rfl)) dX6_some_46 ⟨Nat.le_of_ble_eq_true rfl, Nat.le_of_ble_eq_true rfl⟩) hS hP (fun r8 H locs w8r hP hS => ?_)
                have w8 : B01 r8 (c0 < 40) := w8r
                clear w8r
                rcases w8 with ⟨rfl, w8⟩ | ⟨rfl, w8⟩
                · skip
                  refine lv_if_eq (tgt := 68) hx hb dX6_some_49 (by decide) (fun c9 => ?_) (fun c9 => ?_)
                  · exact absurd c9 (by first | decide | exact nz_lt (by omega) | exact fun h => h (nz_ge (by omega)))
                  · skip
                    refine lv_aload_n hx hb dX6_some_52 rfl (lv_at hl 0 rfl) ?_
                    refine va_get (D := D) (ci := 6) (v := .ref h3) (C := RX6) (T := TX6) (N := 6) hx hb hts hiX6 hown hK hP 0 rfl rfl 1 (by decide) hf19 (fun _ h9 => h9) rfl dX6_some_53 ?_
                    refine lv_iload_n hx hb dX6_some_56 rfl (lv_at hl 1 rfl) ?_
                    refine lv_lload_n hx hb dX6_some_57 rfl (lv_at hl 2 rfl) ?_
                    refine lv_iload hx hb dX6_some_58 (lv_at hl 3 rfl) ?_
                    refine lv_iload hx hb dX6_some_60 (lv_at hl 4 rfl) ?_
                    refine mu_i (n := 5) (wc := [(h3, .inr (3, [.ref b1, .ref b2, .int (nI n), .int (nI c0), .int ry])), (b1, .inl (cJ, 320, .inr (.inl fw))), (b2, .inl (cI, 9, .inl fo))]) (va_runV (As := [.int se, .long wo, .int wi, .int kk]) (rest := []) ⟨hx, hb, hml, hown, hts⟩ (c_X3_addSome l D cI cJ cZ h3 b1 b2 n c0 ry se wo wi kk fw fo (by first | assumption | omega) (by first | assumption | omega)) (cwV 4 hts gX6_some_X3_addSome rfl rfl rfl (by decide +kernel) ⟨Nat.le_of_ble_eq_true rfl, Nat.le_of_ble_eq_true rfl⟩) ⟨pm_blind, va_recv hK hP (ci := 3) (q0 := 2) rfl rfl, fun U hU hW => ⟨rfl, by rw [hU]; exact hP.sub (ws' := [(h3, .inr (3, [.ref b1, .ref b2, .int (nI n), .int (nI c0), .int ry])), (b1, .inl (cJ, 320, .inr (.inl fw))), (b2, .inl (cI, 9, .inl fo))]) [2, 3, 4] rfl, hKN.warm hW, (hD.sub (ws' := [(h3, .inr (3, [.ref b1, .ref b2, .int (nI n), .int (nI c0), .int ry])), (b1, .inl (cJ, 320, .inr (.inl fw))), (b2, .inl (cI, 9, .inl fo))]) [2, 3, 4] (by decide) rfl).weaken (fun _ _ _ _ => trivial)⟩⟩ rfl rfl hl.1 rfl (lv_room (Nat.le_of_ble_eq_true rfl)) dX6_some_62 ⟨Nat.le_of_ble_eq_true rfl, Nat.le_of_ble_eq_true rfl⟩) hS hP hD (fun (u : (Nat → Int64) × (Nat → Int32)) => [(x0, .inr (6, [.ref h4, .ref h3, .ref h2, .ref h1, .ref hB, .ref h5])), (h4, .inr (4, [.ref a1, .ref a2, .ref a3, .int (nI n), .int sn, .int sg])), (h3, .inr (3, [.ref b1, .ref b2, .int (nI n), .int (nI (c0 + 1)), .int ry])), (b1, .inl (cJ, 320, .inr (.inl u.1))), (b2, .inl (cI, 9, .inl u.2))]) [2, 3, 4] [0, 1] rfl rfl (fun _ => rfl) (fun _ => rfl) (fun _ => rfl) (fun _ => rfl) (by decide) (by decide) (fun r10 u10 H locs w10r hP hD hS => ?_)
                    obtain ⟨u10_uw, u10_uo⟩ := u10
                    have hP : va_P D vwCl [(x0, .inr (6, [.ref h4, .ref h3, .ref h2, .ref h1, .ref hB, .ref h5])), (h4, .inr (4, [.ref a1, .ref a2, .ref a3, .int (nI n), .int sn, .int sg])), (h3, .inr (3, [.ref b1, .ref b2, .int (nI n), .int (nI (c0 + 1)), .int ry])), (b1, .inl (cJ, 320, .inr (.inl u10_uw))), (b2, .inl (cI, 9, .inl u10_uo))] H := hP
                    have hD : va_D (aA as) [(x0, .inr (6, [.ref h4, .ref h3, .ref h2, .ref h1, .ref hB, .ref h5])), (h4, .inr (4, [.ref a1, .ref a2, .ref a3, .int (nI n), .int sn, .int sg])), (h3, .inr (3, [.ref b1, .ref b2, .int (nI n), .int (nI (c0 + 1)), .int ry])), (b1, .inl (cJ, 320, .inr (.inl u10_uw))), (b2, .inl (cI, 9, .inl u10_uo))] := hD
                    have w10 : r10 = nI c0 := w10r
                    clear w10r
                    refine lv_goto (tgt := 69) hx hb dX6_some_65 (by decide) ?_
                    rw [← hQ]
                    exact W.iret (v := r10) hx hb hr (fun tS htS hWS => ⟨⟨r10, (nI (c0 + 1), u10_uw, u10_uo), rfl, by first | exact Or.inr ⟨rfl, by omega, rfl, rfl⟩ | exact Or.inl ⟨by assumption, by omega, rfl⟩, m_at htS hP⟩, by rw [← has]; exact hS.F htS⟩) (by rw [← has]; exact hS.2.2) dX6_some_69
                · skip
                  refine lv_if_eq (tgt := 68) hx hb dX6_some_49 (by decide) (fun c11 => ?_) (fun c11 => ?_)
                  · skip
                    refine lv_iconst (v := (-1 : Int32)) hx hb dX6_some_68 (by decide) ?_
                    rw [← hQ]
                    exact W.iret (v := (-1 : Int32)) hx hb hr (fun tS htS hWS => ⟨⟨(-1 : Int32), (nI c0, fw, fo), rfl, by first | exact Or.inr ⟨rfl, by omega, rfl, rfl⟩ | exact Or.inl ⟨by assumption, by omega, rfl⟩, m_at htS hP⟩, by rw [← has]; exact hS.F htS⟩) (by rw [← has]; exact hS.2.2) dX6_some_69
                  · exact absurd c11 (by first | decide | exact nz_lt (by omega) | exact fun h => h (nz_ge (by omega)))
              · skip
                have d7 := c7
                rw [i_le, nI_toInt (n := 100) (by omega)] at d7
                refine lv_iconst (v := (-1 : Int32)) hx hb dX6_some_40 (by decide) ?_
                rw [← hQ]
                exact W.iret (v := (-1 : Int32)) hx hb hr (fun tS htS hWS => ⟨⟨(-1 : Int32), (nI c0, fw, fo), rfl, by first | exact Or.inr ⟨rfl, by omega, rfl, rfl⟩ | exact Or.inl ⟨by assumption, by omega, rfl⟩, m_at htS hP⟩, by rw [← has]; exact hS.F htS⟩) (by rw [← has]; exact hS.2.2) dX6_some_41
  · skip
    refine lv_if_eq (tgt := 40) hx hb dX6_some_8 (by decide) (fun c12 => ?_) (fun c12 => ?_)
    · skip
      refine lv_iconst (v := (-1 : Int32)) hx hb dX6_some_40 (by decide) ?_
      rw [← hQ]
      exact W.iret (v := (-1 : Int32)) hx hb hr (fun tS htS hWS => ⟨⟨(-1 : Int32), (nI c0, fw, fo), rfl, by first | exact Or.inr ⟨rfl, by omega, rfl, rfl⟩ | exact Or.inl ⟨by assumption, by omega, rfl⟩, m_at htS hP⟩, by rw [← has]; exact hS.F htS⟩) (by rw [← has]; exact hS.2.2) dX6_some_41
    · exact absurd c12 (by first | decide | exact nz_lt (by omega) | exact fun h => h (nz_ge (by omega)))
def rm_c_X6_system_g : Room := { frames := 1, cells := 0, slots := 0, locals := 21 }
set_option maxHeartbeats 400000 in
set_option maxRecDepth 100000 in
theorem c_X6_system_g (l : Launch) (D : va_G) (cI cJ cZ : ClassId) (x0 : Nat) (h4 : Nat) (h3 : Nat) (h2 : Nat) (h1 : Nat) (hB : Nat) (h5 : Nat) (b1 : Nat) (b2 : Nat) (p4 : Nat) (p5 : Nat) (p6 : Nat) (fr1 : Int32) (c0 : Nat) (pt : Int32) (ry : Int32) (p0 : Int32) (hc : c0 ≤ 40) : Met l yX6_system wsX6_system rm_c_X6_system_g (pm_ D cI cJ cZ [.ref x0, .int p0] [(x0, .inr (6, [.ref h4, .ref h3, .ref h2, .ref h1, .ref hB, .ref h5])), (h3, .inr (3, [.ref b1, .ref b2, .int pt, .int (nI c0), .int ry])), (h1, .inr (1, [.ref h4, .ref h3, .ref h2, .ref p4, .ref p5, .ref p6, .int fr1]))]) (va_Qi (fun (r : Int32) (u : Int32 × Int32) => (r = nI 1 ∧ (0 ≤ p0.toInt ∧ p0.toInt < c0) ∧ u.1 = p0 ∧ (u.2 = nI 0 ∨ (u.2 = fr1 ∧ ry = p0))) ∨ (r = nI 0 ∧ ¬ (0 ≤ p0.toInt ∧ p0.toInt < c0) ∧ u.1 = ry ∧ u.2 = fr1)) (fun (u : Int32 × Int32) tS => va_P D vwCl [(x0, .inr (6, [.ref h4, .ref h3, .ref h2, .ref h1, .ref hB, .ref h5])), (h3, .inr (3, [.ref b1, .ref b2, .int pt, .int (nI c0), .int u.1])), (h1, .inr (1, [.ref h4, .ref h3, .ref h2, .ref p4, .ref p5, .ref p6, .int u.2]))] tS.heap) (aA [x0, h3, h1])) 0 0 (aA [x0, h3, h1]) := by
  refine Met.ofW (cc := cX6_system) (maxL := 2) (ret := (some .boolean)) (by decide) rfl ?_
  intro p e s m args below meth c s₁ B hml hv
  obtain ⟨rfl, hP, hKN, hD0⟩ := hv
  have hK := hKN.1
  have hx := B.exec
  have hb := B.bytes
  have hr := B.returns
  have hts := atoms_spec (ws := wsX6_system) B.pre
  have hown : s.vm.findClass RX6 = some m.cls := findClass_of_methodNamed B.named
  have hlocks := B.notSynchronized
  have hiX3 : ∀ w ∈ wsX30, w ∈ wsX6_system := by decide +kernel
  have hiX6 : ∀ w ∈ wsX60, w ∈ wsX6_system := by decide +kernel
  have hf19 := hts (.fieldLink RX6 19 "LookBench" "rules" "LLookBench$Rules;") (by decide +kernel)
  have hf35 := hts (.fieldLink RX6 35 "LookBench" "plans" "LLookBench$Plans;") (by decide +kernel)
  have hf102 := va_Nw.use (A := [.ref x0, .int p0].toArray) rfl (hKN.2 (.fieldLinkNest RX6 102 RX3 "system" "I" RX6) (by decide +kernel))
  obtain ⟨as, has⟩ : ∃ z : List Nat, z = [x0, h3, h1] := ⟨_, rfl⟩
  have hD := hD0.addr (as := as) (by rw [has]; rfl)
  have hS : va_S (aA as) s.heap s.heap [] := va_S.rf
  have hl := lv_entry ([.ref x0, .int p0]) (n := 2) (Nat.le_of_ble_eq_true rfl)
  rw [lg_entry_eq]
  generalize (lg_sl ([.ref x0, .int p0]) ++ List.replicate (2 - (lg_sl ([.ref x0, .int p0])).length) Slot.unset).toArray = ls at hl ⊢
  have hl : lv_has ls 2 [(0, .ref x0), (1, .int p0)] := hl
  generalize hQ : MQ below _ _ s _ _ _ = Q
  obtain ⟨H, hH⟩ : ∃ z, z = s.heap := ⟨_, rfl⟩
  have hP : va_P D vwCl [(x0, .inr (6, [.ref h4, .ref h3, .ref h2, .ref h1, .ref hB, .ref h5])), (h3, .inr (3, [.ref b1, .ref b2, .int pt, .int (nI c0), .int ry])), (h1, .inr (1, [.ref h4, .ref h3, .ref h2, .ref p4, .ref p5, .ref p6, .int fr1]))] H := by rw [hH]; exact hP
  have hS : va_S (aA as) s.heap H [] := by rw [hH]; exact hS
  refine m_heap hH ?_
  clear hH
  refine lv_aload_n hx hb dX6_system_0 rfl (lv_at hl 0 rfl) ?_
  refine va_get (D := D) (ci := 6) (v := .ref h3) (C := RX6) (T := TX6) (N := 6) hx hb hts hiX6 hown hK hP 0 rfl rfl 1 (by decide) hf19 (fun _ h9 => h9) rfl dX6_system_1 ?_
  refine lv_iload_n hx hb dX6_system_4 rfl (lv_at hl 1 rfl) ?_
  refine pu_i (va_runV (As := [.int p0]) (rest := []) ⟨hx, hb, hml, hown, hts⟩ (c_X3_has l D cI cJ cZ h3 b1 b2 c0 pt ry p0 (by first | assumption | omega)) (cwV 1 hts gX6_system_X3_has rfl rfl rfl (by decide +kernel) ⟨Nat.le_of_ble_eq_true rfl, Nat.le_of_ble_eq_true rfl⟩) ⟨pc_blind, va_recv hK hP (ci := 3) (q0 := 1) rfl rfl, fun U hU hW => ⟨rfl, by rw [hU]; exact hP.sub (ws' := [(h3, .inr (3, [.ref b1, .ref b2, .int pt, .int (nI c0), .int ry]))]) [1] rfl, hKN.warm hW⟩⟩ rfl rfl hl.1 rfl (lv_room (Nat.le_of_ble_eq_true rfl)) dX6_system_5 ⟨Nat.le_of_ble_eq_true rfl, Nat.le_of_ble_eq_true rfl⟩) hS hP (fun r1 H locs w1r hP hS => ?_)
  have w1 : B01 r1 (0 ≤ p0.toInt ∧ p0.toInt < c0) := w1r
  clear w1r
  rcases w1 with ⟨rfl, w1⟩ | ⟨rfl, w1⟩
  · skip
    refine lv_if_ne (tgt := 13) hx hb dX6_system_8 (by decide) (fun c2 => ?_) (fun c2 => ?_)
    · skip
      refine lv_aload_n hx hb dX6_system_13 rfl (lv_at hl 0 rfl) ?_
      refine va_get (D := D) (ci := 6) (v := .ref h3) (C := RX6) (T := TX6) (N := 6) hx hb hts hiX6 hown hK hP 0 rfl rfl 1 (by decide) hf19 (fun _ h9 => h9) rfl dX6_system_14 ?_
      refine va_getN (D := D) (ci := 3) (v := .int ry) (C := RX3) (T := TX3) (N := 5) hx hb hts hiX3 hown hK hP 1 rfl rfl 4 (by decide) hf102 (fun _ h9 => h9) rfl dX6_system_17 ?_
      refine lv_iload_n hx hb dX6_system_20 rfl (lv_at hl 1 rfl) ?_
      refine lv_icmp_eq (tgt := 39) hx hb dX6_system_21 (by decide) (fun c3 => ?_) (fun c3 => ?_)
      · skip
        refine lv_iconst (v := nI 1) hx hb dX6_system_39 (by decide) ?_
        rw [← hQ]
        exact W.zret (v := nI 1) hx hb hr (by first | decide | (rw [nar_b01])) (fun tS htS hWS => ⟨⟨(nI 1), (ry, fr1), rfl, by first | exact Or.inl ⟨rfl, by omega, by assumption, Or.inr ⟨rfl, by assumption⟩⟩ | exact Or.inl ⟨rfl, by omega, rfl, Or.inl rfl⟩, m_at htS hP⟩, by rw [← has]; exact hS.F htS⟩) (by rw [← has]; exact hS.2.2) dX6_system_40
      · skip
        refine lv_aload_n hx hb dX6_system_24 rfl (lv_at hl 0 rfl) ?_
        refine va_get (D := D) (ci := 6) (v := .ref h3) (C := RX6) (T := TX6) (N := 6) hx hb hts hiX6 hown hK hP 0 rfl rfl 1 (by decide) hf19 (fun _ h9 => h9) rfl dX6_system_25 ?_
        refine lv_iload_n hx hb dX6_system_28 rfl (lv_at hl 1 rfl) ?_
        refine va_putN (D := D) (ci := 3) (v := .int p0) (ty := tyX3 4) (C := RX3) (T := TX3) (N := 5) hx hb hts hiX3 tyX3 tyX3_ok nmX3 hown hK hP hD hS 1 rfl rfl 4 (by decide) hf102 (fun _ h9 => h9) rfl (by decide +kernel) rfl rfl (Nat.le_of_ble_eq_true rfl) dX6_system_29 (fun H locs hP hD hS => ?_)
        have hP : va_P D vwCl [(x0, .inr (6, [.ref h4, .ref h3, .ref h2, .ref h1, .ref hB, .ref h5])), (h3, .inr (3, [.ref b1, .ref b2, .int pt, .int (nI c0), .int p0])), (h1, .inr (1, [.ref h4, .ref h3, .ref h2, .ref p4, .ref p5, .ref p6, .int fr1]))] H := hP
        have hD : va_D (aA as) [(x0, .inr (6, [.ref h4, .ref h3, .ref h2, .ref h1, .ref hB, .ref h5])), (h3, .inr (3, [.ref b1, .ref b2, .int pt, .int (nI c0), .int p0])), (h1, .inr (1, [.ref h4, .ref h3, .ref h2, .ref p4, .ref p5, .ref p6, .int fr1]))] := hD
        refine lv_aload_n hx hb dX6_system_32 rfl (lv_at hl 0 rfl) ?_
        refine va_get (D := D) (ci := 6) (v := .ref h1) (C := RX6) (T := TX6) (N := 6) hx hb hts hiX6 hown hK hP 0 rfl rfl 3 (by decide) hf35 (fun _ h9 => h9) rfl dX6_system_33 ?_
        refine mu_v (n := 3) (wc := [(h1, .inr (1, [.ref h4, .ref h3, .ref h2, .ref p4, .ref p5, .ref p6, .int fr1]))]) (va_runV (As := []) (rest := []) ⟨hx, hb, hml, hown, hts⟩ (c_X1_forget l D cI cJ cZ h1 h4 h3 h2 p4 p5 p6 fr1) (cwV 0 hts gX6_system_X1_forget rfl rfl rfl (by decide +kernel) ⟨Nat.le_of_ble_eq_true rfl, Nat.le_of_ble_eq_true rfl⟩) ⟨pm_blind, va_recv hK hP (ci := 1) (q0 := 2) rfl rfl, fun U hU hW => ⟨rfl, by rw [hU]; exact hP.sub (ws' := [(h1, .inr (1, [.ref h4, .ref h3, .ref h2, .ref p4, .ref p5, .ref p6, .int fr1]))]) [2] rfl, hKN.warm hW, (hD.sub (ws' := [(h1, .inr (1, [.ref h4, .ref h3, .ref h2, .ref p4, .ref p5, .ref p6, .int fr1]))]) [2] (by decide) rfl).weaken (fun _ _ _ _ => trivial)⟩⟩ rfl rfl hl.1 rfl (lv_room (Nat.le_of_ble_eq_true rfl)) dX6_system_36 ⟨Nat.le_of_ble_eq_true rfl, Nat.le_of_ble_eq_true rfl⟩) hS hP hD (fun (u : Unit) => [(x0, .inr (6, [.ref h4, .ref h3, .ref h2, .ref h1, .ref hB, .ref h5])), (h3, .inr (3, [.ref b1, .ref b2, .int pt, .int (nI c0), .int p0])), (h1, .inr (1, [.ref h4, .ref h3, .ref h2, .ref p4, .ref p5, .ref p6, .int (nI 0)]))]) [2] [0, 1] rfl rfl (fun _ => rfl) (fun _ => rfl) (fun _ => rfl) (fun _ => rfl) (by decide) (by decide) (fun u4 H locs w4r hP hD hS => ?_)
        have hP : va_P D vwCl [(x0, .inr (6, [.ref h4, .ref h3, .ref h2, .ref h1, .ref hB, .ref h5])), (h3, .inr (3, [.ref b1, .ref b2, .int pt, .int (nI c0), .int p0])), (h1, .inr (1, [.ref h4, .ref h3, .ref h2, .ref p4, .ref p5, .ref p6, .int (nI 0)]))] H := hP
        have hD : va_D (aA as) [(x0, .inr (6, [.ref h4, .ref h3, .ref h2, .ref h1, .ref hB, .ref h5])), (h3, .inr (3, [.ref b1, .ref b2, .int pt, .int (nI c0), .int p0])), (h1, .inr (1, [.ref h4, .ref h3, .ref h2, .ref p4, .ref p5, .ref p6, .int (nI 0)]))] := hD
        have w4 : True := w4r
        clear w4r
        refine lv_iconst (v := nI 1) hx hb dX6_system_39 (by decide) ?_
        rw [← hQ]
        exact W.zret (v := nI 1) hx hb hr (by first | decide | (rw [nar_b01])) (fun tS htS hWS => ⟨⟨(nI 1), (p0, nI 0), rfl, by first | exact Or.inl ⟨rfl, by omega, by assumption, Or.inr ⟨rfl, by assumption⟩⟩ | exact Or.inl ⟨rfl, by omega, rfl, Or.inl rfl⟩, m_at htS hP⟩, by rw [← has]; exact hS.F htS⟩) (by rw [← has]; exact hS.2.2) dX6_system_40
    · exact absurd c2 (by first | decide | exact nz_lt (by omega) | exact fun h => h (nz_ge (by omega)))
  · skip
    refine lv_if_ne (tgt := 13) hx hb dX6_system_8 (by decide) (fun c5 => ?_) (fun c5 => ?_)
    · exact absurd c5 (by first | decide | exact nz_lt (by omega) | exact fun h => h (nz_ge (by omega)))
    · skip
      refine lv_iconst (v := nI 0) hx hb dX6_system_11 (by decide) ?_
      rw [← hQ]
      exact W.zret (v := nI 0) hx hb hr (by first | decide | (rw [nar_b01])) (fun tS htS hWS => ⟨⟨(nI 0), (ry, fr1), rfl, Or.inr ⟨rfl, by omega, rfl, rfl⟩, m_at htS hP⟩, by rw [← has]; exact hS.F htS⟩) (by rw [← has]; exact hS.2.2) dX6_system_12
def rm_c_X6_says_g : Room := { frames := 1, cells := 0, slots := 0, locals := 22 }
set_option maxHeartbeats 400000 in
set_option maxRecDepth 100000 in
theorem c_X6_says_g (l : Launch) (D : va_G) (cI cJ cZ : ClassId) (x0 : Nat) (h4 : Nat) (h3 : Nat) (h2 : Nat) (h1 : Nat) (hB : Nat) (h5 : Nat) (a1 : Nat) (a2 : Nat) (a3 : Nat) (b1 : Nat) (b2 : Nat) (n : Nat) (c0 : Nat) (sn : Int32) (sg : Int32) (pt : Int32) (ry : Int32) (p0 : Int32) (p1 : Int32) (fw : Nat → Int64) (hn : n ≤ 9) (hc : c0 ≤ 40) : Met l yX6_says wsX6_says rm_c_X6_says_g (pc_ D cI cJ cZ [.ref x0, .int p0, .int p1] [(x0, .inr (6, [.ref h4, .ref h3, .ref h2, .ref h1, .ref hB, .ref h5])), (h4, .inr (4, [.ref a1, .ref a2, .ref a3, .int (nI n), .int sn, .int sg])), (h3, .inr (3, [.ref b1, .ref b2, .int pt, .int (nI c0), .int ry])), (b1, .inl (cJ, 320, .inr (.inl fw)))]) (va_Qi (fun (r : Int32) (_ : Unit) => True) (fun _ _ => True) aN) 0 0 aN := by
  refine Met.ofW (cc := cX6_says) (maxL := 3) (ret := (some .int)) (by decide) rfl ?_
  intro p e s m args below meth c s₁ B hml hv
  obtain ⟨rfl, hP, hKN⟩ := hv
  have hK := hKN.1
  have hx := B.exec
  have hb := B.bytes
  have hr := B.returns
  have hts := atoms_spec (ws := wsX6_says) B.pre
  have hown : s.vm.findClass RX6 = some m.cls := findClass_of_methodNamed B.named
  have hlocks := B.notSynchronized
  have hiX6 : ∀ w ∈ wsX60, w ∈ wsX6_says := by decide +kernel
  have hf10 := hts (.fieldLink RX6 10 "LookBench" "shelf" "LLookBench$Shelf;") (by decide +kernel)
  have hf19 := hts (.fieldLink RX6 19 "LookBench" "rules" "LLookBench$Rules;") (by decide +kernel)
  have hS : va_S aN s.heap s.heap [] := va_S.rf
  have hl := lv_entry ([.ref x0, .int p0, .int p1]) (n := 3) (Nat.le_of_ble_eq_true rfl)
  rw [lg_entry_eq]
  generalize (lg_sl ([.ref x0, .int p0, .int p1]) ++ List.replicate (3 - (lg_sl ([.ref x0, .int p0, .int p1])).length) Slot.unset).toArray = ls at hl ⊢
  have hl : lv_has ls 3 [(0, .ref x0), (1, .int p0), (2, .int p1)] := hl
  generalize hQ : MQ below _ _ s _ _ _ = Q
  obtain ⟨H, hH⟩ : ∃ z, z = s.heap := ⟨_, rfl⟩
  have hP : va_P D vwCl [(x0, .inr (6, [.ref h4, .ref h3, .ref h2, .ref h1, .ref hB, .ref h5])), (h4, .inr (4, [.ref a1, .ref a2, .ref a3, .int (nI n), .int sn, .int sg])), (h3, .inr (3, [.ref b1, .ref b2, .int pt, .int (nI c0), .int ry])), (b1, .inl (cJ, 320, .inr (.inl fw)))] H := by rw [hH]; exact hP
  have hS : va_S aN s.heap H [] := by rw [hH]; exact hS
  refine m_heap hH ?_
  clear hH
  have h2n := m_pow hn
  have h2p := m_powp n
  refine lv_aload_n hx hb dX6_says_0 rfl (lv_at hl 0 rfl) ?_
  refine va_get (D := D) (ci := 6) (v := .ref h3) (C := RX6) (T := TX6) (N := 6) hx hb hts hiX6 hown hK hP 0 rfl rfl 1 (by decide) hf19 (fun _ h9 => h9) rfl dX6_says_1 ?_
  refine lv_iload_n hx hb dX6_says_4 rfl (lv_at hl 1 rfl) ?_
  refine pu_i (va_runV (As := [.int p0]) (rest := []) ⟨hx, hb, hml, hown, hts⟩ (c_X3_has l D cI cJ cZ h3 b1 b2 c0 pt ry p0 (by first | assumption | omega)) (cwV 1 hts gX6_says_X3_has rfl rfl rfl (by decide +kernel) ⟨Nat.le_of_ble_eq_true rfl, Nat.le_of_ble_eq_true rfl⟩) ⟨pc_blind, va_recv hK hP (ci := 3) (q0 := 2) rfl rfl, fun U hU hW => ⟨rfl, by rw [hU]; exact hP.sub (ws' := [(h3, .inr (3, [.ref b1, .ref b2, .int pt, .int (nI c0), .int ry]))]) [2] rfl, hKN.warm hW⟩⟩ rfl rfl hl.1 rfl (lv_room (Nat.le_of_ble_eq_true rfl)) dX6_says_5 ⟨Nat.le_of_ble_eq_true rfl, Nat.le_of_ble_eq_true rfl⟩) hS hP (fun r1 H locs w1r hP hS => ?_)
  have w1 : B01 r1 (0 ≤ p0.toInt ∧ p0.toInt < c0) := w1r
  clear w1r
  rcases w1 with ⟨rfl, w1⟩ | ⟨rfl, w1⟩
  · skip
    obtain ⟨j9, hj9, rfl⟩ := m_nat w1
    have tj9 : (nI j9).toInt = (j9 : Int) := nI_toInt (by omega)
    refine lv_if_eq (tgt := 22) hx hb dX6_says_8 (by decide) (fun c2 => ?_) (fun c2 => ?_)
    · exact absurd c2 (by first | decide | exact nz_lt (by omega) | exact fun h => h (nz_ge (by omega)))
    · skip
      refine lv_aload_n hx hb dX6_says_11 rfl (lv_at hl 0 rfl) ?_
      refine va_get (D := D) (ci := 6) (v := .ref h4) (C := RX6) (T := TX6) (N := 6) hx hb hts hiX6 hown hK hP 0 rfl rfl 0 (by decide) hf10 (fun _ h9 => h9) rfl dX6_says_12 ?_
      refine lv_iload_n hx hb dX6_says_15 rfl (lv_at hl 2 rfl) ?_
      refine pu_i (va_runV (As := [.int p1]) (rest := []) ⟨hx, hb, hml, hown, hts⟩ (c_X4_hasSet l D cI cJ cZ h4 a1 a2 a3 n sn sg p1 (by first | assumption | omega)) (cwV 1 hts gX6_says_X4_hasSet rfl rfl rfl (by decide +kernel) ⟨Nat.le_of_ble_eq_true rfl, Nat.le_of_ble_eq_true rfl⟩) ⟨pc_blind, va_recv hK hP (ci := 4) (q0 := 1) rfl rfl, fun U hU hW => ⟨rfl, by rw [hU]; exact hP.sub (ws' := [(h4, .inr (4, [.ref a1, .ref a2, .ref a3, .int (nI n), .int sn, .int sg]))]) [1] rfl, hKN.warm hW⟩⟩ rfl rfl hl.1 rfl (lv_room (Nat.le_of_ble_eq_true rfl)) dX6_says_16 ⟨Nat.le_of_ble_eq_true rfl, Nat.le_of_ble_eq_true rfl⟩) hS hP (fun r3 H locs w3r hP hS => ?_)
      have w3 : B01 r3 (0 ≤ p1.toInt ∧ p1.toInt < (2 ^ n : Nat)) := w3r
      clear w3r
      rcases w3 with ⟨rfl, w3⟩ | ⟨rfl, w3⟩
      · skip
        obtain ⟨j8, hj8, rfl⟩ := m_nat w3
        refine lv_if_ne (tgt := 24) hx hb dX6_says_19 (by decide) (fun c4 => ?_) (fun c4 => ?_)
        · skip
          refine lv_aload_n hx hb dX6_says_24 rfl (lv_at hl 0 rfl) ?_
          refine va_get (D := D) (ci := 6) (v := .ref h3) (C := RX6) (T := TX6) (N := 6) hx hb hts hiX6 hown hK hP 0 rfl rfl 1 (by decide) hf19 (fun _ h9 => h9) rfl dX6_says_25 ?_
          refine lv_iload_n hx hb dX6_says_28 rfl (lv_at hl 1 rfl) ?_
          refine lv_iload_n hx hb dX6_says_29 rfl (lv_at hl 2 rfl) ?_
          refine pu_i (va_runV (As := [.int (nI j9), .int (nI j8)]) (rest := []) ⟨hx, hb, hml, hown, hts⟩ (c_X3_isGood l D cI cJ cZ h3 b1 b2 j9 j8 pt (nI c0) ry fw (by first | assumption | omega) (by first | assumption | omega)) (cwV 2 hts gX6_says_X3_isGood rfl rfl rfl (by decide +kernel) ⟨Nat.le_of_ble_eq_true rfl, Nat.le_of_ble_eq_true rfl⟩) ⟨pc_blind, va_recv hK hP (ci := 3) (q0 := 2) rfl rfl, fun U hU hW => ⟨rfl, by rw [hU]; exact hP.sub (ws' := [(h3, .inr (3, [.ref b1, .ref b2, .int pt, .int (nI c0), .int ry])), (b1, .inl (cJ, 320, .inr (.inl fw)))]) [2, 3] rfl, hKN.warm hW⟩⟩ rfl rfl hl.1 rfl (lv_room (Nat.le_of_ble_eq_true rfl)) dX6_says_30 ⟨Nat.le_of_ble_eq_true rfl, Nat.le_of_ble_eq_true rfl⟩) hS hP (fun r5 H locs w5r hP hS => ?_)
          have w5 : B01 r5 (isG fw j9 j8) := w5r
          clear w5r
          rcases w5 with ⟨rfl, w5⟩ | ⟨rfl, w5⟩
          · skip
            refine lv_if_eq (tgt := 40) hx hb dX6_says_33 (by decide) (fun c6 => ?_) (fun c6 => ?_)
            · exact absurd c6 (by first | decide | exact nz_lt (by omega) | exact fun h => h (nz_ge (by omega)))
            · skip
              refine lv_iconst (v := nI 1) hx hb dX6_says_36 (by decide) ?_
              refine lv_goto (tgt := 41) hx hb dX6_says_37 (by decide) ?_
              rw [← hQ]
              exact W.iret (v := nI 1) hx hb hr (fun tS htS hWS => ⟨⟨(nI 1), (), rfl, trivial, trivial⟩, hS.F htS⟩) hS.2.2 dX6_says_41
          · skip
            refine lv_if_eq (tgt := 40) hx hb dX6_says_33 (by decide) (fun c7 => ?_) (fun c7 => ?_)
            · skip
              refine lv_iconst (v := nI 0) hx hb dX6_says_40 (by decide) ?_
              rw [← hQ]
              exact W.iret (v := nI 0) hx hb hr (fun tS htS hWS => ⟨⟨(nI 0), (), rfl, trivial, trivial⟩, hS.F htS⟩) hS.2.2 dX6_says_41
            · exact absurd c7 (by first | decide | exact nz_lt (by omega) | exact fun h => h (nz_ge (by omega)))
        · exact absurd c4 (by first | decide | exact nz_lt (by omega) | exact fun h => h (nz_ge (by omega)))
      · skip
        refine lv_if_ne (tgt := 24) hx hb dX6_says_19 (by decide) (fun c8 => ?_) (fun c8 => ?_)
        · exact absurd c8 (by first | decide | exact nz_lt (by omega) | exact fun h => h (nz_ge (by omega)))
        · skip
          refine lv_iconst (v := (-1 : Int32)) hx hb dX6_says_22 (by decide) ?_
          rw [← hQ]
          exact W.iret (v := (-1 : Int32)) hx hb hr (fun tS htS hWS => ⟨⟨(-1 : Int32), (), rfl, trivial, trivial⟩, hS.F htS⟩) hS.2.2 dX6_says_23
  · skip
    refine lv_if_eq (tgt := 22) hx hb dX6_says_8 (by decide) (fun c9 => ?_) (fun c9 => ?_)
    · skip
      refine lv_iconst (v := (-1 : Int32)) hx hb dX6_says_22 (by decide) ?_
      rw [← hQ]
      exact W.iret (v := (-1 : Int32)) hx hb hr (fun tS htS hWS => ⟨⟨(-1 : Int32), (), rfl, trivial, trivial⟩, hS.F htS⟩) hS.2.2 dX6_says_23
    · exact absurd c9 (by first | decide | exact nz_lt (by omega) | exact fun h => h (nz_ge (by omega)))
def rm_c_X6_differ_g : Room := { frames := 2, cells := 0, slots := 0, locals := 45 }
set_option maxHeartbeats 400000 in
set_option maxRecDepth 100000 in
theorem c_X6_differ_g (l : Launch) (D : va_G) (cI cJ cZ : ClassId) (x0 : Nat) (h4 : Nat) (h3 : Nat) (h2 : Nat) (h1 : Nat) (hB : Nat) (h5 : Nat) (b1 : Nat) (b2 : Nat) (n : Nat) (c0 : Nat) (ry : Int32) (p0 : Int32) (p1 : Int32) (fw : Nat → Int64) (hn : n ≤ 9) (hc : c0 ≤ 40) : Met l yX6_differ wsX6_differ rm_c_X6_differ_g (pc_ D cI cJ cZ [.ref x0, .int p0, .int p1] [(x0, .inr (6, [.ref h4, .ref h3, .ref h2, .ref h1, .ref hB, .ref h5])), (h3, .inr (3, [.ref b1, .ref b2, .int (nI n), .int (nI c0), .int ry])), (b1, .inl (cJ, 320, .inr (.inl fw)))]) (va_Qi (fun (r : Int32) (_ : Unit) => True) (fun _ _ => True) aN) 0 0 aN := by
  refine Met.ofW (cc := cX6_differ) (maxL := 3) (ret := (some .int)) (by decide) rfl ?_
  intro p e s m args below meth c s₁ B hml hv
  obtain ⟨rfl, hP, hKN⟩ := hv
  have hK := hKN.1
  have hx := B.exec
  have hb := B.bytes
  have hr := B.returns
  have hts := atoms_spec (ws := wsX6_differ) B.pre
  have hown : s.vm.findClass RX6 = some m.cls := findClass_of_methodNamed B.named
  have hlocks := B.notSynchronized
  have hiX6 : ∀ w ∈ wsX60, w ∈ wsX6_differ := by decide +kernel
  have hf19 := hts (.fieldLink RX6 19 "LookBench" "rules" "LLookBench$Rules;") (by decide +kernel)
  have hS : va_S aN s.heap s.heap [] := va_S.rf
  have hl := lv_entry ([.ref x0, .int p0, .int p1]) (n := 3) (Nat.le_of_ble_eq_true rfl)
  rw [lg_entry_eq]
  generalize (lg_sl ([.ref x0, .int p0, .int p1]) ++ List.replicate (3 - (lg_sl ([.ref x0, .int p0, .int p1])).length) Slot.unset).toArray = ls at hl ⊢
  have hl : lv_has ls 3 [(0, .ref x0), (1, .int p0), (2, .int p1)] := hl
  generalize hQ : MQ below _ _ s _ _ _ = Q
  obtain ⟨H, hH⟩ : ∃ z, z = s.heap := ⟨_, rfl⟩
  have hP : va_P D vwCl [(x0, .inr (6, [.ref h4, .ref h3, .ref h2, .ref h1, .ref hB, .ref h5])), (h3, .inr (3, [.ref b1, .ref b2, .int (nI n), .int (nI c0), .int ry])), (b1, .inl (cJ, 320, .inr (.inl fw)))] H := by rw [hH]; exact hP
  have hS : va_S aN s.heap H [] := by rw [hH]; exact hS
  refine m_heap hH ?_
  clear hH
  refine lv_aload_n hx hb dX6_differ_0 rfl (lv_at hl 0 rfl) ?_
  refine va_get (D := D) (ci := 6) (v := .ref h3) (C := RX6) (T := TX6) (N := 6) hx hb hts hiX6 hown hK hP 0 rfl rfl 1 (by decide) hf19 (fun _ h9 => h9) rfl dX6_differ_1 ?_
  refine lv_iload_n hx hb dX6_differ_4 rfl (lv_at hl 1 rfl) ?_
  refine pu_i (va_runV (As := [.int p0]) (rest := []) ⟨hx, hb, hml, hown, hts⟩ (c_X3_has l D cI cJ cZ h3 b1 b2 c0 (nI n) ry p0 (by first | assumption | omega)) (cwV 1 hts gX6_differ_X3_has rfl rfl rfl (by decide +kernel) ⟨Nat.le_of_ble_eq_true rfl, Nat.le_of_ble_eq_true rfl⟩) ⟨pc_blind, va_recv hK hP (ci := 3) (q0 := 1) rfl rfl, fun U hU hW => ⟨rfl, by rw [hU]; exact hP.sub (ws' := [(h3, .inr (3, [.ref b1, .ref b2, .int (nI n), .int (nI c0), .int ry]))]) [1] rfl, hKN.warm hW⟩⟩ rfl rfl hl.1 rfl (lv_room (Nat.le_of_ble_eq_true rfl)) dX6_differ_5 ⟨Nat.le_of_ble_eq_true rfl, Nat.le_of_ble_eq_true rfl⟩) hS hP (fun r1 H locs w1r hP hS => ?_)
  have w1 : B01 r1 (0 ≤ p0.toInt ∧ p0.toInt < c0) := w1r
  clear w1r
  rcases w1 with ⟨rfl, w1⟩ | ⟨rfl, w1⟩
  · skip
    obtain ⟨j9, hj9, rfl⟩ := m_nat w1
    have tj9 : (nI j9).toInt = (j9 : Int) := nI_toInt (by omega)
    refine lv_if_eq (tgt := 34) hx hb dX6_differ_8 (by decide) (fun c2 => ?_) (fun c2 => ?_)
    · exact absurd c2 (by first | decide | exact nz_lt (by omega) | exact fun h => h (nz_ge (by omega)))
    · skip
      refine lv_aload_n hx hb dX6_differ_11 rfl (lv_at hl 0 rfl) ?_
      refine va_get (D := D) (ci := 6) (v := .ref h3) (C := RX6) (T := TX6) (N := 6) hx hb hts hiX6 hown hK hP 0 rfl rfl 1 (by decide) hf19 (fun _ h9 => h9) rfl dX6_differ_12 ?_
      refine lv_iload_n hx hb dX6_differ_15 rfl (lv_at hl 2 rfl) ?_
      refine pu_i (va_runV (As := [.int p1]) (rest := []) ⟨hx, hb, hml, hown, hts⟩ (c_X3_has l D cI cJ cZ h3 b1 b2 c0 (nI n) ry p1 (by first | assumption | omega)) (cwV 1 hts gX6_differ_X3_has rfl rfl rfl (by decide +kernel) ⟨Nat.le_of_ble_eq_true rfl, Nat.le_of_ble_eq_true rfl⟩) ⟨pc_blind, va_recv hK hP (ci := 3) (q0 := 1) rfl rfl, fun U hU hW => ⟨rfl, by rw [hU]; exact hP.sub (ws' := [(h3, .inr (3, [.ref b1, .ref b2, .int (nI n), .int (nI c0), .int ry]))]) [1] rfl, hKN.warm hW⟩⟩ rfl rfl hl.1 rfl (lv_room (Nat.le_of_ble_eq_true rfl)) dX6_differ_16 ⟨Nat.le_of_ble_eq_true rfl, Nat.le_of_ble_eq_true rfl⟩) hS hP (fun r3 H locs w3r hP hS => ?_)
      have w3 : B01 r3 (0 ≤ p1.toInt ∧ p1.toInt < c0) := w3r
      clear w3r
      rcases w3 with ⟨rfl, w3⟩ | ⟨rfl, w3⟩
      · skip
        obtain ⟨j8, hj8, rfl⟩ := m_nat w3
        have tj8 : (nI j8).toInt = (j8 : Int) := nI_toInt (by omega)
        refine lv_if_eq (tgt := 34) hx hb dX6_differ_19 (by decide) (fun c4 => ?_) (fun c4 => ?_)
        · exact absurd c4 (by first | decide | exact nz_lt (by omega) | exact fun h => h (nz_ge (by omega)))
        · skip
          refine lv_aload_n hx hb dX6_differ_22 rfl (lv_at hl 0 rfl) ?_
          refine va_get (D := D) (ci := 6) (v := .ref h3) (C := RX6) (T := TX6) (N := 6) hx hb hts hiX6 hown hK hP 0 rfl rfl 1 (by decide) hf19 (fun _ h9 => h9) rfl dX6_differ_23 ?_
          refine lv_iload_n hx hb dX6_differ_26 rfl (lv_at hl 1 rfl) ?_
          refine lv_iload_n hx hb dX6_differ_27 rfl (lv_at hl 2 rfl) ?_
          refine pu_i (va_runV (As := [.int (nI j9), .int (nI j8)]) (rest := []) ⟨hx, hb, hml, hown, hts⟩ (c_X3_firstUnlike l D cI cJ cZ h3 b1 b2 n j9 j8 (nI c0) ry fw (by first | assumption | omega) (by first | assumption | omega) (by first | assumption | omega)) (cwV 2 hts gX6_differ_X3_firstUnlike rfl rfl rfl (by decide +kernel) ⟨Nat.le_of_ble_eq_true rfl, Nat.le_of_ble_eq_true rfl⟩) ⟨pc_blind, va_recv hK hP (ci := 3) (q0 := 1) rfl rfl, fun U hU hW => ⟨rfl, by rw [hU]; exact hP.sub (ws' := [(h3, .inr (3, [.ref b1, .ref b2, .int (nI n), .int (nI c0), .int ry])), (b1, .inl (cJ, 320, .inr (.inl fw)))]) [1, 2] rfl, hKN.warm hW⟩⟩ rfl rfl hl.1 rfl (lv_room (Nat.le_of_ble_eq_true rfl)) dX6_differ_28 ⟨Nat.le_of_ble_eq_true rfl, Nat.le_of_ble_eq_true rfl⟩) hS hP (fun r5 H locs w5r hP hS => ?_)
          have w5 : (r5 = -1 ∧ ∀ z, z < 2 ^ n → (isG fw j9 z ↔ isG fw j8 z)) ∨ (∃ x, x < 2 ^ n ∧ r5 = nI x ∧ ¬ (isG fw j9 x ↔ isG fw j8 x) ∧ ∀ z, z < x → (isG fw j9 z ↔ isG fw j8 z)) := w5r
          clear w5r
          refine lv_goto (tgt := 35) hx hb dX6_differ_31 (by decide) ?_
          rw [← hQ]
          exact W.iret (v := r5) hx hb hr (fun tS htS hWS => ⟨⟨r5, (), rfl, trivial, trivial⟩, hS.F htS⟩) hS.2.2 dX6_differ_35
      · skip
        refine lv_if_eq (tgt := 34) hx hb dX6_differ_19 (by decide) (fun c6 => ?_) (fun c6 => ?_)
        · skip
          refine lv_iconst (v := (-1 : Int32)) hx hb dX6_differ_34 (by decide) ?_
          rw [← hQ]
          exact W.iret (v := (-1 : Int32)) hx hb hr (fun tS htS hWS => ⟨⟨(-1 : Int32), (), rfl, trivial, trivial⟩, hS.F htS⟩) hS.2.2 dX6_differ_35
        · exact absurd c6 (by first | decide | exact nz_lt (by omega) | exact fun h => h (nz_ge (by omega)))
  · skip
    refine lv_if_eq (tgt := 34) hx hb dX6_differ_8 (by decide) (fun c7 => ?_) (fun c7 => ?_)
    · skip
      refine lv_iconst (v := (-1 : Int32)) hx hb dX6_differ_34 (by decide) ?_
      rw [← hQ]
      exact W.iret (v := (-1 : Int32)) hx hb hr (fun tS htS hWS => ⟨⟨(-1 : Int32), (), rfl, trivial, trivial⟩, hS.F htS⟩) hS.2.2 dX6_differ_35
    · exact absurd c7 (by first | decide | exact nz_lt (by omega) | exact fun h => h (nz_ge (by omega)))
def rm_c_X6_sets_g : Room := { frames := 5, cells := 0, slots := 0, locals := 112 }
set_option maxHeartbeats 400000 in
set_option maxRecDepth 100000 in
theorem c_X6_sets_g (l : Launch) (D : va_G) (cI cJ cZ : ClassId) (x0 : Nat) (h4 : Nat) (h3 : Nat) (h2 : Nat) (h1 : Nat) (hB : Nat) (h5 : Nat) (b1 : Nat) (b2 : Nat) (n : Nat) (c0 : Nat) (y : Nat) (p0 : Int32) (fw : Nat → Int64) (hn : n ≤ 9) (hc : c0 ≤ 40) (hy : y < c0) : Met l yX6_sets wsX6_sets rm_c_X6_sets_g (pc_ D cI cJ cZ [.ref x0, .int p0] [(x0, .inr (6, [.ref h4, .ref h3, .ref h2, .ref h1, .ref hB, .ref h5])), (h3, .inr (3, [.ref b1, .ref b2, .int (nI n), .int (nI c0), .int (nI y)])), (b1, .inl (cJ, 320, .inr (.inl fw)))]) (va_Qi (fun (r : Int32) (_ : Unit) => True) (fun _ _ => True) aN) 0 0 aN := by
  refine Met.ofW (cc := cX6_sets) (maxL := 2) (ret := (some .int)) (by decide) rfl ?_
  intro p e s m args below meth c s₁ B hml hv
  obtain ⟨rfl, hP, hKN⟩ := hv
  have hK := hKN.1
  have hx := B.exec
  have hb := B.bytes
  have hr := B.returns
  have hts := atoms_spec (ws := wsX6_sets) B.pre
  have hown : s.vm.findClass RX6 = some m.cls := findClass_of_methodNamed B.named
  have hlocks := B.notSynchronized
  have hiX6 : ∀ w ∈ wsX60, w ∈ wsX6_sets := by decide +kernel
  have hf19 := hts (.fieldLink RX6 19 "LookBench" "rules" "LLookBench$Rules;") (by decide +kernel)
  have hS : va_S aN s.heap s.heap [] := va_S.rf
  have hl := lv_entry ([.ref x0, .int p0]) (n := 2) (Nat.le_of_ble_eq_true rfl)
  rw [lg_entry_eq]
  generalize (lg_sl ([.ref x0, .int p0]) ++ List.replicate (2 - (lg_sl ([.ref x0, .int p0])).length) Slot.unset).toArray = ls at hl ⊢
  have hl : lv_has ls 2 [(0, .ref x0), (1, .int p0)] := hl
  generalize hQ : MQ below _ _ s _ _ _ = Q
  obtain ⟨H, hH⟩ : ∃ z, z = s.heap := ⟨_, rfl⟩
  have hP : va_P D vwCl [(x0, .inr (6, [.ref h4, .ref h3, .ref h2, .ref h1, .ref hB, .ref h5])), (h3, .inr (3, [.ref b1, .ref b2, .int (nI n), .int (nI c0), .int (nI y)])), (b1, .inl (cJ, 320, .inr (.inl fw)))] H := by rw [hH]; exact hP
  have hS : va_S aN s.heap H [] := by rw [hH]; exact hS
  refine m_heap hH ?_
  clear hH
  have ty9 : (nI y).toInt = (y : Int) := nI_toInt (by omega)
  refine lv_iload_n hx hb dX6_sets_0 rfl (lv_at hl 1 rfl) ?_
  refine lv_if_lt (tgt := 19) hx hb dX6_sets_1 (by decide) (fun c1 => ?_) (fun c1 => ?_)
  · skip
    have d1 := c1
    rw [i_lt, i_z] at d1
    refine lv_iconst (v := (-1 : Int32)) hx hb dX6_sets_19 (by decide) ?_
    rw [← hQ]
    exact W.iret (v := (-1 : Int32)) hx hb hr (fun tS htS hWS => ⟨⟨(-1 : Int32), (), rfl, trivial, trivial⟩, hS.F htS⟩) hS.2.2 dX6_sets_20
  · skip
    have d1 := c1
    rw [i_lt, i_z] at d1
    refine lv_iload_n hx hb dX6_sets_4 rfl (lv_at hl 1 rfl) ?_
    refine lv_iconst (v := nI 1) hx hb dX6_sets_5 (by decide) ?_
    refine lv_icmp_gt (tgt := 19) hx hb dX6_sets_6 (by decide) (fun c2 => ?_) (fun c2 => ?_)
    · skip
      have d2 := c2
      rw [i_lt, nI_toInt (n := 1) (by omega)] at d2
      refine lv_iconst (v := (-1 : Int32)) hx hb dX6_sets_19 (by decide) ?_
      rw [← hQ]
      exact W.iret (v := (-1 : Int32)) hx hb hr (fun tS htS hWS => ⟨⟨(-1 : Int32), (), rfl, trivial, trivial⟩, hS.F htS⟩) hS.2.2 dX6_sets_20
    · skip
      have d2 := c2
      rw [i_lt, nI_toInt (n := 1) (by omega)] at d2
      refine lv_aload_n hx hb dX6_sets_9 rfl (lv_at hl 0 rfl) ?_
      refine va_get (D := D) (ci := 6) (v := .ref h3) (C := RX6) (T := TX6) (N := 6) hx hb hts hiX6 hown hK hP 0 rfl rfl 1 (by decide) hf19 (fun _ h9 => h9) rfl dX6_sets_10 ?_
      refine pu_i (va_runV (As := []) (rest := []) ⟨hx, hb, hml, hown, hts⟩ (c_X3_hasSystem l D cI cJ cZ h3 b1 b2 c0 (nI n) (nI y) (by first | assumption | omega)) (cwV 0 hts gX6_sets_X3_hasSystem rfl rfl rfl (by decide +kernel) ⟨Nat.le_of_ble_eq_true rfl, Nat.le_of_ble_eq_true rfl⟩) ⟨pc_blind, va_recv hK hP (ci := 3) (q0 := 1) rfl rfl, fun U hU hW => ⟨rfl, by rw [hU]; exact hP.sub (ws' := [(h3, .inr (3, [.ref b1, .ref b2, .int (nI n), .int (nI c0), .int (nI y)]))]) [1] rfl, hKN.warm hW⟩⟩ rfl rfl hl.1 rfl (lv_room (Nat.le_of_ble_eq_true rfl)) dX6_sets_13 ⟨Nat.le_of_ble_eq_true rfl, Nat.le_of_ble_eq_true rfl⟩) hS hP (fun r3 H locs w3r hP hS => ?_)
      have w3 : B01 r3 (0 ≤ (nI y).toInt ∧ (nI y).toInt < c0) := w3r
      clear w3r
      rcases w3 with ⟨rfl, w3⟩ | ⟨rfl, w3⟩
      · skip
        refine lv_if_ne (tgt := 21) hx hb dX6_sets_16 (by decide) (fun c4 => ?_) (fun c4 => ?_)
        · skip
          refine lv_aload_n hx hb dX6_sets_21 rfl (lv_at hl 0 rfl) ?_
          refine va_get (D := D) (ci := 6) (v := .ref h3) (C := RX6) (T := TX6) (N := 6) hx hb hts hiX6 hown hK hP 0 rfl rfl 1 (by decide) hf19 (fun _ h9 => h9) rfl dX6_sets_22 ?_
          refine lv_iload_n hx hb dX6_sets_25 rfl (lv_at hl 1 rfl) ?_
          refine lv_if_ne (tgt := 33) hx hb dX6_sets_26 (by decide) (fun c5 => ?_) (fun c5 => ?_)
          · skip
            have d5 := c5
            rw [i_eq, i_z] at d5
            refine lv_iconst (v := nI 0) hx hb dX6_sets_33 (by decide) ?_
            refine pu_i (va_runV (As := [.int (nI 0)]) (rest := []) ⟨hx, hb, hml, hown, hts⟩ (c_X3_countLeast l D cI cJ cZ h3 b1 b2 n y (nI c0) (nI 0) fw (by first | assumption | omega) (by first | assumption | omega)) (cwV 1 hts gX6_sets_X3_countLeast rfl rfl rfl (by decide +kernel) ⟨Nat.le_of_ble_eq_true rfl, Nat.le_of_ble_eq_true rfl⟩) ⟨pc_blind, va_recv hK hP (ci := 3) (q0 := 1) rfl rfl, fun U hU hW => ⟨rfl, by rw [hU]; exact hP.sub (ws' := [(h3, .inr (3, [.ref b1, .ref b2, .int (nI n), .int (nI c0), .int (nI y)])), (b1, .inl (cJ, 320, .inr (.inl fw)))]) [1, 2] rfl, hKN.warm hW⟩⟩ rfl rfl hl.1 rfl (lv_room (Nat.le_of_ble_eq_true rfl)) dX6_sets_34 ⟨Nat.le_of_ble_eq_true rfl, Nat.le_of_ble_eq_true rfl⟩) hS hP (fun r6 H locs w6r hP hS => ?_)
            have w6 : True := w6r
            clear w6r
            rw [← hQ]
            exact W.iret (v := r6) hx hb hr (fun tS htS hWS => ⟨⟨r6, (), rfl, trivial, trivial⟩, hS.F htS⟩) hS.2.2 dX6_sets_37
          · skip
            have d5 := c5
            rw [i_eq, i_z] at d5
            refine lv_iconst (v := nI 1) hx hb dX6_sets_29 (by decide) ?_
            refine lv_goto (tgt := 34) hx hb dX6_sets_30 (by decide) ?_
            refine pu_i (va_runV (As := [.int (nI 1)]) (rest := []) ⟨hx, hb, hml, hown, hts⟩ (c_X3_countLeast l D cI cJ cZ h3 b1 b2 n y (nI c0) (nI 1) fw (by first | assumption | omega) (by first | assumption | omega)) (cwV 1 hts gX6_sets_X3_countLeast rfl rfl rfl (by decide +kernel) ⟨Nat.le_of_ble_eq_true rfl, Nat.le_of_ble_eq_true rfl⟩) ⟨pc_blind, va_recv hK hP (ci := 3) (q0 := 1) rfl rfl, fun U hU hW => ⟨rfl, by rw [hU]; exact hP.sub (ws' := [(h3, .inr (3, [.ref b1, .ref b2, .int (nI n), .int (nI c0), .int (nI y)])), (b1, .inl (cJ, 320, .inr (.inl fw)))]) [1, 2] rfl, hKN.warm hW⟩⟩ rfl rfl hl.1 rfl (lv_room (Nat.le_of_ble_eq_true rfl)) dX6_sets_34 ⟨Nat.le_of_ble_eq_true rfl, Nat.le_of_ble_eq_true rfl⟩) hS hP (fun r7 H locs w7r hP hS => ?_)
            have w7 : True := w7r
            clear w7r
            rw [← hQ]
            exact W.iret (v := r7) hx hb hr (fun tS htS hWS => ⟨⟨r7, (), rfl, trivial, trivial⟩, hS.F htS⟩) hS.2.2 dX6_sets_37
        · exact absurd c4 (by first | decide | exact nz_lt (by omega) | exact fun h => h (nz_ge (by omega)))
      · exact absurd ⟨by omega, by omega⟩ w3
def rm_c_X6_set_g : Room := { frames := 5, cells := 0, slots := 0, locals := 113 }
set_option maxHeartbeats 400000 in
set_option maxRecDepth 100000 in
theorem c_X6_set_g (l : Launch) (D : va_G) (cI cJ cZ : ClassId) (x0 : Nat) (h4 : Nat) (h3 : Nat) (h2 : Nat) (h1 : Nat) (hB : Nat) (h5 : Nat) (b1 : Nat) (b2 : Nat) (n : Nat) (c0 : Nat) (y : Nat) (p0 : Int32) (p1 : Int32) (fw : Nat → Int64) (hn : n ≤ 9) (hc : c0 ≤ 40) (hy : y < c0) : Met l yX6_set wsX6_set rm_c_X6_set_g (pc_ D cI cJ cZ [.ref x0, .int p0, .int p1] [(x0, .inr (6, [.ref h4, .ref h3, .ref h2, .ref h1, .ref hB, .ref h5])), (h3, .inr (3, [.ref b1, .ref b2, .int (nI n), .int (nI c0), .int (nI y)])), (b1, .inl (cJ, 320, .inr (.inl fw)))]) (va_Qi (fun (r : Int32) (_ : Unit) => True) (fun _ _ => True) aN) 0 0 aN := by
  refine Met.ofW (cc := cX6_set) (maxL := 3) (ret := (some .int)) (by decide) rfl ?_
  intro p e s m args below meth c s₁ B hml hv
  obtain ⟨rfl, hP, hKN⟩ := hv
  have hK := hKN.1
  have hx := B.exec
  have hb := B.bytes
  have hr := B.returns
  have hts := atoms_spec (ws := wsX6_set) B.pre
  have hown : s.vm.findClass RX6 = some m.cls := findClass_of_methodNamed B.named
  have hlocks := B.notSynchronized
  have hiX6 : ∀ w ∈ wsX60, w ∈ wsX6_set := by decide +kernel
  have hf19 := hts (.fieldLink RX6 19 "LookBench" "rules" "LLookBench$Rules;") (by decide +kernel)
  have hS : va_S aN s.heap s.heap [] := va_S.rf
  have hl := lv_entry ([.ref x0, .int p0, .int p1]) (n := 3) (Nat.le_of_ble_eq_true rfl)
  rw [lg_entry_eq]
  generalize (lg_sl ([.ref x0, .int p0, .int p1]) ++ List.replicate (3 - (lg_sl ([.ref x0, .int p0, .int p1])).length) Slot.unset).toArray = ls at hl ⊢
  have hl : lv_has ls 3 [(0, .ref x0), (1, .int p0), (2, .int p1)] := hl
  generalize hQ : MQ below _ _ s _ _ _ = Q
  obtain ⟨H, hH⟩ : ∃ z, z = s.heap := ⟨_, rfl⟩
  have hP : va_P D vwCl [(x0, .inr (6, [.ref h4, .ref h3, .ref h2, .ref h1, .ref hB, .ref h5])), (h3, .inr (3, [.ref b1, .ref b2, .int (nI n), .int (nI c0), .int (nI y)])), (b1, .inl (cJ, 320, .inr (.inl fw)))] H := by rw [hH]; exact hP
  have hS : va_S aN s.heap H [] := by rw [hH]; exact hS
  refine m_heap hH ?_
  clear hH
  have ty9 : (nI y).toInt = (y : Int) := nI_toInt (by omega)
  refine lv_iload_n hx hb dX6_set_0 rfl (lv_at hl 1 rfl) ?_
  refine lv_if_lt (tgt := 23) hx hb dX6_set_1 (by decide) (fun c1 => ?_) (fun c1 => ?_)
  · skip
    have d1 := c1
    rw [i_lt, i_z] at d1
    refine lv_iconst (v := (-1 : Int32)) hx hb dX6_set_23 (by decide) ?_
    rw [← hQ]
    exact W.iret (v := (-1 : Int32)) hx hb hr (fun tS htS hWS => ⟨⟨(-1 : Int32), (), rfl, trivial, trivial⟩, hS.F htS⟩) hS.2.2 dX6_set_24
  · skip
    have d1 := c1
    rw [i_lt, i_z] at d1
    refine lv_iload_n hx hb dX6_set_4 rfl (lv_at hl 1 rfl) ?_
    refine lv_iconst (v := nI 1) hx hb dX6_set_5 (by decide) ?_
    refine lv_icmp_gt (tgt := 23) hx hb dX6_set_6 (by decide) (fun c2 => ?_) (fun c2 => ?_)
    · skip
      have d2 := c2
      rw [i_lt, nI_toInt (n := 1) (by omega)] at d2
      refine lv_iconst (v := (-1 : Int32)) hx hb dX6_set_23 (by decide) ?_
      rw [← hQ]
      exact W.iret (v := (-1 : Int32)) hx hb hr (fun tS htS hWS => ⟨⟨(-1 : Int32), (), rfl, trivial, trivial⟩, hS.F htS⟩) hS.2.2 dX6_set_24
    · skip
      have d2 := c2
      rw [i_lt, nI_toInt (n := 1) (by omega)] at d2
      refine lv_iload_n hx hb dX6_set_9 rfl (lv_at hl 2 rfl) ?_
      refine lv_if_lt (tgt := 23) hx hb dX6_set_10 (by decide) (fun c3 => ?_) (fun c3 => ?_)
      · skip
        have d3 := c3
        rw [i_lt, i_z] at d3
        refine lv_iconst (v := (-1 : Int32)) hx hb dX6_set_23 (by decide) ?_
        rw [← hQ]
        exact W.iret (v := (-1 : Int32)) hx hb hr (fun tS htS hWS => ⟨⟨(-1 : Int32), (), rfl, trivial, trivial⟩, hS.F htS⟩) hS.2.2 dX6_set_24
      · skip
        have d3 := c3
        rw [i_lt, i_z] at d3
        refine lv_aload_n hx hb dX6_set_13 rfl (lv_at hl 0 rfl) ?_
        refine va_get (D := D) (ci := 6) (v := .ref h3) (C := RX6) (T := TX6) (N := 6) hx hb hts hiX6 hown hK hP 0 rfl rfl 1 (by decide) hf19 (fun _ h9 => h9) rfl dX6_set_14 ?_
        refine pu_i (va_runV (As := []) (rest := []) ⟨hx, hb, hml, hown, hts⟩ (c_X3_hasSystem l D cI cJ cZ h3 b1 b2 c0 (nI n) (nI y) (by first | assumption | omega)) (cwV 0 hts gX6_set_X3_hasSystem rfl rfl rfl (by decide +kernel) ⟨Nat.le_of_ble_eq_true rfl, Nat.le_of_ble_eq_true rfl⟩) ⟨pc_blind, va_recv hK hP (ci := 3) (q0 := 1) rfl rfl, fun U hU hW => ⟨rfl, by rw [hU]; exact hP.sub (ws' := [(h3, .inr (3, [.ref b1, .ref b2, .int (nI n), .int (nI c0), .int (nI y)]))]) [1] rfl, hKN.warm hW⟩⟩ rfl rfl hl.1 rfl (lv_room (Nat.le_of_ble_eq_true rfl)) dX6_set_17 ⟨Nat.le_of_ble_eq_true rfl, Nat.le_of_ble_eq_true rfl⟩) hS hP (fun r4 H locs w4r hP hS => ?_)
        have w4 : B01 r4 (0 ≤ (nI y).toInt ∧ (nI y).toInt < c0) := w4r
        clear w4r
        rcases w4 with ⟨rfl, w4⟩ | ⟨rfl, w4⟩
        · skip
          refine lv_if_ne (tgt := 25) hx hb dX6_set_20 (by decide) (fun c5 => ?_) (fun c5 => ?_)
          · skip
            refine lv_aload_n hx hb dX6_set_25 rfl (lv_at hl 0 rfl) ?_
            refine va_get (D := D) (ci := 6) (v := .ref h3) (C := RX6) (T := TX6) (N := 6) hx hb hts hiX6 hown hK hP 0 rfl rfl 1 (by decide) hf19 (fun _ h9 => h9) rfl dX6_set_26 ?_
            refine lv_iload_n hx hb dX6_set_29 rfl (lv_at hl 1 rfl) ?_
            refine lv_if_ne (tgt := 37) hx hb dX6_set_30 (by decide) (fun c6 => ?_) (fun c6 => ?_)
            · skip
              have d6 := c6
              rw [i_eq, i_z] at d6
              refine lv_iconst (v := nI 0) hx hb dX6_set_37 (by decide) ?_
              refine lv_iload_n hx hb dX6_set_38 rfl (lv_at hl 2 rfl) ?_
              refine pu_i (va_runV (As := [.int (nI 0), .int p1]) (rest := []) ⟨hx, hb, hml, hown, hts⟩ (c_X3_findLeast l D cI cJ cZ h3 b1 b2 n y (nI c0) (nI 0) p1 fw (by first | assumption | omega) (by first | assumption | omega)) (cwV 2 hts gX6_set_X3_findLeast rfl rfl rfl (by decide +kernel) ⟨Nat.le_of_ble_eq_true rfl, Nat.le_of_ble_eq_true rfl⟩) ⟨pc_blind, va_recv hK hP (ci := 3) (q0 := 1) rfl rfl, fun U hU hW => ⟨rfl, by rw [hU]; exact hP.sub (ws' := [(h3, .inr (3, [.ref b1, .ref b2, .int (nI n), .int (nI c0), .int (nI y)])), (b1, .inl (cJ, 320, .inr (.inl fw)))]) [1, 2] rfl, hKN.warm hW⟩⟩ rfl rfl hl.1 rfl (lv_room (Nat.le_of_ble_eq_true rfl)) dX6_set_39 ⟨Nat.le_of_ble_eq_true rfl, Nat.le_of_ble_eq_true rfl⟩) hS hP (fun r7 H locs w7r hP hS => ?_)
              have w7 : True := w7r
              clear w7r
              rw [← hQ]
              exact W.iret (v := r7) hx hb hr (fun tS htS hWS => ⟨⟨r7, (), rfl, trivial, trivial⟩, hS.F htS⟩) hS.2.2 dX6_set_42
            · skip
              have d6 := c6
              rw [i_eq, i_z] at d6
              refine lv_iconst (v := nI 1) hx hb dX6_set_33 (by decide) ?_
              refine lv_goto (tgt := 38) hx hb dX6_set_34 (by decide) ?_
              refine lv_iload_n hx hb dX6_set_38 rfl (lv_at hl 2 rfl) ?_
              refine pu_i (va_runV (As := [.int (nI 1), .int p1]) (rest := []) ⟨hx, hb, hml, hown, hts⟩ (c_X3_findLeast l D cI cJ cZ h3 b1 b2 n y (nI c0) (nI 1) p1 fw (by first | assumption | omega) (by first | assumption | omega)) (cwV 2 hts gX6_set_X3_findLeast rfl rfl rfl (by decide +kernel) ⟨Nat.le_of_ble_eq_true rfl, Nat.le_of_ble_eq_true rfl⟩) ⟨pc_blind, va_recv hK hP (ci := 3) (q0 := 1) rfl rfl, fun U hU hW => ⟨rfl, by rw [hU]; exact hP.sub (ws' := [(h3, .inr (3, [.ref b1, .ref b2, .int (nI n), .int (nI c0), .int (nI y)])), (b1, .inl (cJ, 320, .inr (.inl fw)))]) [1, 2] rfl, hKN.warm hW⟩⟩ rfl rfl hl.1 rfl (lv_room (Nat.le_of_ble_eq_true rfl)) dX6_set_39 ⟨Nat.le_of_ble_eq_true rfl, Nat.le_of_ble_eq_true rfl⟩) hS hP (fun r8 H locs w8r hP hS => ?_)
              have w8 : True := w8r
              clear w8r
              rw [← hQ]
              exact W.iret (v := r8) hx hb hr (fun tS htS hWS => ⟨⟨r8, (), rfl, trivial, trivial⟩, hS.F htS⟩) hS.2.2 dX6_set_42
          · exact absurd c5 (by first | decide | exact nz_lt (by omega) | exact fun h => h (nz_ge (by omega)))
        · exact absurd ⟨by omega, by omega⟩ w4
def rm_c_X6_sure_g : Room := { frames := 3, cells := 0, slots := 0, locals := 65 }
set_option maxHeartbeats 400000 in
set_option maxRecDepth 100000 in
theorem c_X6_sure_g (l : Launch) (D : va_G) (cI cJ cZ : ClassId) (x0 : Nat) (h4 : Nat) (h3 : Nat) (h2 : Nat) (h1 : Nat) (hB : Nat) (h5 : Nat) (a1 : Nat) (a2 : Nat) (a3 : Nat) (b1 : Nat) (b2 : Nat) (n : Nat) (c0 : Nat) (y : Nat) (sa : Nat) (sv : Nat) (fw : Nat → Int64) (hn : n ≤ 9) (hc : c0 ≤ 40) (hy : y < c0) (hsa : sa < 2 ^ n) (hsv : sv < 2 ^ n) : Met l yX6_sure wsX6_sure rm_c_X6_sure_g (pc_ D cI cJ cZ [.ref x0] [(x0, .inr (6, [.ref h4, .ref h3, .ref h2, .ref h1, .ref hB, .ref h5])), (h4, .inr (4, [.ref a1, .ref a2, .ref a3, .int (nI n), .int (nI sa), .int (nI sv)])), (h3, .inr (3, [.ref b1, .ref b2, .int (nI n), .int (nI c0), .int (nI y)])), (b1, .inl (cJ, 320, .inr (.inl fw)))]) (va_Qi (fun (r : Int32) (_ : Unit) => VD r fw y sv ((2 ^ n - 1) ^^^ sa)) (fun _ _ => True) aN) 0 0 aN := by
  refine Met.ofW (cc := cX6_sure) (maxL := 1) (ret := (some .int)) (by decide) rfl ?_
  intro p e s m args below meth c s₁ B hml hv
  obtain ⟨rfl, hP, hKN⟩ := hv
  have hK := hKN.1
  have hx := B.exec
  have hb := B.bytes
  have hr := B.returns
  have hts := atoms_spec (ws := wsX6_sure) B.pre
  have hown : s.vm.findClass RX6 = some m.cls := findClass_of_methodNamed B.named
  have hlocks := B.notSynchronized
  have hiX4 : ∀ w ∈ wsX40, w ∈ wsX6_sure := by decide +kernel
  have hiX6 : ∀ w ∈ wsX60, w ∈ wsX6_sure := by decide +kernel
  have hf10 := hts (.fieldLink RX6 10 "LookBench" "shelf" "LLookBench$Shelf;") (by decide +kernel)
  have hf19 := hts (.fieldLink RX6 19 "LookBench" "rules" "LLookBench$Rules;") (by decide +kernel)
  have hf141 := va_Nw.use (A := [.ref x0].toArray) rfl (hKN.2 (.fieldLinkNest RX6 141 RX4 "seenGood" "I" RX6) (by decide +kernel))
  have hS : va_S aN s.heap s.heap [] := va_S.rf
  have hl := lv_entry ([.ref x0]) (n := 1) (Nat.le_of_ble_eq_true rfl)
  rw [lg_entry_eq]
  generalize (lg_sl ([.ref x0]) ++ List.replicate (1 - (lg_sl ([.ref x0])).length) Slot.unset).toArray = ls at hl ⊢
  have hl : lv_has ls 1 [(0, .ref x0)] := hl
  generalize hQ : MQ below _ _ s _ _ _ = Q
  obtain ⟨H, hH⟩ : ∃ z, z = s.heap := ⟨_, rfl⟩
  have hP : va_P D vwCl [(x0, .inr (6, [.ref h4, .ref h3, .ref h2, .ref h1, .ref hB, .ref h5])), (h4, .inr (4, [.ref a1, .ref a2, .ref a3, .int (nI n), .int (nI sa), .int (nI sv)])), (h3, .inr (3, [.ref b1, .ref b2, .int (nI n), .int (nI c0), .int (nI y)])), (b1, .inl (cJ, 320, .inr (.inl fw)))] H := by rw [hH]; exact hP
  have hS : va_S aN s.heap H [] := by rw [hH]; exact hS
  refine m_heap hH ?_
  clear hH
  have h2n := m_pow hn
  have h2p := m_powp n
  have ty9 : (nI y).toInt = (y : Int) := nI_toInt (by omega)
  have hx9 := m_x9 (a := 2 ^ n - 1) (n := n) (by omega) hsa
  refine lv_aload_n hx hb dX6_sure_0 rfl (lv_at hl 0 rfl) ?_
  refine va_get (D := D) (ci := 6) (v := .ref h3) (C := RX6) (T := TX6) (N := 6) hx hb hts hiX6 hown hK hP 0 rfl rfl 1 (by decide) hf19 (fun _ h9 => h9) rfl dX6_sure_1 ?_
  refine pu_i (va_runV (As := []) (rest := []) ⟨hx, hb, hml, hown, hts⟩ (c_X3_hasSystem l D cI cJ cZ h3 b1 b2 c0 (nI n) (nI y) (by first | assumption | omega)) (cwV 0 hts gX6_sure_X3_hasSystem rfl rfl rfl (by decide +kernel) ⟨Nat.le_of_ble_eq_true rfl, Nat.le_of_ble_eq_true rfl⟩) ⟨pc_blind, va_recv hK hP (ci := 3) (q0 := 2) rfl rfl, fun U hU hW => ⟨rfl, by rw [hU]; exact hP.sub (ws' := [(h3, .inr (3, [.ref b1, .ref b2, .int (nI n), .int (nI c0), .int (nI y)]))]) [2] rfl, hKN.warm hW⟩⟩ rfl rfl hl.1 rfl (lv_room (Nat.le_of_ble_eq_true rfl)) dX6_sure_4 ⟨Nat.le_of_ble_eq_true rfl, Nat.le_of_ble_eq_true rfl⟩) hS hP (fun r1 H locs w1r hP hS => ?_)
  have w1 : B01 r1 (0 ≤ (nI y).toInt ∧ (nI y).toInt < c0) := w1r
  clear w1r
  rcases w1 with ⟨rfl, w1⟩ | ⟨rfl, w1⟩
  · skip
    refine lv_if_eq (tgt := 34) hx hb dX6_sure_7 (by decide) (fun c2 => ?_) (fun c2 => ?_)
    · exact absurd c2 (by first | decide | exact nz_lt (by omega) | exact fun h => h (nz_ge (by omega)))
    · skip
      refine lv_aload_n hx hb dX6_sure_10 rfl (lv_at hl 0 rfl) ?_
      refine va_get (D := D) (ci := 6) (v := .ref h3) (C := RX6) (T := TX6) (N := 6) hx hb hts hiX6 hown hK hP 0 rfl rfl 1 (by decide) hf19 (fun _ h9 => h9) rfl dX6_sure_11 ?_
      refine lv_aload_n hx hb dX6_sure_14 rfl (lv_at hl 0 rfl) ?_
      refine va_get (D := D) (ci := 6) (v := .ref h4) (C := RX6) (T := TX6) (N := 6) hx hb hts hiX6 hown hK hP 0 rfl rfl 0 (by decide) hf10 (fun _ h9 => h9) rfl dX6_sure_15 ?_
      refine va_getN (D := D) (ci := 4) (v := .int (nI sv)) (C := RX4) (T := TX4) (N := 6) hx hb hts hiX4 hown hK hP 1 rfl rfl 5 (by decide) hf141 (fun _ h9 => h9) rfl dX6_sure_18 ?_
      refine lv_aload_n hx hb dX6_sure_21 rfl (lv_at hl 0 rfl) ?_
      refine va_get (D := D) (ci := 6) (v := .ref h4) (C := RX6) (T := TX6) (N := 6) hx hb hts hiX6 hown hK hP 0 rfl rfl 0 (by decide) hf10 (fun _ h9 => h9) rfl dX6_sure_22 ?_
      refine pu_i (va_runV (As := []) (rest := [.int (nI sv), .ref h3]) ⟨hx, hb, hml, hown, hts⟩ (c_X4_unseen l D cI cJ cZ h4 a1 a2 a3 n (nI sa) (nI sv) (by first | assumption | omega)) (cwV 0 hts gX6_sure_X4_unseen rfl rfl rfl (by decide +kernel) ⟨Nat.le_of_ble_eq_true rfl, Nat.le_of_ble_eq_true rfl⟩) ⟨pc_blind, va_recv hK hP (ci := 4) (q0 := 1) rfl rfl, fun U hU hW => ⟨rfl, by rw [hU]; exact hP.sub (ws' := [(h4, .inr (4, [.ref a1, .ref a2, .ref a3, .int (nI n), .int (nI sa), .int (nI sv)]))]) [1] rfl, hKN.warm hW⟩⟩ rfl rfl hl.1 rfl (lv_room (Nat.le_of_ble_eq_true rfl)) dX6_sure_25 ⟨Nat.le_of_ble_eq_true rfl, Nat.le_of_ble_eq_true rfl⟩) hS hP (fun r3 H locs w3r hP hS => ?_)
      have w3 : r3 = nI (2 ^ n - 1) &&& ((nI sa) ^^^ (-1)) := w3r
      clear w3r
      obtain rfl := w3.trans (mb_not hsa hn)
      refine pu_i (va_runV (As := [.int (nI sv), .int (nI ((2 ^ n - 1) ^^^ sa))]) (rest := []) ⟨hx, hb, hml, hown, hts⟩ (c_X3_verdict l D cI cJ cZ h3 b1 b2 y sv ((2 ^ n - 1) ^^^ sa) (nI n) (nI c0) fw (by first | assumption | omega) (by first | assumption | omega) (by first | assumption | omega)) (cwV 2 hts gX6_sure_X3_verdict rfl rfl rfl (by decide +kernel) ⟨Nat.le_of_ble_eq_true rfl, Nat.le_of_ble_eq_true rfl⟩) ⟨pc_blind, va_recv hK hP (ci := 3) (q0 := 2) rfl rfl, fun U hU hW => ⟨rfl, by rw [hU]; exact hP.sub (ws' := [(h3, .inr (3, [.ref b1, .ref b2, .int (nI n), .int (nI c0), .int (nI y)])), (b1, .inl (cJ, 320, .inr (.inl fw)))]) [2, 3] rfl, hKN.warm hW⟩⟩ rfl rfl hl.1 rfl (lv_room (Nat.le_of_ble_eq_true rfl)) dX6_sure_28 ⟨Nat.le_of_ble_eq_true rfl, Nat.le_of_ble_eq_true rfl⟩) hS hP (fun r4 H locs w4r hP hS => ?_)
      have w4 : VD r4 fw y sv ((2 ^ n - 1) ^^^ sa) := w4r
      clear w4r
      refine lv_goto (tgt := 36) hx hb dX6_sure_31 (by decide) ?_
      rw [← hQ]
      exact W.iret (v := r4) hx hb hr (fun tS htS hWS => ⟨⟨r4, (), rfl, by assumption, trivial⟩, hS.F htS⟩) hS.2.2 dX6_sure_36
  · exact absurd ⟨by omega, by omega⟩ w1
def rm_c_X6_part_g : Room := { frames := 1, cells := 0, slots := 0, locals := 24 }
set_option maxHeartbeats 400000 in
set_option maxRecDepth 100000 in
theorem c_X6_part_g (l : Launch) (D : va_G) (cI cJ cZ : ClassId) (x0 : Nat) (h4 : Nat) (h3 : Nat) (h2 : Nat) (h1 : Nat) (hB : Nat) (h5 : Nat) (a1 : Nat) (a2 : Nat) (a3 : Nat) (p4 : Nat) (p5 : Nat) (p6 : Nat) (fr1 : Int32) (n : Nat) (sn : Int32) (sg : Int32) (p0 : Int32) (g0 : Int32) (f0 : Int32) (r0 : Int32) (fg : Nat → Int32) (fb : Nat → Int32) (fp : Nat → Int32) (hn : n ≤ 9) : Met l yX6_part wsX6_part rm_c_X6_part_g (pm_ D cI cJ cZ [.ref x0, .int p0, .int g0, .int f0, .int r0] [(x0, .inr (6, [.ref h4, .ref h3, .ref h2, .ref h1, .ref hB, .ref h5])), (h4, .inr (4, [.ref a1, .ref a2, .ref a3, .int (nI n), .int sn, .int sg])), (a1, .inl (cI, 9, .inl fg)), (a2, .inl (cI, 9, .inl fb)), (a3, .inl (cI, 9, .inl fp)), (h1, .inr (1, [.ref h4, .ref h3, .ref h2, .ref p4, .ref p5, .ref p6, .int fr1]))]) (va_Qi (fun (r : Int32) (u : (Nat → Int32) × (Nat → Int32) × (Nat → Int32) × Int32) => (r = nI 1 ∧ (0 ≤ p0.toInt ∧ p0.toInt < n ∧ 1 ≤ g0.toInt ∧ g0.toInt ≤ 9 ∧ 1 ≤ f0.toInt ∧ f0.toInt ≤ 9 ∧ 0 ≤ r0.toInt ∧ r0.toInt ≤ 1000) ∧ u.1 = upd fg p0.toInt.toNat g0 ∧ u.2.1 = upd fb p0.toInt.toNat f0 ∧ u.2.2.1 = upd fp p0.toInt.toNat r0 ∧ u.2.2.2 = nI 0) ∨ (r = nI 0 ∧ ¬ (0 ≤ p0.toInt ∧ p0.toInt < n ∧ 1 ≤ g0.toInt ∧ g0.toInt ≤ 9 ∧ 1 ≤ f0.toInt ∧ f0.toInt ≤ 9 ∧ 0 ≤ r0.toInt ∧ r0.toInt ≤ 1000) ∧ u.1 = fg ∧ u.2.1 = fb ∧ u.2.2.1 = fp ∧ u.2.2.2 = fr1)) (fun (u : (Nat → Int32) × (Nat → Int32) × (Nat → Int32) × Int32) tS => va_P D vwCl [(x0, .inr (6, [.ref h4, .ref h3, .ref h2, .ref h1, .ref hB, .ref h5])), (h4, .inr (4, [.ref a1, .ref a2, .ref a3, .int (nI n), .int sn, .int sg])), (a1, .inl (cI, 9, .inl u.1)), (a2, .inl (cI, 9, .inl u.2.1)), (a3, .inl (cI, 9, .inl u.2.2.1)), (h1, .inr (1, [.ref h4, .ref h3, .ref h2, .ref p4, .ref p5, .ref p6, .int u.2.2.2]))] tS.heap) (aA [x0, h4, a1, a2, a3, h1])) 0 0 (aA [x0, h4, a1, a2, a3, h1]) := by
  refine Met.ofW (cc := cX6_part) (maxL := 5) (ret := (some .boolean)) (by decide) rfl ?_
  intro p e s m args below meth c s₁ B hml hv
  obtain ⟨rfl, hP, hKN, hD0⟩ := hv
  have hK := hKN.1
  have hx := B.exec
  have hb := B.bytes
  have hr := B.returns
  have hts := atoms_spec (ws := wsX6_part) B.pre
  have hown : s.vm.findClass RX6 = some m.cls := findClass_of_methodNamed B.named
  have hlocks := B.notSynchronized
  have hiX6 : ∀ w ∈ wsX60, w ∈ wsX6_part := by decide +kernel
  have hf10 := hts (.fieldLink RX6 10 "LookBench" "shelf" "LLookBench$Shelf;") (by decide +kernel)
  have hf35 := hts (.fieldLink RX6 35 "LookBench" "plans" "LLookBench$Plans;") (by decide +kernel)
  obtain ⟨as, has⟩ : ∃ z : List Nat, z = [x0, h4, a1, a2, a3, h1] := ⟨_, rfl⟩
  have hD := hD0.addr (as := as) (by rw [has]; rfl)
  have hS : va_S (aA as) s.heap s.heap [] := va_S.rf
  have hl := lv_entry ([.ref x0, .int p0, .int g0, .int f0, .int r0]) (n := 5) (Nat.le_of_ble_eq_true rfl)
  rw [lg_entry_eq]
  generalize (lg_sl ([.ref x0, .int p0, .int g0, .int f0, .int r0]) ++ List.replicate (5 - (lg_sl ([.ref x0, .int p0, .int g0, .int f0, .int r0])).length) Slot.unset).toArray = ls at hl ⊢
  have hl : lv_has ls 5 [(0, .ref x0), (1, .int p0), (2, .int g0), (3, .int f0), (4, .int r0)] := hl
  generalize hQ : MQ below _ _ s _ _ _ = Q
  obtain ⟨H, hH⟩ : ∃ z, z = s.heap := ⟨_, rfl⟩
  have hP : va_P D vwCl [(x0, .inr (6, [.ref h4, .ref h3, .ref h2, .ref h1, .ref hB, .ref h5])), (h4, .inr (4, [.ref a1, .ref a2, .ref a3, .int (nI n), .int sn, .int sg])), (a1, .inl (cI, 9, .inl fg)), (a2, .inl (cI, 9, .inl fb)), (a3, .inl (cI, 9, .inl fp)), (h1, .inr (1, [.ref h4, .ref h3, .ref h2, .ref p4, .ref p5, .ref p6, .int fr1]))] H := by rw [hH]; exact hP
  have hS : va_S (aA as) s.heap H [] := by rw [hH]; exact hS
  refine m_heap hH ?_
  clear hH
  refine lv_aload_n hx hb dX6_part_0 rfl (lv_at hl 0 rfl) ?_
  refine va_get (D := D) (ci := 6) (v := .ref h4) (C := RX6) (T := TX6) (N := 6) hx hb hts hiX6 hown hK hP 0 rfl rfl 0 (by decide) hf10 (fun _ h9 => h9) rfl dX6_part_1 ?_
  refine lv_iload_n hx hb dX6_part_4 rfl (lv_at hl 1 rfl) ?_
  refine pu_i (va_runV (As := [.int p0]) (rest := []) ⟨hx, hb, hml, hown, hts⟩ (c_X4_has l D cI cJ cZ h4 a1 a2 a3 n sn sg p0 (by first | assumption | omega)) (cwV 1 hts gX6_part_X4_has rfl rfl rfl (by decide +kernel) ⟨Nat.le_of_ble_eq_true rfl, Nat.le_of_ble_eq_true rfl⟩) ⟨pc_blind, va_recv hK hP (ci := 4) (q0 := 1) rfl rfl, fun U hU hW => ⟨rfl, by rw [hU]; exact hP.sub (ws' := [(h4, .inr (4, [.ref a1, .ref a2, .ref a3, .int (nI n), .int sn, .int sg]))]) [1] rfl, hKN.warm hW⟩⟩ rfl rfl hl.1 rfl (lv_room (Nat.le_of_ble_eq_true rfl)) dX6_part_5 ⟨Nat.le_of_ble_eq_true rfl, Nat.le_of_ble_eq_true rfl⟩) hS hP (fun r1 H locs w1r hP hS => ?_)
  have w1 : B01 r1 (0 ≤ p0.toInt ∧ p0.toInt < n) := w1r
  clear w1r
  rcases w1 with ⟨rfl, w1⟩ | ⟨rfl, w1⟩
  · skip
    obtain ⟨j9, hj9, rfl⟩ := m_nat w1
    have tj9 : (nI j9).toInt = (j9 : Int) := nI_toInt (by omega)
    refine lv_if_eq (tgt := 46) hx hb dX6_part_8 (by decide) (fun c2 => ?_) (fun c2 => ?_)
    · exact absurd c2 (by first | decide | exact nz_lt (by omega) | exact fun h => h (nz_ge (by omega)))
    · skip
      refine lv_iload_n hx hb dX6_part_11 rfl (lv_at hl 2 rfl) ?_
      refine lv_iconst (v := nI 1) hx hb dX6_part_12 (by decide) ?_
      refine lv_icmp_lt (tgt := 46) hx hb dX6_part_13 (by decide) (fun c3 => ?_) (fun c3 => ?_)
      · skip
        have d3 := c3
        rw [i_lt, nI_toInt (n := 1) (by omega)] at d3
        refine lv_iconst (v := nI 0) hx hb dX6_part_46 (by decide) ?_
        rw [← hQ]
        exact W.zret (v := nI 0) hx hb hr (by first | decide | (rw [nar_b01])) (fun tS htS hWS => ⟨⟨(nI 0), (fg, fb, fp, fr1), rfl, Or.inr ⟨rfl, by omega, rfl, rfl, rfl, rfl⟩, m_at htS hP⟩, by rw [← has]; exact hS.F htS⟩) (by rw [← has]; exact hS.2.2) dX6_part_47
      · skip
        have d3 := c3
        rw [i_lt, nI_toInt (n := 1) (by omega)] at d3
        refine lv_iload_n hx hb dX6_part_16 rfl (lv_at hl 2 rfl) ?_
        refine lv_bipush (v := nI 9) hx hb dX6_part_17 (by decide) ?_
        refine lv_icmp_gt (tgt := 46) hx hb dX6_part_19 (by decide) (fun c4 => ?_) (fun c4 => ?_)
        · skip
          have d4 := c4
          rw [i_lt, nI_toInt (n := 9) (by omega)] at d4
          refine lv_iconst (v := nI 0) hx hb dX6_part_46 (by decide) ?_
          rw [← hQ]
          exact W.zret (v := nI 0) hx hb hr (by first | decide | (rw [nar_b01])) (fun tS htS hWS => ⟨⟨(nI 0), (fg, fb, fp, fr1), rfl, Or.inr ⟨rfl, by omega, rfl, rfl, rfl, rfl⟩, m_at htS hP⟩, by rw [← has]; exact hS.F htS⟩) (by rw [← has]; exact hS.2.2) dX6_part_47
        · skip
          have d4 := c4
          rw [i_lt, nI_toInt (n := 9) (by omega)] at d4
          refine lv_iload_n hx hb dX6_part_22 rfl (lv_at hl 3 rfl) ?_
          refine lv_iconst (v := nI 1) hx hb dX6_part_23 (by decide) ?_
          refine lv_icmp_lt (tgt := 46) hx hb dX6_part_24 (by decide) (fun c5 => ?_) (fun c5 => ?_)
          · skip
            have d5 := c5
            rw [i_lt, nI_toInt (n := 1) (by omega)] at d5
            refine lv_iconst (v := nI 0) hx hb dX6_part_46 (by decide) ?_
            rw [← hQ]
            exact W.zret (v := nI 0) hx hb hr (by first | decide | (rw [nar_b01])) (fun tS htS hWS => ⟨⟨(nI 0), (fg, fb, fp, fr1), rfl, Or.inr ⟨rfl, by omega, rfl, rfl, rfl, rfl⟩, m_at htS hP⟩, by rw [← has]; exact hS.F htS⟩) (by rw [← has]; exact hS.2.2) dX6_part_47
          · skip
            have d5 := c5
            rw [i_lt, nI_toInt (n := 1) (by omega)] at d5
            refine lv_iload_n hx hb dX6_part_27 rfl (lv_at hl 3 rfl) ?_
            refine lv_bipush (v := nI 9) hx hb dX6_part_28 (by decide) ?_
            refine lv_icmp_gt (tgt := 46) hx hb dX6_part_30 (by decide) (fun c6 => ?_) (fun c6 => ?_)
            · skip
              have d6 := c6
              rw [i_lt, nI_toInt (n := 9) (by omega)] at d6
              refine lv_iconst (v := nI 0) hx hb dX6_part_46 (by decide) ?_
              rw [← hQ]
              exact W.zret (v := nI 0) hx hb hr (by first | decide | (rw [nar_b01])) (fun tS htS hWS => ⟨⟨(nI 0), (fg, fb, fp, fr1), rfl, Or.inr ⟨rfl, by omega, rfl, rfl, rfl, rfl⟩, m_at htS hP⟩, by rw [← has]; exact hS.F htS⟩) (by rw [← has]; exact hS.2.2) dX6_part_47
            · skip
              have d6 := c6
              rw [i_lt, nI_toInt (n := 9) (by omega)] at d6
              refine lv_iload hx hb dX6_part_33 (lv_at hl 4 rfl) ?_
              refine lv_if_lt (tgt := 46) hx hb dX6_part_35 (by decide) (fun c7 => ?_) (fun c7 => ?_)
              · skip
                have d7 := c7
                rw [i_lt, i_z] at d7
                refine lv_iconst (v := nI 0) hx hb dX6_part_46 (by decide) ?_
                rw [← hQ]
                exact W.zret (v := nI 0) hx hb hr (by first | decide | (rw [nar_b01])) (fun tS htS hWS => ⟨⟨(nI 0), (fg, fb, fp, fr1), rfl, Or.inr ⟨rfl, by omega, rfl, rfl, rfl, rfl⟩, m_at htS hP⟩, by rw [← has]; exact hS.F htS⟩) (by rw [← has]; exact hS.2.2) dX6_part_47
              · skip
                have d7 := c7
                rw [i_lt, i_z] at d7
                refine lv_iload hx hb dX6_part_38 (lv_at hl 4 rfl) ?_
                refine lv_sipush (v := nI 1000) hx hb dX6_part_40 (by decide) ?_
                refine lv_icmp_le (tgt := 48) hx hb dX6_part_43 (by decide) (fun c8 => ?_) (fun c8 => ?_)
                · skip
                  have d8 := c8
                  rw [i_le, nI_toInt (n := 1000) (by omega)] at d8
                  refine lv_aload_n hx hb dX6_part_48 rfl (lv_at hl 0 rfl) ?_
                  refine va_get (D := D) (ci := 6) (v := .ref h4) (C := RX6) (T := TX6) (N := 6) hx hb hts hiX6 hown hK hP 0 rfl rfl 0 (by decide) hf10 (fun _ h9 => h9) rfl dX6_part_49 ?_
                  refine lv_iload_n hx hb dX6_part_52 rfl (lv_at hl 1 rfl) ?_
                  refine lv_iload_n hx hb dX6_part_53 rfl (lv_at hl 2 rfl) ?_
                  refine lv_iload_n hx hb dX6_part_54 rfl (lv_at hl 3 rfl) ?_
                  refine lv_iload hx hb dX6_part_55 (lv_at hl 4 rfl) ?_
                  refine mu2_v (n := 6) (wc := [(h4, .inr (4, [.ref a1, .ref a2, .ref a3, .int (nI n), .int sn, .int sg])), (a1, .inl (cI, 9, .inl fg)), (a2, .inl (cI, 9, .inl fb)), (a3, .inl (cI, 9, .inl fp))]) (wr := [(x0, .inr (6, [.ref h4, .ref h3, .ref h2, .ref h1, .ref hB, .ref h5])), (h1, .inr (1, [.ref h4, .ref h3, .ref h2, .ref p4, .ref p5, .ref p6, .int fr1]))]) (as0 := [x0, h4, a1, a2, a3, h1]) (va_runV (As := [.int (nI j9), .int g0, .int f0, .int r0]) (rest := []) ⟨hx, hb, hml, hown, hts⟩ (c_X4_change l D cI cJ cZ h4 a1 a2 a3 j9 (nI n) sn sg g0 f0 r0 fg fb fp (by first | assumption | omega)) (cwV 4 hts gX6_part_X4_change rfl rfl rfl (by decide +kernel) ⟨Nat.le_of_ble_eq_true rfl, Nat.le_of_ble_eq_true rfl⟩) ⟨pm_blind, va_recv hK hP (ci := 4) (q0 := 1) rfl rfl, fun U hU hW => ⟨rfl, by rw [hU]; exact hP.sub (ws' := [(h4, .inr (4, [.ref a1, .ref a2, .ref a3, .int (nI n), .int sn, .int sg])), (a1, .inl (cI, 9, .inl fg)), (a2, .inl (cI, 9, .inl fb)), (a3, .inl (cI, 9, .inl fp))]) [1, 2, 3, 4] rfl, hKN.warm hW, (hD.sub (ws' := [(h4, .inr (4, [.ref a1, .ref a2, .ref a3, .int (nI n), .int sn, .int sg])), (a1, .inl (cI, 9, .inl fg)), (a2, .inl (cI, 9, .inl fb)), (a3, .inl (cI, 9, .inl fp))]) [1, 2, 3, 4] (by decide) rfl).weaken (fun _ _ _ _ => trivial)⟩⟩ rfl rfl hl.1 rfl (lv_room (Nat.le_of_ble_eq_true rfl)) dX6_part_57 ⟨Nat.le_of_ble_eq_true rfl, Nat.le_of_ble_eq_true rfl⟩) hS hP hD (fun (u : Unit) => [(x0, .inr (6, [.ref h4, .ref h3, .ref h2, .ref h1, .ref hB, .ref h5])), (h4, .inr (4, [.ref a1, .ref a2, .ref a3, .int (nI n), .int sn, .int sg])), (a1, .inl (cI, 9, .inl (upd fg j9 g0))), (a2, .inl (cI, 9, .inl (upd fb j9 f0))), (a3, .inl (cI, 9, .inl (upd fp j9 r0))), (h1, .inr (1, [.ref h4, .ref h3, .ref h2, .ref p4, .ref p5, .ref p6, .int fr1]))]) [1, 2, 3, 4] [0, 5] rfl rfl rfl (fun _ => rfl) (fun _ => rfl) rfl (fun _ => rfl) (fun _ => rfl) (m_cov rfl) (m_dis rfl) (fun u9 H locs w9r hP hD hS => ?_)
                  have hP : va_P D vwCl [(x0, .inr (6, [.ref h4, .ref h3, .ref h2, .ref h1, .ref hB, .ref h5])), (h4, .inr (4, [.ref a1, .ref a2, .ref a3, .int (nI n), .int sn, .int sg])), (a1, .inl (cI, 9, .inl (upd fg j9 g0))), (a2, .inl (cI, 9, .inl (upd fb j9 f0))), (a3, .inl (cI, 9, .inl (upd fp j9 r0))), (h1, .inr (1, [.ref h4, .ref h3, .ref h2, .ref p4, .ref p5, .ref p6, .int fr1]))] H := hP
                  have hD : va_D (aA as) [(x0, .inr (6, [.ref h4, .ref h3, .ref h2, .ref h1, .ref hB, .ref h5])), (h4, .inr (4, [.ref a1, .ref a2, .ref a3, .int (nI n), .int sn, .int sg])), (a1, .inl (cI, 9, .inl (upd fg j9 g0))), (a2, .inl (cI, 9, .inl (upd fb j9 f0))), (a3, .inl (cI, 9, .inl (upd fp j9 r0))), (h1, .inr (1, [.ref h4, .ref h3, .ref h2, .ref p4, .ref p5, .ref p6, .int fr1]))] := hD
                  have w9 : True := w9r
                  clear w9r
                  refine lv_aload_n hx hb dX6_part_60 rfl (lv_at hl 0 rfl) ?_
                  refine va_get (D := D) (ci := 6) (v := .ref h1) (C := RX6) (T := TX6) (N := 6) hx hb hts hiX6 hown hK hP 0 rfl rfl 3 (by decide) hf35 (fun _ h9 => h9) rfl dX6_part_61 ?_
                  refine mu2_v (n := 6) (wc := [(h1, .inr (1, [.ref h4, .ref h3, .ref h2, .ref p4, .ref p5, .ref p6, .int fr1]))]) (wr := [(x0, .inr (6, [.ref h4, .ref h3, .ref h2, .ref h1, .ref hB, .ref h5])), (h4, .inr (4, [.ref a1, .ref a2, .ref a3, .int (nI n), .int sn, .int sg])), (a1, .inl (cI, 9, .inl (upd fg j9 g0))), (a2, .inl (cI, 9, .inl (upd fb j9 f0))), (a3, .inl (cI, 9, .inl (upd fp j9 r0)))]) (as0 := [x0, h4, a1, a2, a3, h1]) (va_runV (As := []) (rest := []) ⟨hx, hb, hml, hown, hts⟩ (c_X1_forget l D cI cJ cZ h1 h4 h3 h2 p4 p5 p6 fr1) (cwV 0 hts gX6_part_X1_forget rfl rfl rfl (by decide +kernel) ⟨Nat.le_of_ble_eq_true rfl, Nat.le_of_ble_eq_true rfl⟩) ⟨pm_blind, va_recv hK hP (ci := 1) (q0 := 5) rfl rfl, fun U hU hW => ⟨rfl, by rw [hU]; exact hP.sub (ws' := [(h1, .inr (1, [.ref h4, .ref h3, .ref h2, .ref p4, .ref p5, .ref p6, .int fr1]))]) [5] rfl, hKN.warm hW, (hD.sub (ws' := [(h1, .inr (1, [.ref h4, .ref h3, .ref h2, .ref p4, .ref p5, .ref p6, .int fr1]))]) [5] (by decide) rfl).weaken (fun _ _ _ _ => trivial)⟩⟩ rfl rfl hl.1 rfl (lv_room (Nat.le_of_ble_eq_true rfl)) dX6_part_64 ⟨Nat.le_of_ble_eq_true rfl, Nat.le_of_ble_eq_true rfl⟩) hS hP hD (fun (u : Unit) => [(x0, .inr (6, [.ref h4, .ref h3, .ref h2, .ref h1, .ref hB, .ref h5])), (h4, .inr (4, [.ref a1, .ref a2, .ref a3, .int (nI n), .int sn, .int sg])), (a1, .inl (cI, 9, .inl (upd fg j9 g0))), (a2, .inl (cI, 9, .inl (upd fb j9 f0))), (a3, .inl (cI, 9, .inl (upd fp j9 r0))), (h1, .inr (1, [.ref h4, .ref h3, .ref h2, .ref p4, .ref p5, .ref p6, .int (nI 0)]))]) [5] [0, 1, 2, 3, 4] rfl rfl rfl (fun _ => rfl) (fun _ => rfl) rfl (fun _ => rfl) (fun _ => rfl) (m_cov rfl) (m_dis rfl) (fun u10 H locs w10r hP hD hS => ?_)
                  have hP : va_P D vwCl [(x0, .inr (6, [.ref h4, .ref h3, .ref h2, .ref h1, .ref hB, .ref h5])), (h4, .inr (4, [.ref a1, .ref a2, .ref a3, .int (nI n), .int sn, .int sg])), (a1, .inl (cI, 9, .inl (upd fg j9 g0))), (a2, .inl (cI, 9, .inl (upd fb j9 f0))), (a3, .inl (cI, 9, .inl (upd fp j9 r0))), (h1, .inr (1, [.ref h4, .ref h3, .ref h2, .ref p4, .ref p5, .ref p6, .int (nI 0)]))] H := hP
                  have hD : va_D (aA as) [(x0, .inr (6, [.ref h4, .ref h3, .ref h2, .ref h1, .ref hB, .ref h5])), (h4, .inr (4, [.ref a1, .ref a2, .ref a3, .int (nI n), .int sn, .int sg])), (a1, .inl (cI, 9, .inl (upd fg j9 g0))), (a2, .inl (cI, 9, .inl (upd fb j9 f0))), (a3, .inl (cI, 9, .inl (upd fp j9 r0))), (h1, .inr (1, [.ref h4, .ref h3, .ref h2, .ref p4, .ref p5, .ref p6, .int (nI 0)]))] := hD
                  have w10 : True := w10r
                  clear w10r
                  refine lv_iconst (v := nI 1) hx hb dX6_part_67 (by decide) ?_
                  rw [← hQ]
                  exact W.zret (v := nI 1) hx hb hr (by first | decide | (rw [nar_b01])) (fun tS htS hWS => ⟨⟨(nI 1), (upd fg j9 g0, upd fb j9 f0, upd fp j9 r0, nI 0), rfl, Or.inl ⟨rfl, by omega, by rw [tj9]; rfl, by rw [tj9]; rfl, by rw [tj9]; rfl, rfl⟩, m_at htS hP⟩, by rw [← has]; exact hS.F htS⟩) (by rw [← has]; exact hS.2.2) dX6_part_68
                · skip
                  have d8 := c8
                  rw [i_le, nI_toInt (n := 1000) (by omega)] at d8
                  refine lv_iconst (v := nI 0) hx hb dX6_part_46 (by decide) ?_
                  rw [← hQ]
                  exact W.zret (v := nI 0) hx hb hr (by first | decide | (rw [nar_b01])) (fun tS htS hWS => ⟨⟨(nI 0), (fg, fb, fp, fr1), rfl, Or.inr ⟨rfl, by omega, rfl, rfl, rfl, rfl⟩, m_at htS hP⟩, by rw [← has]; exact hS.F htS⟩) (by rw [← has]; exact hS.2.2) dX6_part_47
  · skip
    refine lv_if_eq (tgt := 46) hx hb dX6_part_8 (by decide) (fun c11 => ?_) (fun c11 => ?_)
    · skip
      refine lv_iconst (v := nI 0) hx hb dX6_part_46 (by decide) ?_
      rw [← hQ]
      exact W.zret (v := nI 0) hx hb hr (by first | decide | (rw [nar_b01])) (fun tS htS hWS => ⟨⟨(nI 0), (fg, fb, fp, fr1), rfl, Or.inr ⟨rfl, by omega, rfl, rfl, rfl, rfl⟩, m_at htS hP⟩, by rw [← has]; exact hS.F htS⟩) (by rw [← has]; exact hS.2.2) dX6_part_47
    · exact absurd c11 (by first | decide | exact nz_lt (by omega) | exact fun h => h (nz_ge (by omega)))
def rm_c_X6_see_g : Room := { frames := 1, cells := 0, slots := 0, locals := 23 }
set_option maxHeartbeats 400000 in
set_option maxRecDepth 100000 in
theorem c_X6_see_g (l : Launch) (D : va_G) (cI cJ cZ : ClassId) (x0 : Nat) (h4 : Nat) (h3 : Nat) (h2 : Nat) (h1 : Nat) (hB : Nat) (h5 : Nat) (a1 : Nat) (a2 : Nat) (a3 : Nat) (n : Nat) (sn : Int32) (sg : Int32) (p0 : Int32) (ho : Int32) (hn : n ≤ 9) : Met l yX6_see wsX6_see rm_c_X6_see_g (pm_ D cI cJ cZ [.ref x0, .int p0, .int ho] [(x0, .inr (6, [.ref h4, .ref h3, .ref h2, .ref h1, .ref hB, .ref h5])), (h4, .inr (4, [.ref a1, .ref a2, .ref a3, .int (nI n), .int sn, .int sg]))]) (va_Qi (fun (r : Int32) (u : Int32 × Int32) => (r = nI 1 ∧ (0 ≤ p0.toInt ∧ p0.toInt < n ∧ -1 ≤ ho.toInt ∧ ho.toInt ≤ 1) ∧ u.1 = nt_s sn ho p0.toInt.toNat ∧ u.2 = nt_g sg ho p0.toInt.toNat) ∨ (r = nI 0 ∧ ¬ (0 ≤ p0.toInt ∧ p0.toInt < n ∧ -1 ≤ ho.toInt ∧ ho.toInt ≤ 1) ∧ u.1 = sn ∧ u.2 = sg)) (fun (u : Int32 × Int32) tS => va_P D vwCl [(x0, .inr (6, [.ref h4, .ref h3, .ref h2, .ref h1, .ref hB, .ref h5])), (h4, .inr (4, [.ref a1, .ref a2, .ref a3, .int (nI n), .int u.1, .int u.2]))] tS.heap) (aA [x0, h4])) 0 0 (aA [x0, h4]) := by
  refine Met.ofW (cc := cX6_see) (maxL := 3) (ret := (some .boolean)) (by decide) rfl ?_
  intro p e s m args below meth c s₁ B hml hv
  obtain ⟨rfl, hP, hKN, hD0⟩ := hv
  have hK := hKN.1
  have hx := B.exec
  have hb := B.bytes
  have hr := B.returns
  have hts := atoms_spec (ws := wsX6_see) B.pre
  have hown : s.vm.findClass RX6 = some m.cls := findClass_of_methodNamed B.named
  have hlocks := B.notSynchronized
  have hiX6 : ∀ w ∈ wsX60, w ∈ wsX6_see := by decide +kernel
  have hf10 := hts (.fieldLink RX6 10 "LookBench" "shelf" "LLookBench$Shelf;") (by decide +kernel)
  obtain ⟨as, has⟩ : ∃ z : List Nat, z = [x0, h4] := ⟨_, rfl⟩
  have hD := hD0.addr (as := as) (by rw [has]; rfl)
  have hS : va_S (aA as) s.heap s.heap [] := va_S.rf
  have hl := lv_entry ([.ref x0, .int p0, .int ho]) (n := 3) (Nat.le_of_ble_eq_true rfl)
  rw [lg_entry_eq]
  generalize (lg_sl ([.ref x0, .int p0, .int ho]) ++ List.replicate (3 - (lg_sl ([.ref x0, .int p0, .int ho])).length) Slot.unset).toArray = ls at hl ⊢
  have hl : lv_has ls 3 [(0, .ref x0), (1, .int p0), (2, .int ho)] := hl
  generalize hQ : MQ below _ _ s _ _ _ = Q
  obtain ⟨H, hH⟩ : ∃ z, z = s.heap := ⟨_, rfl⟩
  have hP : va_P D vwCl [(x0, .inr (6, [.ref h4, .ref h3, .ref h2, .ref h1, .ref hB, .ref h5])), (h4, .inr (4, [.ref a1, .ref a2, .ref a3, .int (nI n), .int sn, .int sg]))] H := by rw [hH]; exact hP
  have hS : va_S (aA as) s.heap H [] := by rw [hH]; exact hS
  refine m_heap hH ?_
  clear hH
  have m9 : ((-1 : Int32)).toInt = -1 := by decide
  refine lv_aload_n hx hb dX6_see_0 rfl (lv_at hl 0 rfl) ?_
  refine va_get (D := D) (ci := 6) (v := .ref h4) (C := RX6) (T := TX6) (N := 6) hx hb hts hiX6 hown hK hP 0 rfl rfl 0 (by decide) hf10 (fun _ h9 => h9) rfl dX6_see_1 ?_
  refine lv_iload_n hx hb dX6_see_4 rfl (lv_at hl 1 rfl) ?_
  refine pu_i (va_runV (As := [.int p0]) (rest := []) ⟨hx, hb, hml, hown, hts⟩ (c_X4_has l D cI cJ cZ h4 a1 a2 a3 n sn sg p0 (by first | assumption | omega)) (cwV 1 hts gX6_see_X4_has rfl rfl rfl (by decide +kernel) ⟨Nat.le_of_ble_eq_true rfl, Nat.le_of_ble_eq_true rfl⟩) ⟨pc_blind, va_recv hK hP (ci := 4) (q0 := 1) rfl rfl, fun U hU hW => ⟨rfl, by rw [hU]; exact hP.sub (ws' := [(h4, .inr (4, [.ref a1, .ref a2, .ref a3, .int (nI n), .int sn, .int sg]))]) [1] rfl, hKN.warm hW⟩⟩ rfl rfl hl.1 rfl (lv_room (Nat.le_of_ble_eq_true rfl)) dX6_see_5 ⟨Nat.le_of_ble_eq_true rfl, Nat.le_of_ble_eq_true rfl⟩) hS hP (fun r1 H locs w1r hP hS => ?_)
  have w1 : B01 r1 (0 ≤ p0.toInt ∧ p0.toInt < n) := w1r
  clear w1r
  rcases w1 with ⟨rfl, w1⟩ | ⟨rfl, w1⟩
  · skip
    obtain ⟨j9, hj9, rfl⟩ := m_nat w1
    have tj9 : (nI j9).toInt = (j9 : Int) := nI_toInt (by omega)
    refine lv_if_eq (tgt := 21) hx hb dX6_see_8 (by decide) (fun c2 => ?_) (fun c2 => ?_)
    · exact absurd c2 (by first | decide | exact nz_lt (by omega) | exact fun h => h (nz_ge (by omega)))
    · skip
      refine lv_iload_n hx hb dX6_see_11 rfl (lv_at hl 2 rfl) ?_
      refine lv_iconst (v := (-1 : Int32)) hx hb dX6_see_12 (by decide) ?_
      refine lv_icmp_lt (tgt := 21) hx hb dX6_see_13 (by decide) (fun c3 => ?_) (fun c3 => ?_)
      · skip
        have d3 := c3
        rw [i_lt] at d3
        refine lv_iconst (v := nI 0) hx hb dX6_see_21 (by decide) ?_
        rw [← hQ]
        exact W.zret (v := nI 0) hx hb hr (by first | decide | (rw [nar_b01])) (fun tS htS hWS => ⟨⟨(nI 0), (sn, sg), rfl, Or.inr ⟨rfl, by omega, rfl, rfl⟩, m_at htS hP⟩, by rw [← has]; exact hS.F htS⟩) (by rw [← has]; exact hS.2.2) dX6_see_22
      · skip
        have d3 := c3
        rw [i_lt] at d3
        refine lv_iload_n hx hb dX6_see_16 rfl (lv_at hl 2 rfl) ?_
        refine lv_iconst (v := nI 1) hx hb dX6_see_17 (by decide) ?_
        refine lv_icmp_le (tgt := 23) hx hb dX6_see_18 (by decide) (fun c4 => ?_) (fun c4 => ?_)
        · skip
          have d4 := c4
          rw [i_le, nI_toInt (n := 1) (by omega)] at d4
          refine lv_aload_n hx hb dX6_see_23 rfl (lv_at hl 0 rfl) ?_
          refine va_get (D := D) (ci := 6) (v := .ref h4) (C := RX6) (T := TX6) (N := 6) hx hb hts hiX6 hown hK hP 0 rfl rfl 0 (by decide) hf10 (fun _ h9 => h9) rfl dX6_see_24 ?_
          refine lv_iload_n hx hb dX6_see_27 rfl (lv_at hl 1 rfl) ?_
          refine lv_iload_n hx hb dX6_see_28 rfl (lv_at hl 2 rfl) ?_
          refine mu_v (n := 2) (wc := [(h4, .inr (4, [.ref a1, .ref a2, .ref a3, .int (nI n), .int sn, .int sg]))]) (va_runV (As := [.int (nI j9), .int ho]) (rest := []) ⟨hx, hb, hml, hown, hts⟩ (c_X4_note l D cI cJ cZ h4 a1 a2 a3 j9 (nI n) sn sg ho (by first | assumption | omega)) (cwV 2 hts gX6_see_X4_note rfl rfl rfl (by decide +kernel) ⟨Nat.le_of_ble_eq_true rfl, Nat.le_of_ble_eq_true rfl⟩) ⟨pm_blind, va_recv hK hP (ci := 4) (q0 := 1) rfl rfl, fun U hU hW => ⟨rfl, by rw [hU]; exact hP.sub (ws' := [(h4, .inr (4, [.ref a1, .ref a2, .ref a3, .int (nI n), .int sn, .int sg]))]) [1] rfl, hKN.warm hW, (hD.sub (ws' := [(h4, .inr (4, [.ref a1, .ref a2, .ref a3, .int (nI n), .int sn, .int sg]))]) [1] (by decide) rfl).weaken (fun _ _ _ _ => trivial)⟩⟩ rfl rfl hl.1 rfl (lv_room (Nat.le_of_ble_eq_true rfl)) dX6_see_29 ⟨Nat.le_of_ble_eq_true rfl, Nat.le_of_ble_eq_true rfl⟩) hS hP hD (fun (u : Int32 × Int32) => [(x0, .inr (6, [.ref h4, .ref h3, .ref h2, .ref h1, .ref hB, .ref h5])), (h4, .inr (4, [.ref a1, .ref a2, .ref a3, .int (nI n), .int u.1, .int u.2]))]) [1] [0] rfl rfl (fun _ => rfl) (fun _ => rfl) (fun _ => rfl) (fun _ => rfl) (by decide) (by decide) (fun u5 H locs w5r hP hD hS => ?_)
          obtain ⟨u5_us, u5_ug⟩ := u5
          have hP : va_P D vwCl [(x0, .inr (6, [.ref h4, .ref h3, .ref h2, .ref h1, .ref hB, .ref h5])), (h4, .inr (4, [.ref a1, .ref a2, .ref a3, .int (nI n), .int u5_us, .int u5_ug]))] H := hP
          have hD : va_D (aA as) [(x0, .inr (6, [.ref h4, .ref h3, .ref h2, .ref h1, .ref hB, .ref h5])), (h4, .inr (4, [.ref a1, .ref a2, .ref a3, .int (nI n), .int u5_us, .int u5_ug]))] := hD
          have w5 : u5_us = nt_s sn ho j9 ∧ u5_ug = nt_g sg ho j9 := w5r
          clear w5r
          refine lv_iconst (v := nI 1) hx hb dX6_see_32 (by decide) ?_
          rw [← hQ]
          exact W.zret (v := nI 1) hx hb hr (by first | decide | (rw [nar_b01])) (fun tS htS hWS => ⟨⟨(nI 1), (u5_us, u5_ug), rfl, Or.inl ⟨rfl, by omega, by rw [tj9]; exact w5.1, by rw [tj9]; exact w5.2⟩, m_at htS hP⟩, by rw [← has]; exact hS.F htS⟩) (by rw [← has]; exact hS.2.2) dX6_see_33
        · skip
          have d4 := c4
          rw [i_le, nI_toInt (n := 1) (by omega)] at d4
          refine lv_iconst (v := nI 0) hx hb dX6_see_21 (by decide) ?_
          rw [← hQ]
          exact W.zret (v := nI 0) hx hb hr (by first | decide | (rw [nar_b01])) (fun tS htS hWS => ⟨⟨(nI 0), (sn, sg), rfl, Or.inr ⟨rfl, by omega, rfl, rfl⟩, m_at htS hP⟩, by rw [← has]; exact hS.F htS⟩) (by rw [← has]; exact hS.2.2) dX6_see_22
  · skip
    refine lv_if_eq (tgt := 21) hx hb dX6_see_8 (by decide) (fun c6 => ?_) (fun c6 => ?_)
    · skip
      refine lv_iconst (v := nI 0) hx hb dX6_see_21 (by decide) ?_
      rw [← hQ]
      exact W.zret (v := nI 0) hx hb hr (by first | decide | (rw [nar_b01])) (fun tS htS hWS => ⟨⟨(nI 0), (sn, sg), rfl, Or.inr ⟨rfl, by omega, rfl, rfl⟩, m_at htS hP⟩, by rw [← has]; exact hS.F htS⟩) (by rw [← has]; exact hS.2.2) dX6_see_22
    · exact absurd c6 (by first | decide | exact nz_lt (by omega) | exact fun h => h (nz_ge (by omega)))
def rm_c_X6_parts_g : Room := { frames := 2, cells := 0, slots := 0, locals := 46 }
set_option maxHeartbeats 400000 in
set_option maxRecDepth 100000 in
theorem c_X6_parts_g (l : Launch) (D : va_G) (cI cJ cZ : ClassId) (x0 : Nat) (h4 : Nat) (h3 : Nat) (h2 : Nat) (h1 : Nat) (hB : Nat) (h5 : Nat) (a1 : Nat) (a2 : Nat) (a3 : Nat) (b1 : Nat) (b2 : Nat) (r1 : Nat) (p4 : Nat) (p5 : Nat) (p6 : Nat) (fr1 : Int32) (cn : Int32) (sn : Int32) (sg : Int32) (pt : Int32) (rc : Int32) (ry : Int32) (qc : Int32) (n0 : Int32) (fg : Nat → Int32) (fb : Nat → Int32) (fp : Nat → Int32)  : Met l yX6_parts wsX6_parts rm_c_X6_parts_g (pm_ D cI cJ cZ [.ref x0, .int n0] [(x0, .inr (6, [.ref h4, .ref h3, .ref h2, .ref h1, .ref hB, .ref h5])), (h4, .inr (4, [.ref a1, .ref a2, .ref a3, .int cn, .int sn, .int sg])), (a1, .inl (cI, 9, .inl fg)), (a2, .inl (cI, 9, .inl fb)), (a3, .inl (cI, 9, .inl fp)), (h3, .inr (3, [.ref b1, .ref b2, .int pt, .int rc, .int ry])), (h2, .inr (2, [.ref r1, .int qc])), (h1, .inr (1, [.ref h4, .ref h3, .ref h2, .ref p4, .ref p5, .ref p6, .int fr1]))]) (va_Qi (fun (r : Int32) (u : Int32 × Int32 × Int32 × (Nat → Int32) × (Nat → Int32) × (Nat → Int32) × Int32 × Int32 × Int32 × Int32 × Int32) => (r = nI 1 ∧ (1 ≤ n0.toInt ∧ n0.toInt ≤ 9) ∧ u.1 = n0 ∧ u.2.1 = nI 0 ∧ u.2.2.1 = nI 0 ∧ u.2.2.2.2.2.2.1 = n0 ∧ u.2.2.2.2.2.2.2.1 = nI 0 ∧ u.2.2.2.2.2.2.2.2.1 = -1 ∧ u.2.2.2.2.2.2.2.2.2.1 = nI 0 ∧ u.2.2.2.2.2.2.2.2.2.2 = nI 0 ∧ (∀ z, z < 9 → u.2.2.2.1 z = nI 1 ∧ u.2.2.2.2.1 z = nI 1 ∧ u.2.2.2.2.2.1 z = nI 1)) ∨ (r = nI 0 ∧ ¬ (1 ≤ n0.toInt ∧ n0.toInt ≤ 9) ∧ u.1 = cn ∧ u.2.1 = sn ∧ u.2.2.1 = sg ∧ u.2.2.2.2.2.2.1 = pt ∧ u.2.2.2.2.2.2.2.1 = rc ∧ u.2.2.2.2.2.2.2.2.1 = ry ∧ u.2.2.2.2.2.2.2.2.2.1 = qc ∧ u.2.2.2.2.2.2.2.2.2.2 = fr1 ∧ u.2.2.2.1 = fg ∧ u.2.2.2.2.1 = fb ∧ u.2.2.2.2.2.1 = fp)) (fun (u : Int32 × Int32 × Int32 × (Nat → Int32) × (Nat → Int32) × (Nat → Int32) × Int32 × Int32 × Int32 × Int32 × Int32) tS => va_P D vwCl [(x0, .inr (6, [.ref h4, .ref h3, .ref h2, .ref h1, .ref hB, .ref h5])), (h4, .inr (4, [.ref a1, .ref a2, .ref a3, .int u.1, .int u.2.1, .int u.2.2.1])), (a1, .inl (cI, 9, .inl u.2.2.2.1)), (a2, .inl (cI, 9, .inl u.2.2.2.2.1)), (a3, .inl (cI, 9, .inl u.2.2.2.2.2.1)), (h3, .inr (3, [.ref b1, .ref b2, .int u.2.2.2.2.2.2.1, .int u.2.2.2.2.2.2.2.1, .int u.2.2.2.2.2.2.2.2.1])), (h2, .inr (2, [.ref r1, .int u.2.2.2.2.2.2.2.2.2.1])), (h1, .inr (1, [.ref h4, .ref h3, .ref h2, .ref p4, .ref p5, .ref p6, .int u.2.2.2.2.2.2.2.2.2.2]))] tS.heap) (aA [x0, h4, a1, a2, a3, h3, h2, h1])) 0 0 (aA [x0, h4, a1, a2, a3, h3, h2, h1]) := by
  refine Met.ofW (cc := cX6_parts) (maxL := 2) (ret := (some .boolean)) (by decide) rfl ?_
  intro p e s m args below meth c s₁ B hml hv
  obtain ⟨rfl, hP, hKN, hD0⟩ := hv
  have hK := hKN.1
  have hx := B.exec
  have hb := B.bytes
  have hr := B.returns
  have hts := atoms_spec (ws := wsX6_parts) B.pre
  have hown : s.vm.findClass RX6 = some m.cls := findClass_of_methodNamed B.named
  have hlocks := B.notSynchronized
  have hiX6 : ∀ w ∈ wsX60, w ∈ wsX6_parts := by decide +kernel
  have hf10 := hts (.fieldLink RX6 10 "LookBench" "shelf" "LLookBench$Shelf;") (by decide +kernel)
  have hf19 := hts (.fieldLink RX6 19 "LookBench" "rules" "LLookBench$Rules;") (by decide +kernel)
  have hf26 := hts (.fieldLink RX6 26 "LookBench" "queue" "LLookBench$Queue;") (by decide +kernel)
  have hf35 := hts (.fieldLink RX6 35 "LookBench" "plans" "LLookBench$Plans;") (by decide +kernel)
  obtain ⟨as, has⟩ : ∃ z : List Nat, z = [x0, h4, a1, a2, a3, h3, h2, h1] := ⟨_, rfl⟩
  have hD := hD0.addr (as := as) (by rw [has]; rfl)
  have hS : va_S (aA as) s.heap s.heap [] := va_S.rf
  have hl := lv_entry ([.ref x0, .int n0]) (n := 2) (Nat.le_of_ble_eq_true rfl)
  rw [lg_entry_eq]
  generalize (lg_sl ([.ref x0, .int n0]) ++ List.replicate (2 - (lg_sl ([.ref x0, .int n0])).length) Slot.unset).toArray = ls at hl ⊢
  have hl : lv_has ls 2 [(0, .ref x0), (1, .int n0)] := hl
  generalize hQ : MQ below _ _ s _ _ _ = Q
  obtain ⟨H, hH⟩ : ∃ z, z = s.heap := ⟨_, rfl⟩
  have hP : va_P D vwCl [(x0, .inr (6, [.ref h4, .ref h3, .ref h2, .ref h1, .ref hB, .ref h5])), (h4, .inr (4, [.ref a1, .ref a2, .ref a3, .int cn, .int sn, .int sg])), (a1, .inl (cI, 9, .inl fg)), (a2, .inl (cI, 9, .inl fb)), (a3, .inl (cI, 9, .inl fp)), (h3, .inr (3, [.ref b1, .ref b2, .int pt, .int rc, .int ry])), (h2, .inr (2, [.ref r1, .int qc])), (h1, .inr (1, [.ref h4, .ref h3, .ref h2, .ref p4, .ref p5, .ref p6, .int fr1]))] H := by rw [hH]; exact hP
  have hS : va_S (aA as) s.heap H [] := by rw [hH]; exact hS
  refine m_heap hH ?_
  clear hH
  refine lv_iload_n hx hb dX6_parts_0 rfl (lv_at hl 1 rfl) ?_
  refine lv_iconst (v := nI 1) hx hb dX6_parts_1 (by decide) ?_
  refine lv_icmp_lt (tgt := 11) hx hb dX6_parts_2 (by decide) (fun c1 => ?_) (fun c1 => ?_)
  · skip
    have d1 := c1
    rw [i_lt, nI_toInt (n := 1) (by omega)] at d1
    refine lv_iconst (v := nI 0) hx hb dX6_parts_11 (by decide) ?_
    rw [← hQ]
    exact W.zret (v := nI 0) hx hb hr (by first | decide | (rw [nar_b01])) (fun tS htS hWS => ⟨⟨(nI 0), (cn, sn, sg, fg, fb, fp, pt, rc, ry, qc, fr1), rfl, Or.inr ⟨rfl, by omega, rfl, rfl, rfl, rfl, rfl, rfl, rfl, rfl, rfl, rfl, rfl⟩, m_at htS hP⟩, by rw [← has]; exact hS.F htS⟩) (by rw [← has]; exact hS.2.2) dX6_parts_12
  · skip
    have d1 := c1
    rw [i_lt, nI_toInt (n := 1) (by omega)] at d1
    refine lv_iload_n hx hb dX6_parts_5 rfl (lv_at hl 1 rfl) ?_
    refine lv_bipush (v := nI 9) hx hb dX6_parts_6 (by decide) ?_
    refine lv_icmp_le (tgt := 13) hx hb dX6_parts_8 (by decide) (fun c2 => ?_) (fun c2 => ?_)
    · skip
      have d2 := c2
      rw [i_le, nI_toInt (n := 9) (by omega)] at d2
      refine lv_aload_n hx hb dX6_parts_13 rfl (lv_at hl 0 rfl) ?_
      refine va_get (D := D) (ci := 6) (v := .ref h4) (C := RX6) (T := TX6) (N := 6) hx hb hts hiX6 hown hK hP 0 rfl rfl 0 (by decide) hf10 (fun _ h9 => h9) rfl dX6_parts_14 ?_
      refine lv_iload_n hx hb dX6_parts_17 rfl (lv_at hl 1 rfl) ?_
      refine mu2_v (n := 8) (wc := [(h4, .inr (4, [.ref a1, .ref a2, .ref a3, .int cn, .int sn, .int sg])), (a1, .inl (cI, 9, .inl fg)), (a2, .inl (cI, 9, .inl fb)), (a3, .inl (cI, 9, .inl fp))]) (wr := [(x0, .inr (6, [.ref h4, .ref h3, .ref h2, .ref h1, .ref hB, .ref h5])), (h3, .inr (3, [.ref b1, .ref b2, .int pt, .int rc, .int ry])), (h2, .inr (2, [.ref r1, .int qc])), (h1, .inr (1, [.ref h4, .ref h3, .ref h2, .ref p4, .ref p5, .ref p6, .int fr1]))]) (as0 := [x0, h4, a1, a2, a3, h3, h2, h1]) (va_runV (As := [.int n0]) (rest := []) ⟨hx, hb, hml, hown, hts⟩ (c_X4_lay l D cI cJ cZ h4 a1 a2 a3 cn sn sg n0 fg fb fp) (cwV 1 hts gX6_parts_X4_lay rfl rfl rfl (by decide +kernel) ⟨Nat.le_of_ble_eq_true rfl, Nat.le_of_ble_eq_true rfl⟩) ⟨pm_blind, va_recv hK hP (ci := 4) (q0 := 1) rfl rfl, fun U hU hW => ⟨rfl, by rw [hU]; exact hP.sub (ws' := [(h4, .inr (4, [.ref a1, .ref a2, .ref a3, .int cn, .int sn, .int sg])), (a1, .inl (cI, 9, .inl fg)), (a2, .inl (cI, 9, .inl fb)), (a3, .inl (cI, 9, .inl fp))]) [1, 2, 3, 4] rfl, hKN.warm hW, (hD.sub (ws' := [(h4, .inr (4, [.ref a1, .ref a2, .ref a3, .int cn, .int sn, .int sg])), (a1, .inl (cI, 9, .inl fg)), (a2, .inl (cI, 9, .inl fb)), (a3, .inl (cI, 9, .inl fp))]) [1, 2, 3, 4] (by decide) rfl).weaken (fun _ _ _ _ => trivial)⟩⟩ rfl rfl hl.1 rfl (lv_room (Nat.le_of_ble_eq_true rfl)) dX6_parts_18 ⟨Nat.le_of_ble_eq_true rfl, Nat.le_of_ble_eq_true rfl⟩) hS hP hD (fun (u : (Nat → Int32) × (Nat → Int32) × (Nat → Int32)) => [(x0, .inr (6, [.ref h4, .ref h3, .ref h2, .ref h1, .ref hB, .ref h5])), (h4, .inr (4, [.ref a1, .ref a2, .ref a3, .int n0, .int (nI 0), .int (nI 0)])), (a1, .inl (cI, 9, .inl u.1)), (a2, .inl (cI, 9, .inl u.2.1)), (a3, .inl (cI, 9, .inl u.2.2)), (h3, .inr (3, [.ref b1, .ref b2, .int pt, .int rc, .int ry])), (h2, .inr (2, [.ref r1, .int qc])), (h1, .inr (1, [.ref h4, .ref h3, .ref h2, .ref p4, .ref p5, .ref p6, .int fr1]))]) [1, 2, 3, 4] [0, 5, 6, 7] rfl rfl rfl (fun _ => rfl) (fun _ => rfl) rfl (fun _ => rfl) (fun _ => rfl) (m_cov rfl) (m_dis rfl) (fun u3 H locs w3r hP hD hS => ?_)
      obtain ⟨u3_ug, u3_ub, u3_ur⟩ := u3
      have hP : va_P D vwCl [(x0, .inr (6, [.ref h4, .ref h3, .ref h2, .ref h1, .ref hB, .ref h5])), (h4, .inr (4, [.ref a1, .ref a2, .ref a3, .int n0, .int (nI 0), .int (nI 0)])), (a1, .inl (cI, 9, .inl u3_ug)), (a2, .inl (cI, 9, .inl u3_ub)), (a3, .inl (cI, 9, .inl u3_ur)), (h3, .inr (3, [.ref b1, .ref b2, .int pt, .int rc, .int ry])), (h2, .inr (2, [.ref r1, .int qc])), (h1, .inr (1, [.ref h4, .ref h3, .ref h2, .ref p4, .ref p5, .ref p6, .int fr1]))] H := hP
      have hD : va_D (aA as) [(x0, .inr (6, [.ref h4, .ref h3, .ref h2, .ref h1, .ref hB, .ref h5])), (h4, .inr (4, [.ref a1, .ref a2, .ref a3, .int n0, .int (nI 0), .int (nI 0)])), (a1, .inl (cI, 9, .inl u3_ug)), (a2, .inl (cI, 9, .inl u3_ub)), (a3, .inl (cI, 9, .inl u3_ur)), (h3, .inr (3, [.ref b1, .ref b2, .int pt, .int rc, .int ry])), (h2, .inr (2, [.ref r1, .int qc])), (h1, .inr (1, [.ref h4, .ref h3, .ref h2, .ref p4, .ref p5, .ref p6, .int fr1]))] := hD
      have w3 : ∀ z, z < 9 → u3_ug z = nI 1 ∧ u3_ub z = nI 1 ∧ u3_ur z = nI 1 := w3r
      clear w3r
      refine lv_aload_n hx hb dX6_parts_21 rfl (lv_at hl 0 rfl) ?_
      refine va_get (D := D) (ci := 6) (v := .ref h3) (C := RX6) (T := TX6) (N := 6) hx hb hts hiX6 hown hK hP 0 rfl rfl 1 (by decide) hf19 (fun _ h9 => h9) rfl dX6_parts_22 ?_
      refine lv_iload_n hx hb dX6_parts_25 rfl (lv_at hl 1 rfl) ?_
      refine mu2_v (n := 8) (wc := [(h3, .inr (3, [.ref b1, .ref b2, .int pt, .int rc, .int ry]))]) (wr := [(x0, .inr (6, [.ref h4, .ref h3, .ref h2, .ref h1, .ref hB, .ref h5])), (h4, .inr (4, [.ref a1, .ref a2, .ref a3, .int n0, .int (nI 0), .int (nI 0)])), (a1, .inl (cI, 9, .inl u3_ug)), (a2, .inl (cI, 9, .inl u3_ub)), (a3, .inl (cI, 9, .inl u3_ur)), (h2, .inr (2, [.ref r1, .int qc])), (h1, .inr (1, [.ref h4, .ref h3, .ref h2, .ref p4, .ref p5, .ref p6, .int fr1]))]) (as0 := [x0, h4, a1, a2, a3, h3, h2, h1]) (va_runV (As := [.int n0]) (rest := []) ⟨hx, hb, hml, hown, hts⟩ (c_X3_begin l D cI cJ cZ h3 b1 b2 pt rc ry n0) (cwV 1 hts gX6_parts_X3_begin rfl rfl rfl (by decide +kernel) ⟨Nat.le_of_ble_eq_true rfl, Nat.le_of_ble_eq_true rfl⟩) ⟨pm_blind, va_recv hK hP (ci := 3) (q0 := 5) rfl rfl, fun U hU hW => ⟨rfl, by rw [hU]; exact hP.sub (ws' := [(h3, .inr (3, [.ref b1, .ref b2, .int pt, .int rc, .int ry]))]) [5] rfl, hKN.warm hW, (hD.sub (ws' := [(h3, .inr (3, [.ref b1, .ref b2, .int pt, .int rc, .int ry]))]) [5] (by decide) rfl).weaken (fun _ _ _ _ => trivial)⟩⟩ rfl rfl hl.1 rfl (lv_room (Nat.le_of_ble_eq_true rfl)) dX6_parts_26 ⟨Nat.le_of_ble_eq_true rfl, Nat.le_of_ble_eq_true rfl⟩) hS hP hD (fun (u : Unit) => [(x0, .inr (6, [.ref h4, .ref h3, .ref h2, .ref h1, .ref hB, .ref h5])), (h4, .inr (4, [.ref a1, .ref a2, .ref a3, .int n0, .int (nI 0), .int (nI 0)])), (a1, .inl (cI, 9, .inl u3_ug)), (a2, .inl (cI, 9, .inl u3_ub)), (a3, .inl (cI, 9, .inl u3_ur)), (h3, .inr (3, [.ref b1, .ref b2, .int n0, .int (nI 0), .int (-1 : Int32)])), (h2, .inr (2, [.ref r1, .int qc])), (h1, .inr (1, [.ref h4, .ref h3, .ref h2, .ref p4, .ref p5, .ref p6, .int fr1]))]) [5] [0, 1, 2, 3, 4, 6, 7] rfl rfl rfl (fun _ => rfl) (fun _ => rfl) rfl (fun _ => rfl) (fun _ => rfl) (m_cov rfl) (m_dis rfl) (fun u4 H locs w4r hP hD hS => ?_)
      have hP : va_P D vwCl [(x0, .inr (6, [.ref h4, .ref h3, .ref h2, .ref h1, .ref hB, .ref h5])), (h4, .inr (4, [.ref a1, .ref a2, .ref a3, .int n0, .int (nI 0), .int (nI 0)])), (a1, .inl (cI, 9, .inl u3_ug)), (a2, .inl (cI, 9, .inl u3_ub)), (a3, .inl (cI, 9, .inl u3_ur)), (h3, .inr (3, [.ref b1, .ref b2, .int n0, .int (nI 0), .int (-1 : Int32)])), (h2, .inr (2, [.ref r1, .int qc])), (h1, .inr (1, [.ref h4, .ref h3, .ref h2, .ref p4, .ref p5, .ref p6, .int fr1]))] H := hP
      have hD : va_D (aA as) [(x0, .inr (6, [.ref h4, .ref h3, .ref h2, .ref h1, .ref hB, .ref h5])), (h4, .inr (4, [.ref a1, .ref a2, .ref a3, .int n0, .int (nI 0), .int (nI 0)])), (a1, .inl (cI, 9, .inl u3_ug)), (a2, .inl (cI, 9, .inl u3_ub)), (a3, .inl (cI, 9, .inl u3_ur)), (h3, .inr (3, [.ref b1, .ref b2, .int n0, .int (nI 0), .int (-1 : Int32)])), (h2, .inr (2, [.ref r1, .int qc])), (h1, .inr (1, [.ref h4, .ref h3, .ref h2, .ref p4, .ref p5, .ref p6, .int fr1]))] := hD
      have w4 : True := w4r
      clear w4r
      refine lv_aload_n hx hb dX6_parts_29 rfl (lv_at hl 0 rfl) ?_
      refine va_get (D := D) (ci := 6) (v := .ref h2) (C := RX6) (T := TX6) (N := 6) hx hb hts hiX6 hown hK hP 0 rfl rfl 2 (by decide) hf26 (fun _ h9 => h9) rfl dX6_parts_30 ?_
      refine mu2_v (n := 8) (wc := [(h2, .inr (2, [.ref r1, .int qc]))]) (wr := [(x0, .inr (6, [.ref h4, .ref h3, .ref h2, .ref h1, .ref hB, .ref h5])), (h4, .inr (4, [.ref a1, .ref a2, .ref a3, .int n0, .int (nI 0), .int (nI 0)])), (a1, .inl (cI, 9, .inl u3_ug)), (a2, .inl (cI, 9, .inl u3_ub)), (a3, .inl (cI, 9, .inl u3_ur)), (h3, .inr (3, [.ref b1, .ref b2, .int n0, .int (nI 0), .int (-1 : Int32)])), (h1, .inr (1, [.ref h4, .ref h3, .ref h2, .ref p4, .ref p5, .ref p6, .int fr1]))]) (as0 := [x0, h4, a1, a2, a3, h3, h2, h1]) (va_runV (As := []) (rest := []) ⟨hx, hb, hml, hown, hts⟩ (c_X2_clear l D cI cJ cZ h2 r1 qc) (cwV 0 hts gX6_parts_X2_clear rfl rfl rfl (by decide +kernel) ⟨Nat.le_of_ble_eq_true rfl, Nat.le_of_ble_eq_true rfl⟩) ⟨pm_blind, va_recv hK hP (ci := 2) (q0 := 6) rfl rfl, fun U hU hW => ⟨rfl, by rw [hU]; exact hP.sub (ws' := [(h2, .inr (2, [.ref r1, .int qc]))]) [6] rfl, hKN.warm hW, (hD.sub (ws' := [(h2, .inr (2, [.ref r1, .int qc]))]) [6] (by decide) rfl).weaken (fun _ _ _ _ => trivial)⟩⟩ rfl rfl hl.1 rfl (lv_room (Nat.le_of_ble_eq_true rfl)) dX6_parts_33 ⟨Nat.le_of_ble_eq_true rfl, Nat.le_of_ble_eq_true rfl⟩) hS hP hD (fun (u : Unit) => [(x0, .inr (6, [.ref h4, .ref h3, .ref h2, .ref h1, .ref hB, .ref h5])), (h4, .inr (4, [.ref a1, .ref a2, .ref a3, .int n0, .int (nI 0), .int (nI 0)])), (a1, .inl (cI, 9, .inl u3_ug)), (a2, .inl (cI, 9, .inl u3_ub)), (a3, .inl (cI, 9, .inl u3_ur)), (h3, .inr (3, [.ref b1, .ref b2, .int n0, .int (nI 0), .int (-1 : Int32)])), (h2, .inr (2, [.ref r1, .int (nI 0)])), (h1, .inr (1, [.ref h4, .ref h3, .ref h2, .ref p4, .ref p5, .ref p6, .int fr1]))]) [6] [0, 1, 2, 3, 4, 5, 7] rfl rfl rfl (fun _ => rfl) (fun _ => rfl) rfl (fun _ => rfl) (fun _ => rfl) (m_cov rfl) (m_dis rfl) (fun u5 H locs w5r hP hD hS => ?_)
      have hP : va_P D vwCl [(x0, .inr (6, [.ref h4, .ref h3, .ref h2, .ref h1, .ref hB, .ref h5])), (h4, .inr (4, [.ref a1, .ref a2, .ref a3, .int n0, .int (nI 0), .int (nI 0)])), (a1, .inl (cI, 9, .inl u3_ug)), (a2, .inl (cI, 9, .inl u3_ub)), (a3, .inl (cI, 9, .inl u3_ur)), (h3, .inr (3, [.ref b1, .ref b2, .int n0, .int (nI 0), .int (-1 : Int32)])), (h2, .inr (2, [.ref r1, .int (nI 0)])), (h1, .inr (1, [.ref h4, .ref h3, .ref h2, .ref p4, .ref p5, .ref p6, .int fr1]))] H := hP
      have hD : va_D (aA as) [(x0, .inr (6, [.ref h4, .ref h3, .ref h2, .ref h1, .ref hB, .ref h5])), (h4, .inr (4, [.ref a1, .ref a2, .ref a3, .int n0, .int (nI 0), .int (nI 0)])), (a1, .inl (cI, 9, .inl u3_ug)), (a2, .inl (cI, 9, .inl u3_ub)), (a3, .inl (cI, 9, .inl u3_ur)), (h3, .inr (3, [.ref b1, .ref b2, .int n0, .int (nI 0), .int (-1 : Int32)])), (h2, .inr (2, [.ref r1, .int (nI 0)])), (h1, .inr (1, [.ref h4, .ref h3, .ref h2, .ref p4, .ref p5, .ref p6, .int fr1]))] := hD
      have w5 : True := w5r
      clear w5r
      refine lv_aload_n hx hb dX6_parts_36 rfl (lv_at hl 0 rfl) ?_
      refine va_get (D := D) (ci := 6) (v := .ref h1) (C := RX6) (T := TX6) (N := 6) hx hb hts hiX6 hown hK hP 0 rfl rfl 3 (by decide) hf35 (fun _ h9 => h9) rfl dX6_parts_37 ?_
      refine mu2_v (n := 8) (wc := [(h1, .inr (1, [.ref h4, .ref h3, .ref h2, .ref p4, .ref p5, .ref p6, .int fr1]))]) (wr := [(x0, .inr (6, [.ref h4, .ref h3, .ref h2, .ref h1, .ref hB, .ref h5])), (h4, .inr (4, [.ref a1, .ref a2, .ref a3, .int n0, .int (nI 0), .int (nI 0)])), (a1, .inl (cI, 9, .inl u3_ug)), (a2, .inl (cI, 9, .inl u3_ub)), (a3, .inl (cI, 9, .inl u3_ur)), (h3, .inr (3, [.ref b1, .ref b2, .int n0, .int (nI 0), .int (-1 : Int32)])), (h2, .inr (2, [.ref r1, .int (nI 0)]))]) (as0 := [x0, h4, a1, a2, a3, h3, h2, h1]) (va_runV (As := []) (rest := []) ⟨hx, hb, hml, hown, hts⟩ (c_X1_forget l D cI cJ cZ h1 h4 h3 h2 p4 p5 p6 fr1) (cwV 0 hts gX6_parts_X1_forget rfl rfl rfl (by decide +kernel) ⟨Nat.le_of_ble_eq_true rfl, Nat.le_of_ble_eq_true rfl⟩) ⟨pm_blind, va_recv hK hP (ci := 1) (q0 := 7) rfl rfl, fun U hU hW => ⟨rfl, by rw [hU]; exact hP.sub (ws' := [(h1, .inr (1, [.ref h4, .ref h3, .ref h2, .ref p4, .ref p5, .ref p6, .int fr1]))]) [7] rfl, hKN.warm hW, (hD.sub (ws' := [(h1, .inr (1, [.ref h4, .ref h3, .ref h2, .ref p4, .ref p5, .ref p6, .int fr1]))]) [7] (by decide) rfl).weaken (fun _ _ _ _ => trivial)⟩⟩ rfl rfl hl.1 rfl (lv_room (Nat.le_of_ble_eq_true rfl)) dX6_parts_40 ⟨Nat.le_of_ble_eq_true rfl, Nat.le_of_ble_eq_true rfl⟩) hS hP hD (fun (u : Unit) => [(x0, .inr (6, [.ref h4, .ref h3, .ref h2, .ref h1, .ref hB, .ref h5])), (h4, .inr (4, [.ref a1, .ref a2, .ref a3, .int n0, .int (nI 0), .int (nI 0)])), (a1, .inl (cI, 9, .inl u3_ug)), (a2, .inl (cI, 9, .inl u3_ub)), (a3, .inl (cI, 9, .inl u3_ur)), (h3, .inr (3, [.ref b1, .ref b2, .int n0, .int (nI 0), .int (-1 : Int32)])), (h2, .inr (2, [.ref r1, .int (nI 0)])), (h1, .inr (1, [.ref h4, .ref h3, .ref h2, .ref p4, .ref p5, .ref p6, .int (nI 0)]))]) [7] [0, 1, 2, 3, 4, 5, 6] rfl rfl rfl (fun _ => rfl) (fun _ => rfl) rfl (fun _ => rfl) (fun _ => rfl) (m_cov rfl) (m_dis rfl) (fun u6 H locs w6r hP hD hS => ?_)
      have hP : va_P D vwCl [(x0, .inr (6, [.ref h4, .ref h3, .ref h2, .ref h1, .ref hB, .ref h5])), (h4, .inr (4, [.ref a1, .ref a2, .ref a3, .int n0, .int (nI 0), .int (nI 0)])), (a1, .inl (cI, 9, .inl u3_ug)), (a2, .inl (cI, 9, .inl u3_ub)), (a3, .inl (cI, 9, .inl u3_ur)), (h3, .inr (3, [.ref b1, .ref b2, .int n0, .int (nI 0), .int (-1 : Int32)])), (h2, .inr (2, [.ref r1, .int (nI 0)])), (h1, .inr (1, [.ref h4, .ref h3, .ref h2, .ref p4, .ref p5, .ref p6, .int (nI 0)]))] H := hP
      have hD : va_D (aA as) [(x0, .inr (6, [.ref h4, .ref h3, .ref h2, .ref h1, .ref hB, .ref h5])), (h4, .inr (4, [.ref a1, .ref a2, .ref a3, .int n0, .int (nI 0), .int (nI 0)])), (a1, .inl (cI, 9, .inl u3_ug)), (a2, .inl (cI, 9, .inl u3_ub)), (a3, .inl (cI, 9, .inl u3_ur)), (h3, .inr (3, [.ref b1, .ref b2, .int n0, .int (nI 0), .int (-1 : Int32)])), (h2, .inr (2, [.ref r1, .int (nI 0)])), (h1, .inr (1, [.ref h4, .ref h3, .ref h2, .ref p4, .ref p5, .ref p6, .int (nI 0)]))] := hD
      have w6 : True := w6r
      clear w6r
      refine lv_iconst (v := nI 1) hx hb dX6_parts_43 (by decide) ?_
      rw [← hQ]
      exact W.zret (v := nI 1) hx hb hr (by first | decide | (rw [nar_b01])) (fun tS htS hWS => ⟨⟨(nI 1), (n0, nI 0, nI 0, u3_ug, u3_ub, u3_ur, n0, nI 0, (-1 : Int32), nI 0, nI 0), rfl, Or.inl ⟨rfl, by omega, rfl, rfl, rfl, rfl, rfl, rfl, rfl, rfl, by assumption⟩, m_at htS hP⟩, by rw [← has]; exact hS.F htS⟩) (by rw [← has]; exact hS.2.2) dX6_parts_44
    · skip
      have d2 := c2
      rw [i_le, nI_toInt (n := 9) (by omega)] at d2
      refine lv_iconst (v := nI 0) hx hb dX6_parts_11 (by decide) ?_
      rw [← hQ]
      exact W.zret (v := nI 0) hx hb hr (by first | decide | (rw [nar_b01])) (fun tS htS hWS => ⟨⟨(nI 0), (cn, sn, sg, fg, fb, fp, pt, rc, ry, qc, fr1), rfl, Or.inr ⟨rfl, by omega, rfl, rfl, rfl, rfl, rfl, rfl, rfl, rfl, rfl, rfl, rfl⟩, m_at htS hP⟩, by rw [← has]; exact hS.F htS⟩) (by rw [← has]; exact hS.2.2) dX6_parts_12
def rm_c_X6_order_g : Room := { frames := 1, cells := 0, slots := 0, locals := 22 }
set_option maxHeartbeats 400000 in
set_option maxRecDepth 100000 in
theorem c_X6_order_g (l : Launch) (D : va_G) (cI cJ cZ : ClassId) (x0 : Nat) (h4 : Nat) (h3 : Nat) (h2 : Nat) (h1 : Nat) (hB : Nat) (h5 : Nat) (a1 : Nat) (a2 : Nat) (a3 : Nat) (r1 : Nat) (n : Nat) (q : Nat) (sn : Int32) (sg : Int32) (p0 : Int32) (fr : Nat → Int32) (hn : n ≤ 9) (hq : q ≤ 9) (hqr : (0 ≤ p0.toInt ∧ p0.toInt < n) → (∀ z, z < q → ¬ fr z = p0) → q < 9) : Met l yX6_order wsX6_order rm_c_X6_order_g (pm_ D cI cJ cZ [.ref x0, .int p0] [(x0, .inr (6, [.ref h4, .ref h3, .ref h2, .ref h1, .ref hB, .ref h5])), (h4, .inr (4, [.ref a1, .ref a2, .ref a3, .int (nI n), .int sn, .int sg])), (h2, .inr (2, [.ref r1, .int (nI q)])), (r1, .inl (cI, 9, .inl fr))]) (va_Qi (fun (r : Int32) (u : Int32 × (Nat → Int32)) => (r = nI (q + 1) ∧ ((0 ≤ p0.toInt ∧ p0.toInt < n) ∧ ∀ z, z < q → ¬ fr z = p0) ∧ u.1 = nI (q + 1) ∧ u.2 = upd fr q p0) ∨ (r = -1 ∧ ¬ ((0 ≤ p0.toInt ∧ p0.toInt < n) ∧ ∀ z, z < q → ¬ fr z = p0) ∧ u.1 = nI q ∧ u.2 = fr)) (fun (u : Int32 × (Nat → Int32)) tS => va_P D vwCl [(x0, .inr (6, [.ref h4, .ref h3, .ref h2, .ref h1, .ref hB, .ref h5])), (h4, .inr (4, [.ref a1, .ref a2, .ref a3, .int (nI n), .int sn, .int sg])), (h2, .inr (2, [.ref r1, .int u.1])), (r1, .inl (cI, 9, .inl u.2))] tS.heap) (aA [x0, h4, h2, r1])) 0 0 (aA [x0, h4, h2, r1]) := by
  refine Met.ofW (cc := cX6_order) (maxL := 2) (ret := (some .int)) (by decide) rfl ?_
  intro p e s m args below meth c s₁ B hml hv
  obtain ⟨rfl, hP, hKN, hD0⟩ := hv
  have hK := hKN.1
  have hx := B.exec
  have hb := B.bytes
  have hr := B.returns
  have hts := atoms_spec (ws := wsX6_order) B.pre
  have hown : s.vm.findClass RX6 = some m.cls := findClass_of_methodNamed B.named
  have hlocks := B.notSynchronized
  have hiX2 : ∀ w ∈ wsX20, w ∈ wsX6_order := by decide +kernel
  have hiX6 : ∀ w ∈ wsX60, w ∈ wsX6_order := by decide +kernel
  have hf10 := hts (.fieldLink RX6 10 "LookBench" "shelf" "LLookBench$Shelf;") (by decide +kernel)
  have hf26 := hts (.fieldLink RX6 26 "LookBench" "queue" "LLookBench$Queue;") (by decide +kernel)
  have hf196 := va_Nw.use (A := [.ref x0, .int p0].toArray) rfl (hKN.2 (.fieldLinkNest RX6 196 RX2 "count" "I" RX6) (by decide +kernel))
  obtain ⟨as, has⟩ : ∃ z : List Nat, z = [x0, h4, h2, r1] := ⟨_, rfl⟩
  have hD := hD0.addr (as := as) (by rw [has]; rfl)
  have hS : va_S (aA as) s.heap s.heap [] := va_S.rf
  have hl := lv_entry ([.ref x0, .int p0]) (n := 2) (Nat.le_of_ble_eq_true rfl)
  rw [lg_entry_eq]
  generalize (lg_sl ([.ref x0, .int p0]) ++ List.replicate (2 - (lg_sl ([.ref x0, .int p0])).length) Slot.unset).toArray = ls at hl ⊢
  have hl : lv_has ls 2 [(0, .ref x0), (1, .int p0)] := hl
  generalize hQ : MQ below _ _ s _ _ _ = Q
  obtain ⟨H, hH⟩ : ∃ z, z = s.heap := ⟨_, rfl⟩
  have hP : va_P D vwCl [(x0, .inr (6, [.ref h4, .ref h3, .ref h2, .ref h1, .ref hB, .ref h5])), (h4, .inr (4, [.ref a1, .ref a2, .ref a3, .int (nI n), .int sn, .int sg])), (h2, .inr (2, [.ref r1, .int (nI q)])), (r1, .inl (cI, 9, .inl fr))] H := by rw [hH]; exact hP
  have hS : va_S (aA as) s.heap H [] := by rw [hH]; exact hS
  refine m_heap hH ?_
  clear hH
  refine lv_aload_n hx hb dX6_order_0 rfl (lv_at hl 0 rfl) ?_
  refine va_get (D := D) (ci := 6) (v := .ref h4) (C := RX6) (T := TX6) (N := 6) hx hb hts hiX6 hown hK hP 0 rfl rfl 0 (by decide) hf10 (fun _ h9 => h9) rfl dX6_order_1 ?_
  refine lv_iload_n hx hb dX6_order_4 rfl (lv_at hl 1 rfl) ?_
  refine pu_i (va_runV (As := [.int p0]) (rest := []) ⟨hx, hb, hml, hown, hts⟩ (c_X4_has l D cI cJ cZ h4 a1 a2 a3 n sn sg p0 (by first | assumption | omega)) (cwV 1 hts gX6_order_X4_has rfl rfl rfl (by decide +kernel) ⟨Nat.le_of_ble_eq_true rfl, Nat.le_of_ble_eq_true rfl⟩) ⟨pc_blind, va_recv hK hP (ci := 4) (q0 := 1) rfl rfl, fun U hU hW => ⟨rfl, by rw [hU]; exact hP.sub (ws' := [(h4, .inr (4, [.ref a1, .ref a2, .ref a3, .int (nI n), .int sn, .int sg]))]) [1] rfl, hKN.warm hW⟩⟩ rfl rfl hl.1 rfl (lv_room (Nat.le_of_ble_eq_true rfl)) dX6_order_5 ⟨Nat.le_of_ble_eq_true rfl, Nat.le_of_ble_eq_true rfl⟩) hS hP (fun r1 H locs w1r hP hS => ?_)
  have w1 : B01 r1 (0 ≤ p0.toInt ∧ p0.toInt < n) := w1r
  clear w1r
  rcases w1 with ⟨rfl, w1⟩ | ⟨rfl, w1⟩
  · skip
    refine lv_if_eq (tgt := 22) hx hb dX6_order_8 (by decide) (fun c2 => ?_) (fun c2 => ?_)
    · exact absurd c2 (by first | decide | exact nz_lt (by omega) | exact fun h => h (nz_ge (by omega)))
    · skip
      refine lv_aload_n hx hb dX6_order_11 rfl (lv_at hl 0 rfl) ?_
      refine va_get (D := D) (ci := 6) (v := .ref h2) (C := RX6) (T := TX6) (N := 6) hx hb hts hiX6 hown hK hP 0 rfl rfl 2 (by decide) hf26 (fun _ h9 => h9) rfl dX6_order_12 ?_
      refine lv_iload_n hx hb dX6_order_15 rfl (lv_at hl 1 rfl) ?_
      refine pu_i (va_runV (As := [.int p0]) (rest := []) ⟨hx, hb, hml, hown, hts⟩ (c_X2_holds l D cI cJ cZ h2 r1 q p0 fr (by first | assumption | omega)) (cwV 1 hts gX6_order_X2_holds rfl rfl rfl (by decide +kernel) ⟨Nat.le_of_ble_eq_true rfl, Nat.le_of_ble_eq_true rfl⟩) ⟨pc_blind, va_recv hK hP (ci := 2) (q0 := 2) rfl rfl, fun U hU hW => ⟨rfl, by rw [hU]; exact hP.sub (ws' := [(h2, .inr (2, [.ref r1, .int (nI q)])), (r1, .inl (cI, 9, .inl fr))]) [2, 3] rfl, hKN.warm hW⟩⟩ rfl rfl hl.1 rfl (lv_room (Nat.le_of_ble_eq_true rfl)) dX6_order_16 ⟨Nat.le_of_ble_eq_true rfl, Nat.le_of_ble_eq_true rfl⟩) hS hP (fun r3 H locs w3r hP hS => ?_)
      have w3 : B01 r3 (∃ z, z < q ∧ fr z = p0) := w3r
      clear w3r
      rcases w3 with ⟨rfl, w3⟩ | ⟨rfl, w3⟩
      · skip
        refine lv_if_eq (tgt := 24) hx hb dX6_order_19 (by decide) (fun c4 => ?_) (fun c4 => ?_)
        · exact absurd c4 (by first | decide | exact nz_lt (by omega) | exact fun h => h (nz_ge (by omega)))
        · skip
          refine lv_iconst (v := (-1 : Int32)) hx hb dX6_order_22 (by decide) ?_
          rw [← hQ]
          exact W.iret (v := (-1 : Int32)) hx hb hr (fun tS htS hWS => ⟨⟨(-1 : Int32), (nI q, fr), rfl, Or.inr ⟨rfl, fun h => by first | exact w1 h.1 | exact (Exists.elim w3 fun z hz => h.2 z hz.1 hz.2), rfl, rfl⟩, m_at htS hP⟩, by rw [← has]; exact hS.F htS⟩) (by rw [← has]; exact hS.2.2) dX6_order_23
      · skip
        refine lv_if_eq (tgt := 24) hx hb dX6_order_19 (by decide) (fun c5 => ?_) (fun c5 => ?_)
        · skip
          have w3n : ∀ z, z < q → ¬ fr z = p0 := fun z h1 h2 => w3 ⟨z, h1, h2⟩
          have hq9 := hqr w1 w3n
          refine lv_aload_n hx hb dX6_order_24 rfl (lv_at hl 0 rfl) ?_
          refine va_get (D := D) (ci := 6) (v := .ref h2) (C := RX6) (T := TX6) (N := 6) hx hb hts hiX6 hown hK hP 0 rfl rfl 2 (by decide) hf26 (fun _ h9 => h9) rfl dX6_order_25 ?_
          refine lv_iload_n hx hb dX6_order_28 rfl (lv_at hl 1 rfl) ?_
          refine mu_v (n := 4) (wc := [(h2, .inr (2, [.ref r1, .int (nI q)])), (r1, .inl (cI, 9, .inl fr))]) (va_runV (As := [.int p0]) (rest := []) ⟨hx, hb, hml, hown, hts⟩ (c_X2_append l D cI cJ cZ h2 r1 q p0 fr (by first | assumption | omega)) (cwV 1 hts gX6_order_X2_append rfl rfl rfl (by decide +kernel) ⟨Nat.le_of_ble_eq_true rfl, Nat.le_of_ble_eq_true rfl⟩) ⟨pm_blind, va_recv hK hP (ci := 2) (q0 := 2) rfl rfl, fun U hU hW => ⟨rfl, by rw [hU]; exact hP.sub (ws' := [(h2, .inr (2, [.ref r1, .int (nI q)])), (r1, .inl (cI, 9, .inl fr))]) [2, 3] rfl, hKN.warm hW, (hD.sub (ws' := [(h2, .inr (2, [.ref r1, .int (nI q)])), (r1, .inl (cI, 9, .inl fr))]) [2, 3] (by decide) rfl).weaken (fun _ _ _ _ => trivial)⟩⟩ rfl rfl hl.1 rfl (lv_room (Nat.le_of_ble_eq_true rfl)) dX6_order_29 ⟨Nat.le_of_ble_eq_true rfl, Nat.le_of_ble_eq_true rfl⟩) hS hP hD (fun (u : Unit) => [(x0, .inr (6, [.ref h4, .ref h3, .ref h2, .ref h1, .ref hB, .ref h5])), (h4, .inr (4, [.ref a1, .ref a2, .ref a3, .int (nI n), .int sn, .int sg])), (h2, .inr (2, [.ref r1, .int (nI (q + 1))])), (r1, .inl (cI, 9, .inl (upd fr q p0)))]) [2, 3] [0, 1] rfl rfl (fun _ => rfl) (fun _ => rfl) (fun _ => rfl) (fun _ => rfl) (by decide) (by decide) (fun u6 H locs w6r hP hD hS => ?_)
          have hP : va_P D vwCl [(x0, .inr (6, [.ref h4, .ref h3, .ref h2, .ref h1, .ref hB, .ref h5])), (h4, .inr (4, [.ref a1, .ref a2, .ref a3, .int (nI n), .int sn, .int sg])), (h2, .inr (2, [.ref r1, .int (nI (q + 1))])), (r1, .inl (cI, 9, .inl (upd fr q p0)))] H := hP
          have hD : va_D (aA as) [(x0, .inr (6, [.ref h4, .ref h3, .ref h2, .ref h1, .ref hB, .ref h5])), (h4, .inr (4, [.ref a1, .ref a2, .ref a3, .int (nI n), .int sn, .int sg])), (h2, .inr (2, [.ref r1, .int (nI (q + 1))])), (r1, .inl (cI, 9, .inl (upd fr q p0)))] := hD
          have w6 : True := w6r
          clear w6r
          refine lv_aload_n hx hb dX6_order_32 rfl (lv_at hl 0 rfl) ?_
          refine va_get (D := D) (ci := 6) (v := .ref h2) (C := RX6) (T := TX6) (N := 6) hx hb hts hiX6 hown hK hP 0 rfl rfl 2 (by decide) hf26 (fun _ h9 => h9) rfl dX6_order_33 ?_
          refine va_getN (D := D) (ci := 2) (v := .int (nI (q + 1))) (C := RX2) (T := TX2) (N := 2) hx hb hts hiX2 hown hK hP 2 rfl rfl 1 (by decide) hf196 (fun _ h9 => h9) rfl dX6_order_36 ?_
          rw [← hQ]
          exact W.iret (v := nI (q + 1)) hx hb hr (fun tS htS hWS => ⟨⟨(nI (q + 1)), (nI (q + 1), upd fr q p0), rfl, Or.inl ⟨rfl, ⟨w1, w3n⟩, rfl, rfl⟩, m_at htS hP⟩, by rw [← has]; exact hS.F htS⟩) (by rw [← has]; exact hS.2.2) dX6_order_39
        · exact absurd c5 (by first | decide | exact nz_lt (by omega) | exact fun h => h (nz_ge (by omega)))
  · skip
    refine lv_if_eq (tgt := 22) hx hb dX6_order_8 (by decide) (fun c7 => ?_) (fun c7 => ?_)
    · skip
      refine lv_iconst (v := (-1 : Int32)) hx hb dX6_order_22 (by decide) ?_
      rw [← hQ]
      exact W.iret (v := (-1 : Int32)) hx hb hr (fun tS htS hWS => ⟨⟨(-1 : Int32), (nI q, fr), rfl, Or.inr ⟨rfl, fun h => by first | exact w1 h.1 | exact (Exists.elim w3 fun z hz => h.2 z hz.1 hz.2), rfl, rfl⟩, m_at htS hP⟩, by rw [← has]; exact hS.F htS⟩) (by rw [← has]; exact hS.2.2) dX6_order_23
    · exact absurd c7 (by first | decide | exact nz_lt (by omega) | exact fun h => h (nz_ge (by omega)))
def rm_c_X6_ratios_g : Room := { frames := 2, cells := 0, slots := 0, locals := 50 }
set_option maxHeartbeats 400000 in
set_option maxRecDepth 100000 in
theorem c_X6_ratios_g (l : Launch) (D : va_G) (cI cJ cZ : ClassId) (x0 : Nat) (h4 : Nat) (h3 : Nat) (h2 : Nat) (h1 : Nat) (hB : Nat) (h5 : Nat) (a1 : Nat) (a2 : Nat) (a3 : Nat) (r1 : Nat) (n : Nat) (sn : Int32) (sg : Int32) (qc : Int32) (sd : Int32) (em : Int32) (fr : Nat → Int32) (fg : Nat → Int32) (fb : Nat → Int32) (fp : Nat → Int32) (hn : n ≤ 9) : Met l yX6_ratios wsX6_ratios rm_c_X6_ratios_g (pm_ D cI cJ cZ [.ref x0, .int sd, .int em] [(x0, .inr (6, [.ref h4, .ref h3, .ref h2, .ref h1, .ref hB, .ref h5])), (h4, .inr (4, [.ref a1, .ref a2, .ref a3, .int (nI n), .int sn, .int sg])), (a1, .inl (cI, 9, .inl fg)), (a2, .inl (cI, 9, .inl fb)), (a3, .inl (cI, 9, .inl fp)), (h2, .inr (2, [.ref r1, .int qc])), (r1, .inl (cI, 9, .inl fr))]) (va_Qi (fun (r : Int32) (u : Int32 × (Nat → Int32)) => (em = 0 ∧ r = nI n ∧ u.1 = nI n ∧ ∀ z, z < n → ∃ x, x < n ∧ u.2 z = nI x) ∨ (¬ em = 0 ∧ r = nI 0 ∧ u.1 = nI 0 ∧ u.2 = fr)) (fun (u : Int32 × (Nat → Int32)) tS => va_P D vwCl [(x0, .inr (6, [.ref h4, .ref h3, .ref h2, .ref h1, .ref hB, .ref h5])), (h4, .inr (4, [.ref a1, .ref a2, .ref a3, .int (nI n), .int sn, .int sg])), (a1, .inl (cI, 9, .inl fg)), (a2, .inl (cI, 9, .inl fb)), (a3, .inl (cI, 9, .inl fp)), (h2, .inr (2, [.ref r1, .int u.1])), (r1, .inl (cI, 9, .inl u.2))] tS.heap) (aA [x0, h4, a1, a2, a3, h2, r1])) 0 0 (aA [x0, h4, a1, a2, a3, h2, r1]) := by
  refine Met.ofW (cc := cX6_ratios) (maxL := 3) (ret := (some .int)) (by decide) rfl ?_
  intro p e s m args below meth c s₁ B hml hv
  obtain ⟨rfl, hP, hKN, hD0⟩ := hv
  have hK := hKN.1
  have hx := B.exec
  have hb := B.bytes
  have hr := B.returns
  have hts := atoms_spec (ws := wsX6_ratios) B.pre
  have hown : s.vm.findClass RX6 = some m.cls := findClass_of_methodNamed B.named
  have hlocks := B.notSynchronized
  have hiX2 : ∀ w ∈ wsX20, w ∈ wsX6_ratios := by decide +kernel
  have hiX6 : ∀ w ∈ wsX60, w ∈ wsX6_ratios := by decide +kernel
  have hf10 := hts (.fieldLink RX6 10 "LookBench" "shelf" "LLookBench$Shelf;") (by decide +kernel)
  have hf26 := hts (.fieldLink RX6 26 "LookBench" "queue" "LLookBench$Queue;") (by decide +kernel)
  have hf196 := va_Nw.use (A := [.ref x0, .int sd, .int em].toArray) rfl (hKN.2 (.fieldLinkNest RX6 196 RX2 "count" "I" RX6) (by decide +kernel))
  obtain ⟨as, has⟩ : ∃ z : List Nat, z = [x0, h4, a1, a2, a3, h2, r1] := ⟨_, rfl⟩
  have hD := hD0.addr (as := as) (by rw [has]; rfl)
  have hS : va_S (aA as) s.heap s.heap [] := va_S.rf
  have hl := lv_entry ([.ref x0, .int sd, .int em]) (n := 3) (Nat.le_of_ble_eq_true rfl)
  rw [lg_entry_eq]
  generalize (lg_sl ([.ref x0, .int sd, .int em]) ++ List.replicate (3 - (lg_sl ([.ref x0, .int sd, .int em])).length) Slot.unset).toArray = ls at hl ⊢
  have hl : lv_has ls 3 [(0, .ref x0), (1, .int sd), (2, .int em)] := hl
  generalize hQ : MQ below _ _ s _ _ _ = Q
  obtain ⟨H, hH⟩ : ∃ z, z = s.heap := ⟨_, rfl⟩
  have hP : va_P D vwCl [(x0, .inr (6, [.ref h4, .ref h3, .ref h2, .ref h1, .ref hB, .ref h5])), (h4, .inr (4, [.ref a1, .ref a2, .ref a3, .int (nI n), .int sn, .int sg])), (a1, .inl (cI, 9, .inl fg)), (a2, .inl (cI, 9, .inl fb)), (a3, .inl (cI, 9, .inl fp)), (h2, .inr (2, [.ref r1, .int qc])), (r1, .inl (cI, 9, .inl fr))] H := by rw [hH]; exact hP
  have hS : va_S (aA as) s.heap H [] := by rw [hH]; exact hS
  refine m_heap hH ?_
  clear hH
  refine lv_aload_n hx hb dX6_ratios_0 rfl (lv_at hl 0 rfl) ?_
  refine va_get (D := D) (ci := 6) (v := .ref h2) (C := RX6) (T := TX6) (N := 6) hx hb hts hiX6 hown hK hP 0 rfl rfl 2 (by decide) hf26 (fun _ h9 => h9) rfl dX6_ratios_1 ?_
  refine mu2_v (n := 7) (wc := [(h2, .inr (2, [.ref r1, .int qc]))]) (wr := [(x0, .inr (6, [.ref h4, .ref h3, .ref h2, .ref h1, .ref hB, .ref h5])), (h4, .inr (4, [.ref a1, .ref a2, .ref a3, .int (nI n), .int sn, .int sg])), (a1, .inl (cI, 9, .inl fg)), (a2, .inl (cI, 9, .inl fb)), (a3, .inl (cI, 9, .inl fp)), (r1, .inl (cI, 9, .inl fr))]) (as0 := [x0, h4, a1, a2, a3, h2, r1]) (va_runV (As := []) (rest := []) ⟨hx, hb, hml, hown, hts⟩ (c_X2_clear l D cI cJ cZ h2 r1 qc) (cwV 0 hts gX6_ratios_X2_clear rfl rfl rfl (by decide +kernel) ⟨Nat.le_of_ble_eq_true rfl, Nat.le_of_ble_eq_true rfl⟩) ⟨pm_blind, va_recv hK hP (ci := 2) (q0 := 5) rfl rfl, fun U hU hW => ⟨rfl, by rw [hU]; exact hP.sub (ws' := [(h2, .inr (2, [.ref r1, .int qc]))]) [5] rfl, hKN.warm hW, (hD.sub (ws' := [(h2, .inr (2, [.ref r1, .int qc]))]) [5] (by decide) rfl).weaken (fun _ _ _ _ => trivial)⟩⟩ rfl rfl hl.1 rfl (lv_room (Nat.le_of_ble_eq_true rfl)) dX6_ratios_4 ⟨Nat.le_of_ble_eq_true rfl, Nat.le_of_ble_eq_true rfl⟩) hS hP hD (fun (u : Unit) => [(x0, .inr (6, [.ref h4, .ref h3, .ref h2, .ref h1, .ref hB, .ref h5])), (h4, .inr (4, [.ref a1, .ref a2, .ref a3, .int (nI n), .int sn, .int sg])), (a1, .inl (cI, 9, .inl fg)), (a2, .inl (cI, 9, .inl fb)), (a3, .inl (cI, 9, .inl fp)), (h2, .inr (2, [.ref r1, .int (nI 0)])), (r1, .inl (cI, 9, .inl fr))]) [5] [0, 1, 2, 3, 4, 6] rfl rfl rfl (fun _ => rfl) (fun _ => rfl) rfl (fun _ => rfl) (fun _ => rfl) (m_cov rfl) (m_dis rfl) (fun u1 H locs w1r hP hD hS => ?_)
  have hP : va_P D vwCl [(x0, .inr (6, [.ref h4, .ref h3, .ref h2, .ref h1, .ref hB, .ref h5])), (h4, .inr (4, [.ref a1, .ref a2, .ref a3, .int (nI n), .int sn, .int sg])), (a1, .inl (cI, 9, .inl fg)), (a2, .inl (cI, 9, .inl fb)), (a3, .inl (cI, 9, .inl fp)), (h2, .inr (2, [.ref r1, .int (nI 0)])), (r1, .inl (cI, 9, .inl fr))] H := hP
  have hD : va_D (aA as) [(x0, .inr (6, [.ref h4, .ref h3, .ref h2, .ref h1, .ref hB, .ref h5])), (h4, .inr (4, [.ref a1, .ref a2, .ref a3, .int (nI n), .int sn, .int sg])), (a1, .inl (cI, 9, .inl fg)), (a2, .inl (cI, 9, .inl fb)), (a3, .inl (cI, 9, .inl fp)), (h2, .inr (2, [.ref r1, .int (nI 0)])), (r1, .inl (cI, 9, .inl fr))] := hD
  have w1 : True := w1r
  clear w1r
  refine lv_iload_n hx hb dX6_ratios_7 rfl (lv_at hl 2 rfl) ?_
  refine lv_if_ne (tgt := 23) hx hb dX6_ratios_8 (by decide) (fun c2 => ?_) (fun c2 => ?_)
  · skip
    refine lv_aload_n hx hb dX6_ratios_23 rfl (lv_at hl 0 rfl) ?_
    refine va_get (D := D) (ci := 6) (v := .ref h2) (C := RX6) (T := TX6) (N := 6) hx hb hts hiX6 hown hK hP 0 rfl rfl 2 (by decide) hf26 (fun _ h9 => h9) rfl dX6_ratios_24 ?_
    refine va_getN (D := D) (ci := 2) (v := .int (nI 0)) (C := RX2) (T := TX2) (N := 2) hx hb hts hiX2 hown hK hP 5 rfl rfl 1 (by decide) hf196 (fun _ h9 => h9) rfl dX6_ratios_27 ?_
    rw [← hQ]
    exact W.iret (v := nI 0) hx hb hr (fun tS htS hWS => ⟨⟨(nI 0), (nI 0, fr), rfl, by first | exact Or.inl ⟨c2, rfl, rfl, by assumption⟩ | exact Or.inr ⟨c2, rfl, rfl, rfl⟩, m_at htS hP⟩, by rw [← has]; exact hS.F htS⟩) (by rw [← has]; exact hS.2.2) dX6_ratios_30
  · skip
    refine lv_aload_n hx hb dX6_ratios_11 rfl (lv_at hl 0 rfl) ?_
    refine va_get (D := D) (ci := 6) (v := .ref h2) (C := RX6) (T := TX6) (N := 6) hx hb hts hiX6 hown hK hP 0 rfl rfl 2 (by decide) hf26 (fun _ h9 => h9) rfl dX6_ratios_12 ?_
    refine lv_aload_n hx hb dX6_ratios_15 rfl (lv_at hl 0 rfl) ?_
    refine va_get (D := D) (ci := 6) (v := .ref h4) (C := RX6) (T := TX6) (N := 6) hx hb hts hiX6 hown hK hP 0 rfl rfl 0 (by decide) hf10 (fun _ h9 => h9) rfl dX6_ratios_16 ?_
    refine lv_iload_n hx hb dX6_ratios_19 rfl (lv_at hl 1 rfl) ?_
    refine mu2_v (n := 7) (wc := [(h2, .inr (2, [.ref r1, .int (nI 0)])), (r1, .inl (cI, 9, .inl fr)), (h4, .inr (4, [.ref a1, .ref a2, .ref a3, .int (nI n), .int sn, .int sg])), (a1, .inl (cI, 9, .inl fg)), (a2, .inl (cI, 9, .inl fb)), (a3, .inl (cI, 9, .inl fp))]) (wr := [(x0, .inr (6, [.ref h4, .ref h3, .ref h2, .ref h1, .ref hB, .ref h5]))]) (as0 := [x0, h4, a1, a2, a3, h2, r1]) (va_runV (As := [.ref h4, .int sd]) (rest := []) ⟨hx, hb, hml, hown, hts⟩ (c_X2_fillByRatios l D cI cJ cZ h2 r1 h4 a1 a2 a3 n (nI 0) sn sg sd fr fg fb fp (by first | assumption | omega)) (cwV 2 hts gX6_ratios_X2_fillByRatios rfl rfl rfl (by decide +kernel) ⟨Nat.le_of_ble_eq_true rfl, Nat.le_of_ble_eq_true rfl⟩) ⟨pm_blind, va_recv hK hP (ci := 2) (q0 := 5) rfl rfl, fun U hU hW => ⟨rfl, by rw [hU]; exact hP.sub (ws' := [(h2, .inr (2, [.ref r1, .int (nI 0)])), (r1, .inl (cI, 9, .inl fr)), (h4, .inr (4, [.ref a1, .ref a2, .ref a3, .int (nI n), .int sn, .int sg])), (a1, .inl (cI, 9, .inl fg)), (a2, .inl (cI, 9, .inl fb)), (a3, .inl (cI, 9, .inl fp))]) [5, 6, 1, 2, 3, 4] rfl, hKN.warm hW, (hD.sub (ws' := [(h2, .inr (2, [.ref r1, .int (nI 0)])), (r1, .inl (cI, 9, .inl fr)), (h4, .inr (4, [.ref a1, .ref a2, .ref a3, .int (nI n), .int sn, .int sg])), (a1, .inl (cI, 9, .inl fg)), (a2, .inl (cI, 9, .inl fb)), (a3, .inl (cI, 9, .inl fp))]) [5, 6, 1, 2, 3, 4] (by decide) rfl).weaken (fun _ _ _ _ => trivial)⟩⟩ rfl rfl hl.1 rfl (lv_room (Nat.le_of_ble_eq_true rfl)) dX6_ratios_20 ⟨Nat.le_of_ble_eq_true rfl, Nat.le_of_ble_eq_true rfl⟩) hS hP hD (fun (u : (Nat → Int32)) => [(x0, .inr (6, [.ref h4, .ref h3, .ref h2, .ref h1, .ref hB, .ref h5])), (h4, .inr (4, [.ref a1, .ref a2, .ref a3, .int (nI n), .int sn, .int sg])), (a1, .inl (cI, 9, .inl fg)), (a2, .inl (cI, 9, .inl fb)), (a3, .inl (cI, 9, .inl fp)), (h2, .inr (2, [.ref r1, .int (nI n)])), (r1, .inl (cI, 9, .inl u))]) [5, 6, 1, 2, 3, 4] [0] rfl rfl rfl (fun _ => rfl) (fun _ => rfl) rfl (fun _ => rfl) (fun _ => rfl) (m_cov rfl) (m_dis rfl) (fun u3 H locs w3r hP hD hS => ?_)
    obtain ⟨u3_ur, rfl⟩ : ∃ z, z = u3 := ⟨_, rfl⟩
    have hP : va_P D vwCl [(x0, .inr (6, [.ref h4, .ref h3, .ref h2, .ref h1, .ref hB, .ref h5])), (h4, .inr (4, [.ref a1, .ref a2, .ref a3, .int (nI n), .int sn, .int sg])), (a1, .inl (cI, 9, .inl fg)), (a2, .inl (cI, 9, .inl fb)), (a3, .inl (cI, 9, .inl fp)), (h2, .inr (2, [.ref r1, .int (nI n)])), (r1, .inl (cI, 9, .inl u3_ur))] H := hP
    have hD : va_D (aA as) [(x0, .inr (6, [.ref h4, .ref h3, .ref h2, .ref h1, .ref hB, .ref h5])), (h4, .inr (4, [.ref a1, .ref a2, .ref a3, .int (nI n), .int sn, .int sg])), (a1, .inl (cI, 9, .inl fg)), (a2, .inl (cI, 9, .inl fb)), (a3, .inl (cI, 9, .inl fp)), (h2, .inr (2, [.ref r1, .int (nI n)])), (r1, .inl (cI, 9, .inl u3_ur))] := hD
    have w3 : ∀ z, z < n → ∃ y, y < n ∧ u3_ur z = nI y := w3r
    clear w3r
    refine lv_aload_n hx hb dX6_ratios_23 rfl (lv_at hl 0 rfl) ?_
    refine va_get (D := D) (ci := 6) (v := .ref h2) (C := RX6) (T := TX6) (N := 6) hx hb hts hiX6 hown hK hP 0 rfl rfl 2 (by decide) hf26 (fun _ h9 => h9) rfl dX6_ratios_24 ?_
    refine va_getN (D := D) (ci := 2) (v := .int (nI n)) (C := RX2) (T := TX2) (N := 2) hx hb hts hiX2 hown hK hP 5 rfl rfl 1 (by decide) hf196 (fun _ h9 => h9) rfl dX6_ratios_27 ?_
    rw [← hQ]
    exact W.iret (v := nI n) hx hb hr (fun tS htS hWS => ⟨⟨(nI n), (nI n, u3_ur), rfl, by first | exact Or.inl ⟨c2, rfl, rfl, by assumption⟩ | exact Or.inr ⟨c2, rfl, rfl, rfl⟩, m_at htS hP⟩, by rw [← has]; exact hS.F htS⟩) (by rw [← has]; exact hS.2.2) dX6_ratios_30
