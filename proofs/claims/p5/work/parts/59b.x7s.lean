def rm_c_X7_sure_g : Room := { frames := 3, cells := 0, slots := 0, locals := 67 }
set_option maxHeartbeats 400000 in
set_option maxRecDepth 100000 in
theorem c_X7_sure_g (l : Launch) (D : va_G) (cI cJ cZ : ClassId) (m0 : Nat) (g1 : Nat) (g2 : Nat) (g3 : Nat) (g4 : Nat) (g5 : Nat) (g6 : Nat) (g7 : Nat) (g8 : Nat) (g9 : Nat) (g10 : Nat) (g11 : Nat) (g12 : Nat) (n : Nat) (y : Nat) (mr : Int32) (mo : Int32) (ml : Int32) (fs : Nat → Int32) (fn : Nat → Int32) (th : Nat → Int32) (hn : n ≤ 9) (hy : y < 40) (hth : ∀ z, z < 9 → th z = nI (3 ^ z)) (h01 : ∀ z, fs z = nI 0 ∨ fs z = nI 1) : Met l yX7_sure wsX7_sure rm_c_X7_sure_g (pc_ D cI cJ cZ [.ref m0] [(m0, .inr (7, [.int (nI n), .ref g1, .ref g2, .ref g3, .int mr, .ref g4, .int (nI y), .ref g5, .int mo, .ref g6, .int ml, .ref g7, .ref g8, .ref g9, .ref g10, .ref g11, .ref g12])), (g4, .inl (cZ, 20480, .inl fs)), (g5, .inl (cI, 9, .inl fn)), (g12, .inl (cI, 9, .inl th))]) (va_Qi (fun (r : Int32) (_ : Unit) => True) (fun _ _ => True) aN) 0 0 aN := by
  refine Met.ofW (cc := cX7_sure) (maxL := 1) (ret := (some .int)) (by decide) rfl ?_
  intro p e s m args below meth c s₁ B hml hv
  obtain ⟨rfl, hP, hKN⟩ := hv
  have hK := hKN.1
  have hx := B.exec
  have hb := B.bytes
  have hr := B.returns
  have hts := atoms_spec (ws := wsX7_sure) B.pre
  have hown : s.vm.findClass RX7 = some m.cls := findClass_of_methodNamed B.named
  have hlocks := B.notSynchronized
  have hiX7 : ∀ w ∈ wsX70, w ∈ wsX7_sure := by decide +kernel
  have hf27 := hts (.fieldLink RX7 27 "LookBenchModel" "system" "I") (by decide +kernel)
  have hS : va_S aN s.heap s.heap [] := va_S.rf
  have hl := lv_entry ([.ref m0]) (n := 1) (Nat.le_of_ble_eq_true rfl)
  rw [lg_entry_eq]
  generalize (lg_sl ([.ref m0]) ++ List.replicate (1 - (lg_sl ([.ref m0])).length) Slot.unset).toArray = ls at hl ⊢
  have hl : lv_has ls 1 [(0, .ref m0)] := hl
  generalize hQ : MQ below _ _ s _ _ _ = Q
  obtain ⟨H, hH⟩ : ∃ z, z = s.heap := ⟨_, rfl⟩
  have hP : va_P D vwCl [(m0, .inr (7, [.int (nI n), .ref g1, .ref g2, .ref g3, .int mr, .ref g4, .int (nI y), .ref g5, .int mo, .ref g6, .int ml, .ref g7, .ref g8, .ref g9, .ref g10, .ref g11, .ref g12])), (g4, .inl (cZ, 20480, .inl fs)), (g5, .inl (cI, 9, .inl fn)), (g12, .inl (cI, 9, .inl th))] H := by rw [hH]; exact hP
  have hS : va_S aN s.heap H [] := by rw [hH]; exact hS
  refine m_heap hH ?_
  clear hH
  have h2n := m_pow hn
  have h2p := m_powp n
  have h3n := m_p3 hn
  have hnl := nowN_lt fn n
  refine lv_aload_n hx hb dX7_sure_0 rfl (lv_at hl 0 rfl) ?_
  refine va_get (D := D) (ci := 7) (v := .int (nI y)) (C := RX7) (T := TX7) (N := 17) hx hb hts hiX7 hown hK hP 0 rfl rfl 6 (by decide) hf27 (fun _ h9 => h9) rfl dX7_sure_1 ?_
  refine lv_if_ge (tgt := 12) hx hb dX7_sure_4 (by decide) (fun c1 => ?_) (fun c1 => ?_)
  · skip
    refine lv_aload_n hx hb dX7_sure_12 rfl (lv_at hl 0 rfl) ?_
    refine lv_aload_n hx hb dX7_sure_13 rfl (lv_at hl 0 rfl) ?_
    refine pu_i (va_runV (As := []) (rest := [.ref m0]) ⟨hx, hb, hml, hown, hts⟩ (c_X7_now_g l D cI cJ cZ m0 g1 g2 g3 g4 g5 g6 g7 g8 g9 g10 g11 g12 n mr (nI y) mo ml fn th (by first | assumption | omega) (by first | assumption | omega)) (cwV 0 hts gX7_sure_X7_now rfl rfl rfl (by decide +kernel) ⟨Nat.le_of_ble_eq_true rfl, Nat.le_of_ble_eq_true rfl⟩) ⟨pc_blind, va_recv hK hP (ci := 7) (q0 := 0) rfl rfl, fun U hU hW => ⟨rfl, by rw [hU]; exact hP.sub (ws' := [(m0, .inr (7, [.int (nI n), .ref g1, .ref g2, .ref g3, .int mr, .ref g4, .int (nI y), .ref g5, .int mo, .ref g6, .int ml, .ref g7, .ref g8, .ref g9, .ref g10, .ref g11, .ref g12])), (g5, .inl (cI, 9, .inl fn)), (g12, .inl (cI, 9, .inl th))]) [0, 2, 3] rfl, hKN.warm hW⟩⟩ rfl rfl hl.1 rfl (lv_room (Nat.le_of_ble_eq_true rfl)) dX7_sure_14 ⟨Nat.le_of_ble_eq_true rfl, Nat.le_of_ble_eq_true rfl⟩) hS hP (fun r2 H locs w2r hP hS => ?_)
    have w2 : r2 = nI (nowN fn n) := w2r
    clear w2r
    obtain rfl : r2 = nI (nowN fn n) := w2
    refine pu_i (va_runV (As := [.int (nI (nowN fn n))]) (rest := []) ⟨hx, hb, hml, hown, hts⟩ (c_X7_sureAt l D cI cJ cZ m0 g1 g2 g3 g4 g5 g6 g7 g8 g9 g10 g11 g12 n (nowN fn n) y mr mo ml fs th (by first | assumption | omega) (by first | assumption | omega) (by first | assumption | omega) (by first | assumption | omega) (by first | assumption | omega)) (cwV 1 hts gX7_sure_X7_sureAt rfl rfl rfl (by decide +kernel) ⟨Nat.le_of_ble_eq_true rfl, Nat.le_of_ble_eq_true rfl⟩) ⟨pc_blind, va_recv hK hP (ci := 7) (q0 := 0) rfl rfl, fun U hU hW => ⟨rfl, by rw [hU]; exact hP.sub (ws' := [(m0, .inr (7, [.int (nI n), .ref g1, .ref g2, .ref g3, .int mr, .ref g4, .int (nI y), .ref g5, .int mo, .ref g6, .int ml, .ref g7, .ref g8, .ref g9, .ref g10, .ref g11, .ref g12])), (g4, .inl (cZ, 20480, .inl fs)), (g12, .inl (cI, 9, .inl th))]) [0, 1, 3] rfl, hKN.warm hW⟩⟩ rfl rfl hl.1 rfl (lv_room (Nat.le_of_ble_eq_true rfl)) dX7_sure_17 ⟨Nat.le_of_ble_eq_true rfl, Nat.le_of_ble_eq_true rfl⟩) hS hP (fun r3 H locs w3r hP hS => ?_)
    have w3 : (r3 = nI 1 ∧ Sg fs y (setN (nowN fn n) 1 n)) ∨ (r3 = -1 ∧ ¬ Sg fs y (setN (nowN fn n) 1 n) ∧ Sg fs y (2 ^ n - 1 - setN (nowN fn n) 2 n)) ∨ (r3 = nI 0 ∧ ¬ Sg fs y (setN (nowN fn n) 1 n) ∧ ¬ Sg fs y (2 ^ n - 1 - setN (nowN fn n) 2 n)) := w3r
    clear w3r
    rw [← hQ]
    exact W.iret (v := r3) hx hb hr (fun tS htS hWS => ⟨⟨r3, (), rfl, trivial, trivial⟩, hS.F htS⟩) hS.2.2 dX7_sure_20
  · exact absurd c1 (by first | decide | exact nz_lt (by omega) | exact fun h => h (nz_ge (by omega)))
