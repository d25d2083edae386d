
def mnow (th fn : Nat → Int32) : Nat → Int32
  | 0 => nI 0
  | k + 1 => mnow th fn k + th k * (if fn k = nI 1 then nI 1 else if fn k = 0 then nI 2 else nI 0)
def dgt (th : Nat → Int32) (c : Int32) (j : Nat) : Int32 := c / th j - c / th j / nI 3 * nI 3
def mlf (fg fb th : Nat → Int32) (c : Int32) : Nat → Int64
  | 0 => lN 1
  | k + 1 => mlf fg fb th c k * (if dgt th c k = nI 1 then (fg k).toInt64 else if dgt th c k = nI 2 then (fb k).toInt64 else (fg k + fb k).toInt64)
def rm_c_X7_in : Room := { frames := 0, cells := 0, slots := 0, locals := 0 }
set_option maxHeartbeats 400000 in
set_option maxRecDepth 100000 in
theorem c_X7_in (l : Launch) (D : va_G) (cI cJ cZ : ClassId) (v0 : Int64) (lo : Int64) (hi : Int64)  : Met l yX7_in wsX7_in rm_c_X7_in (pc_ D cI cJ cZ [.long v0, .long lo, .long hi] []) (va_Qi (fun (r : Int32) (_ : Unit) => B01 r (lo.toInt ≤ v0.toInt ∧ v0.toInt ≤ hi.toInt)) (fun _ _ => True) aN) 0 0 aN := by
  refine Met.ofW (cc := cX7_in) (maxL := 6) (ret := (some .boolean)) (by decide) rfl ?_
  intro p e s m args below meth c s₁ B hml hv
  obtain ⟨rfl, hP, hKN⟩ := hv
  have hK := hKN.1
  have hx := B.exec
  have hb := B.bytes
  have hr := B.returns
  have hts := atoms_spec (ws := wsX7_in) B.pre
  have hown : s.vm.findClass RX7 = some m.cls := findClass_of_methodNamed B.named
  have hlocks := B.notSynchronized
  have hS : va_S aN s.heap s.heap [] := va_S.rf
  have hl := lv_entry ([.long v0, .long lo, .long hi]) (n := 6) (Nat.le_of_ble_eq_true rfl)
  rw [lg_entry_eq]
  generalize (lg_sl ([.long v0, .long lo, .long hi]) ++ List.replicate (6 - (lg_sl ([.long v0, .long lo, .long hi])).length) Slot.unset).toArray = ls at hl ⊢
  have hl : lv_has ls 6 [(0, .long v0), (2, .long lo), (4, .long hi)] := hl
  generalize hQ : MQ below _ _ s _ _ _ = Q
  obtain ⟨H, hH⟩ : ∃ z, z = s.heap := ⟨_, rfl⟩
  have hP : va_P D vwCl [] H := by rw [hH]; exact hP
  have hS : va_S aN s.heap H [] := by rw [hH]; exact hS
  refine m_heap hH ?_
  clear hH
  refine lv_lload_n hx hb dX7_in_0 rfl (lv_at hl 0 rfl) ?_
  refine lv_lload_n hx hb dX7_in_1 rfl (lv_at hl 1 rfl) ?_
  refine W.lcmp hx hb dX7_in_2 ?_
  refine lv_if_lt (tgt := 17) hx hb dX7_in_3 (by decide) (fun c1 => ?_) (fun c1 => ?_)
  · skip
    have d1 := c1
    rw [lc_lt, j_lt] at d1
    refine lv_iconst (v := nI 0) hx hb dX7_in_17 (by decide) ?_
    rw [← hQ]
    exact W.zret (v := nI 0) hx hb hr (by first | decide | (rw [nar_b01])) (fun tS htS hWS => ⟨⟨(nI 0), (), rfl, Or.inr ⟨rfl, by omega⟩, trivial⟩, hS.F htS⟩) hS.2.2 dX7_in_18
  · skip
    have d1 := c1
    rw [lc_lt, j_lt] at d1
    refine lv_lload_n hx hb dX7_in_6 rfl (lv_at hl 0 rfl) ?_
    refine lv_lload hx hb dX7_in_7 (lv_at hl 2 rfl) ?_
    refine W.lcmp hx hb dX7_in_9 ?_
    refine lv_if_gt (tgt := 17) hx hb dX7_in_10 (by decide) (fun c2 => ?_) (fun c2 => ?_)
    · skip
      have d2 := c2
      rw [lc_gt, j_lt] at d2
      refine lv_iconst (v := nI 0) hx hb dX7_in_17 (by decide) ?_
      rw [← hQ]
      exact W.zret (v := nI 0) hx hb hr (by first | decide | (rw [nar_b01])) (fun tS htS hWS => ⟨⟨(nI 0), (), rfl, Or.inr ⟨rfl, by omega⟩, trivial⟩, hS.F htS⟩) hS.2.2 dX7_in_18
    · skip
      have d2 := c2
      rw [lc_gt, j_lt] at d2
      refine lv_iconst (v := nI 1) hx hb dX7_in_13 (by decide) ?_
      refine lv_goto (tgt := 18) hx hb dX7_in_14 (by decide) ?_
      rw [← hQ]
      exact W.zret (v := nI 1) hx hb hr (by first | decide | (rw [nar_b01])) (fun tS htS hWS => ⟨⟨(nI 1), (), rfl, Or.inl ⟨rfl, by omega⟩, trivial⟩, hS.F htS⟩) hS.2.2 dX7_in_18
def rm_c_X7_isPart : Room := { frames := 1, cells := 0, slots := 0, locals := 25 }
set_option maxHeartbeats 400000 in
set_option maxRecDepth 100000 in
theorem c_X7_isPart (l : Launch) (D : va_G) (cI cJ cZ : ClassId) (m0 : Nat) (g1 : Nat) (g2 : Nat) (g3 : Nat) (g4 : Nat) (g5 : Nat) (g6 : Nat) (g7 : Nat) (g8 : Nat) (g9 : Nat) (g10 : Nat) (g11 : Nat) (g12 : Nat) (n : Nat) (mr : Int32) (my : Int32) (mo : Int32) (ml : Int32) (p0 : Int32) (hn : n ≤ 9) (h1n : 1 ≤ n) : Met l yX7_isPart wsX7_isPart rm_c_X7_isPart (pc_ D cI cJ cZ [.ref m0, .int p0] [(m0, .inr (7, [.int (nI n), .ref g1, .ref g2, .ref g3, .int mr, .ref g4, .int my, .ref g5, .int mo, .ref g6, .int ml, .ref g7, .ref g8, .ref g9, .ref g10, .ref g11, .ref g12]))]) (va_Qi (fun (r : Int32) (_ : Unit) => B01 r (0 ≤ p0.toInt ∧ p0.toInt < n)) (fun _ _ => True) aN) 0 0 aN := by
  refine Met.ofW (cc := cX7_isPart) (maxL := 2) (ret := (some .boolean)) (by decide) rfl ?_
  intro p e s m args below meth c s₁ B hml hv
  obtain ⟨rfl, hP, hKN⟩ := hv
  have hK := hKN.1
  have hx := B.exec
  have hb := B.bytes
  have hr := B.returns
  have hts := atoms_spec (ws := wsX7_isPart) B.pre
  have hown : s.vm.findClass RX7 = some m.cls := findClass_of_methodNamed B.named
  have hlocks := B.notSynchronized
  have hiX7 : ∀ w ∈ wsX70, w ∈ wsX7_isPart := by decide +kernel
  have hf7 := hts (.fieldLink RX7 7 "LookBenchModel" "parts" "I") (by decide +kernel)
  have hS : va_S aN s.heap s.heap [] := va_S.rf
  have hl := lv_entry ([.ref m0, .int p0]) (n := 2) (Nat.le_of_ble_eq_true rfl)
  rw [lg_entry_eq]
  generalize (lg_sl ([.ref m0, .int p0]) ++ List.replicate (2 - (lg_sl ([.ref m0, .int p0])).length) Slot.unset).toArray = ls at hl ⊢
  have hl : lv_has ls 2 [(0, .ref m0), (1, .int p0)] := hl
  generalize hQ : MQ below _ _ s _ _ _ = Q
  obtain ⟨H, hH⟩ : ∃ z, z = s.heap := ⟨_, rfl⟩
  have hP : va_P D vwCl [(m0, .inr (7, [.int (nI n), .ref g1, .ref g2, .ref g3, .int mr, .ref g4, .int my, .ref g5, .int mo, .ref g6, .int ml, .ref g7, .ref g8, .ref g9, .ref g10, .ref g11, .ref g12]))] H := by rw [hH]; exact hP
  have hS : va_S aN s.heap H [] := by rw [hH]; exact hS
  refine m_heap hH ?_
  clear hH
  refine lv_iload_n hx hb dX7_isPart_0 rfl (lv_at hl 1 rfl) ?_
  refine lv_i2l hx hb dX7_isPart_1 rfl ?_
  refine lv_lconst (v := lN 0) hx hb dX7_isPart_2 (by decide) ?_
  refine lv_aload_n hx hb dX7_isPart_3 rfl (lv_at hl 0 rfl) ?_
  refine va_get (D := D) (ci := 7) (v := .int (nI n)) (C := RX7) (T := TX7) (N := 17) hx hb hts hiX7 hown hK hP 0 rfl rfl 0 (by decide) hf7 (fun _ h9 => h9) rfl dX7_isPart_4 ?_
  refine lv_iconst (v := nI 1) hx hb dX7_isPart_7 (by decide) ?_
  refine lv_isub hx hb dX7_isPart_8 ?_
  refine cn_i (y := nI (n - 1)) (pk_sub (a := n) (b := 1) (by omega)) ?_
  refine lv_i2l hx hb dX7_isPart_9 rfl ?_
  refine cn_l (y := lN (n - 1)) (nI_l (by omega)) ?_
  refine pu_i (va_runS (As := [.long p0.toInt64, .long (lN 0), .long (lN (n - 1))]) (rest := []) ⟨hx, hb, hml, hown, hts⟩ (c_X7_in l D cI cJ cZ p0.toInt64 (lN 0) (lN (n - 1))) (va_cwS 3 hts gX7_isPart_X7_in rfl rfl rfl (by decide +kernel) ⟨Nat.le_of_ble_eq_true rfl, Nat.le_of_ble_eq_true rfl⟩) ⟨pc_blind, fun U hU hW => ⟨rfl, by rw [hU]; exact hP.sub (ws' := []) [] rfl, hKN.warm hW⟩⟩ rfl rfl hl.1 rfl (lv_room (Nat.le_of_ble_eq_true rfl)) dX7_isPart_10 ⟨Nat.le_of_ble_eq_true rfl, Nat.le_of_ble_eq_true rfl⟩) hS hP (fun r1 H locs w1r hP hS => ?_)
  have w1 : B01 r1 ((lN 0).toInt ≤ p0.toInt64.toInt ∧ p0.toInt64.toInt ≤ (lN (n - 1)).toInt) := w1r
  clear w1r
  rw [lN_toInt (n := 0) (by omega), j2 p0, lN_toInt (n := (n - 1)) (by omega)] at w1
  rcases w1 with ⟨rfl, w1⟩ | ⟨rfl, w1⟩
  · skip
    rw [← hQ]
    exact W.zret (v := nI 1) hx hb hr (by first | decide | (rw [nar_b01])) (fun tS htS hWS => ⟨⟨(nI 1), (), rfl, Or.inl ⟨rfl, by omega⟩, trivial⟩, hS.F htS⟩) hS.2.2 dX7_isPart_13
  · skip
    rw [← hQ]
    exact W.zret (v := nI 0) hx hb hr (by first | decide | (rw [nar_b01])) (fun tS htS hWS => ⟨⟨(nI 0), (), rfl, Or.inr ⟨rfl, by omega⟩, trivial⟩, hS.F htS⟩) hS.2.2 dX7_isPart_13
def rm_c_X7_isRule : Room := { frames := 1, cells := 0, slots := 0, locals := 25 }
set_option maxHeartbeats 400000 in
set_option maxRecDepth 100000 in
theorem c_X7_isRule (l : Launch) (D : va_G) (cI cJ cZ : ClassId) (m0 : Nat) (g1 : Nat) (g2 : Nat) (g3 : Nat) (g4 : Nat) (g5 : Nat) (g6 : Nat) (g7 : Nat) (g8 : Nat) (g9 : Nat) (g10 : Nat) (g11 : Nat) (g12 : Nat) (c0 : Nat) (mp : Int32) (my : Int32) (mo : Int32) (ml : Int32) (p0 : Int32) (hc : c0 ≤ 40) : Met l yX7_isRule wsX7_isRule rm_c_X7_isRule (pc_ D cI cJ cZ [.ref m0, .int p0] [(m0, .inr (7, [.int mp, .ref g1, .ref g2, .ref g3, .int (nI c0), .ref g4, .int my, .ref g5, .int mo, .ref g6, .int ml, .ref g7, .ref g8, .ref g9, .ref g10, .ref g11, .ref g12]))]) (va_Qi (fun (r : Int32) (_ : Unit) => B01 r (0 ≤ p0.toInt ∧ p0.toInt < c0)) (fun _ _ => True) aN) 0 0 aN := by
  refine Met.ofW (cc := cX7_isRule) (maxL := 2) (ret := (some .boolean)) (by decide) rfl ?_
  intro p e s m args below meth c s₁ B hml hv
  obtain ⟨rfl, hP, hKN⟩ := hv
  have hK := hKN.1
  have hx := B.exec
  have hb := B.bytes
  have hr := B.returns
  have hts := atoms_spec (ws := wsX7_isRule) B.pre
  have hown : s.vm.findClass RX7 = some m.cls := findClass_of_methodNamed B.named
  have hlocks := B.notSynchronized
  have hiX7 : ∀ w ∈ wsX70, w ∈ wsX7_isRule := by decide +kernel
  have hf59 := hts (.fieldLink RX7 59 "LookBenchModel" "rules" "I") (by decide +kernel)
  have hS : va_S aN s.heap s.heap [] := va_S.rf
  have hl := lv_entry ([.ref m0, .int p0]) (n := 2) (Nat.le_of_ble_eq_true rfl)
  rw [lg_entry_eq]
  generalize (lg_sl ([.ref m0, .int p0]) ++ List.replicate (2 - (lg_sl ([.ref m0, .int p0])).length) Slot.unset).toArray = ls at hl ⊢
  have hl : lv_has ls 2 [(0, .ref m0), (1, .int p0)] := hl
  generalize hQ : MQ below _ _ s _ _ _ = Q
  obtain ⟨H, hH⟩ : ∃ z, z = s.heap := ⟨_, rfl⟩
  have hP : va_P D vwCl [(m0, .inr (7, [.int mp, .ref g1, .ref g2, .ref g3, .int (nI c0), .ref g4, .int my, .ref g5, .int mo, .ref g6, .int ml, .ref g7, .ref g8, .ref g9, .ref g10, .ref g11, .ref g12]))] H := by rw [hH]; exact hP
  have hS : va_S aN s.heap H [] := by rw [hH]; exact hS
  refine m_heap hH ?_
  clear hH
  refine lv_iload_n hx hb dX7_isRule_0 rfl (lv_at hl 1 rfl) ?_
  refine lv_i2l hx hb dX7_isRule_1 rfl ?_
  refine lv_lconst (v := lN 0) hx hb dX7_isRule_2 (by decide) ?_
  refine lv_aload_n hx hb dX7_isRule_3 rfl (lv_at hl 0 rfl) ?_
  refine va_get (D := D) (ci := 7) (v := .int (nI c0)) (C := RX7) (T := TX7) (N := 17) hx hb hts hiX7 hown hK hP 0 rfl rfl 4 (by decide) hf59 (fun _ h9 => h9) rfl dX7_isRule_4 ?_
  refine lv_iconst (v := nI 1) hx hb dX7_isRule_7 (by decide) ?_
  refine lv_isub hx hb dX7_isRule_8 ?_
  refine cn_i (y := nI c0 - nI 1) (rfl) ?_
  refine lv_i2l hx hb dX7_isRule_9 rfl ?_
  refine pu_i (va_runS (As := [.long p0.toInt64, .long (lN 0), .long ((nI c0 - nI 1).toInt64)]) (rest := []) ⟨hx, hb, hml, hown, hts⟩ (c_X7_in l D cI cJ cZ p0.toInt64 (lN 0) ((nI c0 - nI 1).toInt64)) (va_cwS 3 hts gX7_isRule_X7_in rfl rfl rfl (by decide +kernel) ⟨Nat.le_of_ble_eq_true rfl, Nat.le_of_ble_eq_true rfl⟩) ⟨pc_blind, fun U hU hW => ⟨rfl, by rw [hU]; exact hP.sub (ws' := []) [] rfl, hKN.warm hW⟩⟩ rfl rfl hl.1 rfl (lv_room (Nat.le_of_ble_eq_true rfl)) dX7_isRule_10 ⟨Nat.le_of_ble_eq_true rfl, Nat.le_of_ble_eq_true rfl⟩) hS hP (fun r1 H locs w1r hP hS => ?_)
  have w1 : B01 r1 ((lN 0).toInt ≤ p0.toInt64.toInt ∧ p0.toInt64.toInt ≤ ((nI c0 - nI 1).toInt64).toInt) := w1r
  clear w1r
  rw [lN_toInt (n := 0) (by omega), j2 p0, j2 (nI c0 - nI 1), pk_sub_toInt (a := c0) (b := 1) (by omega) (by omega)] at w1
  rcases w1 with ⟨rfl, w1⟩ | ⟨rfl, w1⟩
  · skip
    rw [← hQ]
    exact W.zret (v := nI 1) hx hb hr (by first | decide | (rw [nar_b01])) (fun tS htS hWS => ⟨⟨(nI 1), (), rfl, Or.inl ⟨rfl, by omega⟩, trivial⟩, hS.F htS⟩) hS.2.2 dX7_isRule_13
  · skip
    rw [← hQ]
    exact W.zret (v := nI 0) hx hb hr (by first | decide | (rw [nar_b01])) (fun tS htS hWS => ⟨⟨(nI 0), (), rfl, Or.inr ⟨rfl, by omega⟩, trivial⟩, hS.F htS⟩) hS.2.2 dX7_isRule_13
def rm_c_X7_settings : Room := { frames := 0, cells := 0, slots := 0, locals := 0 }
set_option maxHeartbeats 400000 in
set_option maxRecDepth 100000 in
theorem c_X7_settings (l : Launch) (D : va_G) (cI cJ cZ : ClassId) (m0 : Nat) (g1 : Nat) (g2 : Nat) (g3 : Nat) (g4 : Nat) (g5 : Nat) (g6 : Nat) (g7 : Nat) (g8 : Nat) (g9 : Nat) (g10 : Nat) (g11 : Nat) (g12 : Nat) (n : Nat) (mr : Int32) (my : Int32) (mo : Int32) (ml : Int32) (hn : n ≤ 9) : Met l yX7_settings wsX7_settings rm_c_X7_settings (pc_ D cI cJ cZ [.ref m0] [(m0, .inr (7, [.int (nI n), .ref g1, .ref g2, .ref g3, .int mr, .ref g4, .int my, .ref g5, .int mo, .ref g6, .int ml, .ref g7, .ref g8, .ref g9, .ref g10, .ref g11, .ref g12]))]) (va_Qi (fun (r : Int32) (_ : Unit) => r = nI (2 ^ n)) (fun _ _ => True) aN) 0 0 aN := by
  refine Met.ofW (cc := cX7_settings) (maxL := 1) (ret := (some .int)) (by decide) rfl ?_
  intro p e s m args below meth c s₁ B hml hv
  obtain ⟨rfl, hP, hKN⟩ := hv
  have hK := hKN.1
  have hx := B.exec
  have hb := B.bytes
  have hr := B.returns
  have hts := atoms_spec (ws := wsX7_settings) B.pre
  have hown : s.vm.findClass RX7 = some m.cls := findClass_of_methodNamed B.named
  have hlocks := B.notSynchronized
  have hiX7 : ∀ w ∈ wsX70, w ∈ wsX7_settings := by decide +kernel
  have hf7 := hts (.fieldLink RX7 7 "LookBenchModel" "parts" "I") (by decide +kernel)
  have hS : va_S aN s.heap s.heap [] := va_S.rf
  have hl := lv_entry ([.ref m0]) (n := 1) (Nat.le_of_ble_eq_true rfl)
  rw [lg_entry_eq]
  generalize (lg_sl ([.ref m0]) ++ List.replicate (1 - (lg_sl ([.ref m0])).length) Slot.unset).toArray = ls at hl ⊢
  have hl : lv_has ls 1 [(0, .ref m0)] := hl
  generalize hQ : MQ below _ _ s _ _ _ = Q
  obtain ⟨H, hH⟩ : ∃ z, z = s.heap := ⟨_, rfl⟩
  have hP : va_P D vwCl [(m0, .inr (7, [.int (nI n), .ref g1, .ref g2, .ref g3, .int mr, .ref g4, .int my, .ref g5, .int mo, .ref g6, .int ml, .ref g7, .ref g8, .ref g9, .ref g10, .ref g11, .ref g12]))] H := by rw [hH]; exact hP
  have hS : va_S aN s.heap H [] := by rw [hH]; exact hS
  refine m_heap hH ?_
  clear hH
  refine lv_iconst (v := nI 1) hx hb dX7_settings_0 (by decide) ?_
  refine lv_aload_n hx hb dX7_settings_1 rfl (lv_at hl 0 rfl) ?_
  refine va_get (D := D) (ci := 7) (v := .int (nI n)) (C := RX7) (T := TX7) (N := 17) hx hb hts hiX7 hown hK hP 0 rfl rfl 0 (by decide) hf7 (fun _ h9 => h9) rfl dX7_settings_2 ?_
  refine lv_ishl hx hb dX7_settings_5 ?_
  refine cn_i (y := nI (2 ^ n)) (m_shl1 (by omega)) ?_
  rw [← hQ]
  exact W.iret (v := nI (2 ^ n)) hx hb hr (fun tS htS hWS => ⟨⟨(nI (2 ^ n)), (), rfl, rfl, trivial⟩, hS.F htS⟩) hS.2.2 dX7_settings_6
def rm_c_X7_added : Room := { frames := 0, cells := 0, slots := 0, locals := 0 }
set_option maxHeartbeats 400000 in
set_option maxRecDepth 100000 in
theorem c_X7_added (l : Launch) (D : va_G) (cI cJ cZ : ClassId) (m0 : Nat) (g1 : Nat) (g2 : Nat) (g3 : Nat) (g4 : Nat) (g5 : Nat) (g6 : Nat) (g7 : Nat) (g8 : Nat) (g9 : Nat) (g10 : Nat) (g11 : Nat) (g12 : Nat) (c0 : Nat) (mp : Int32) (my : Int32) (mo : Int32) (ml : Int32) (hc : c0 ≤ 40) : Met l yX7_added wsX7_added rm_c_X7_added (pm_ D cI cJ cZ [.ref m0] [(m0, .inr (7, [.int mp, .ref g1, .ref g2, .ref g3, .int (nI c0), .ref g4, .int my, .ref g5, .int mo, .ref g6, .int ml, .ref g7, .ref g8, .ref g9, .ref g10, .ref g11, .ref g12]))]) (va_Qi (fun (r : Int32) (u : Unit) => r = nI c0) (fun (u : Unit) tS => va_P D vwCl [(m0, .inr (7, [.int mp, .ref g1, .ref g2, .ref g3, .int (nI (c0 + 1)), .ref g4, .int my, .ref g5, .int mo, .ref g6, .int ml, .ref g7, .ref g8, .ref g9, .ref g10, .ref g11, .ref g12]))] tS.heap) (aA [m0])) 0 0 (aA [m0]) := by
  refine Met.ofW (cc := cX7_added) (maxL := 1) (ret := (some .int)) (by decide) rfl ?_
  intro p e s m args below meth c s₁ B hml hv
  obtain ⟨rfl, hP, hKN, hD0⟩ := hv
  have hK := hKN.1
  have hx := B.exec
  have hb := B.bytes
  have hr := B.returns
  have hts := atoms_spec (ws := wsX7_added) B.pre
  have hown : s.vm.findClass RX7 = some m.cls := findClass_of_methodNamed B.named
  have hlocks := B.notSynchronized
  have hiX7 : ∀ w ∈ wsX70, w ∈ wsX7_added := by decide +kernel
  have hf59 := hts (.fieldLink RX7 59 "LookBenchModel" "rules" "I") (by decide +kernel)
  obtain ⟨as, has⟩ : ∃ z : List Nat, z = [m0] := ⟨_, rfl⟩
  have hD := hD0.addr (as := as) (by rw [has]; rfl)
  have hS : va_S (aA as) s.heap s.heap [] := va_S.rf
  have hl := lv_entry ([.ref m0]) (n := 1) (Nat.le_of_ble_eq_true rfl)
  rw [lg_entry_eq]
  generalize (lg_sl ([.ref m0]) ++ List.replicate (1 - (lg_sl ([.ref m0])).length) Slot.unset).toArray = ls at hl ⊢
  have hl : lv_has ls 1 [(0, .ref m0)] := hl
  generalize hQ : MQ below _ _ s _ _ _ = Q
  obtain ⟨H, hH⟩ : ∃ z, z = s.heap := ⟨_, rfl⟩
  have hP : va_P D vwCl [(m0, .inr (7, [.int mp, .ref g1, .ref g2, .ref g3, .int (nI c0), .ref g4, .int my, .ref g5, .int mo, .ref g6, .int ml, .ref g7, .ref g8, .ref g9, .ref g10, .ref g11, .ref g12]))] H := by rw [hH]; exact hP
  have hS : va_S (aA as) s.heap H [] := by rw [hH]; exact hS
  refine m_heap hH ?_
  clear hH
  refine lv_aload_n hx hb dX7_added_0 rfl (lv_at hl 0 rfl) ?_
  refine lv_dup hx hb dX7_added_1 rfl ?_
  refine va_get (D := D) (ci := 7) (v := .int (nI c0)) (C := RX7) (T := TX7) (N := 17) hx hb hts hiX7 hown hK hP 0 rfl rfl 4 (by decide) hf59 (fun _ h9 => h9) rfl dX7_added_2 ?_
  refine lv_iconst (v := nI 1) hx hb dX7_added_5 (by decide) ?_
  refine lv_iadd hx hb dX7_added_6 ?_
  refine cn_i (y := nI (c0 + 1)) (nI_add c0 1) ?_
  refine va_put (D := D) (ci := 7) (v := .int (nI (c0 + 1))) (ty := tyX7 4) (C := RX7) (T := TX7) (N := 17) hx hb hts hiX7 tyX7 tyX7_ok nmX7 hown hK hP hD hS 0 rfl rfl 4 (by decide) hf59 (fun _ h9 => h9) rfl (by decide +kernel) rfl rfl (Nat.le_of_ble_eq_true rfl) dX7_added_7 (fun H locs hP hD hS => ?_)
  have hP : va_P D vwCl [(m0, .inr (7, [.int mp, .ref g1, .ref g2, .ref g3, .int (nI (c0 + 1)), .ref g4, .int my, .ref g5, .int mo, .ref g6, .int ml, .ref g7, .ref g8, .ref g9, .ref g10, .ref g11, .ref g12]))] H := hP
  have hD : va_D (aA as) [(m0, .inr (7, [.int mp, .ref g1, .ref g2, .ref g3, .int (nI (c0 + 1)), .ref g4, .int my, .ref g5, .int mo, .ref g6, .int ml, .ref g7, .ref g8, .ref g9, .ref g10, .ref g11, .ref g12]))] := hD
  refine lv_aload_n hx hb dX7_added_10 rfl (lv_at hl 0 rfl) ?_
  refine va_get (D := D) (ci := 7) (v := .int (nI (c0 + 1))) (C := RX7) (T := TX7) (N := 17) hx hb hts hiX7 hown hK hP 0 rfl rfl 4 (by decide) hf59 (fun _ h9 => h9) rfl dX7_added_11 ?_
  refine lv_iconst (v := nI 1) hx hb dX7_added_14 (by decide) ?_
  refine lv_isub hx hb dX7_added_15 ?_
  refine cn_i (y := nI c0) ((pk_sub (a := c0 + 1) (b := 1) (by omega)).trans (congrArg nI (by omega))) ?_
  rw [← hQ]
  exact W.iret (v := nI c0) hx hb hr (fun tS htS hWS => ⟨⟨(nI c0), (), rfl, rfl, m_at htS hP⟩, by rw [← has]; exact hS.F htS⟩) (by rw [← has]; exact hS.2.2) dX7_added_16
def rm_c_X7_parts : Room := { frames := 1, cells := 0, slots := 0, locals := 25 }
set_option maxHeartbeats 400000 in
set_option maxRecDepth 100000 in
theorem c_X7_parts (l : Launch) (D : va_G) (cI cJ cZ : ClassId) (m0 : Nat) (g1 : Nat) (g2 : Nat) (g3 : Nat) (g4 : Nat) (g5 : Nat) (g6 : Nat) (g7 : Nat) (g8 : Nat) (g9 : Nat) (g10 : Nat) (g11 : Nat) (g12 : Nat) (mp : Int32) (mr : Int32) (my : Int32) (mo : Int32) (ml : Int32) (n0 : Int32) (fg : Nat → Int32) (fb : Nat → Int32) (fp : Nat → Int32) (fn : Nat → Int32)  : Met l yX7_parts wsX7_parts rm_c_X7_parts (pm_ D cI cJ cZ [.ref m0, .int n0] [(m0, .inr (7, [.int mp, .ref g1, .ref g2, .ref g3, .int mr, .ref g4, .int my, .ref g5, .int mo, .ref g6, .int ml, .ref g7, .ref g8, .ref g9, .ref g10, .ref g11, .ref g12])), (g1, .inl (cI, 9, .inl fg)), (g2, .inl (cI, 9, .inl fb)), (g3, .inl (cI, 9, .inl fp)), (g5, .inl (cI, 9, .inl fn))]) (va_Qi (fun (r : Int32) (u : Unit) => B01 r (1 ≤ n0.toInt ∧ n0.toInt ≤ 9)) (fun (u : Unit) tS => True) (aA [m0, g1, g2, g3, g5])) 0 0 (aA [m0, g1, g2, g3, g5]) := by
  refine Met.ofW (cc := cX7_parts) (maxL := 3) (ret := (some .boolean)) (by decide) rfl ?_
  intro p e s m args below meth c s₁ B hml hv
  obtain ⟨rfl, hP, hKN, hD0⟩ := hv
  have hK := hKN.1
  have hx := B.exec
  have hb := B.bytes
  have hr := B.returns
  have hts := atoms_spec (ws := wsX7_parts) B.pre
  have hown : s.vm.findClass RX7 = some m.cls := findClass_of_methodNamed B.named
  have hlocks := B.notSynchronized
  have hiX7 : ∀ w ∈ wsX70, w ∈ wsX7_parts := by decide +kernel
  have hf7 := hts (.fieldLink RX7 7 "LookBenchModel" "parts" "I") (by decide +kernel)
  have hf13 := hts (.fieldLink RX7 13 "LookBenchModel" "good" "[I") (by decide +kernel)
  have hf17 := hts (.fieldLink RX7 17 "LookBenchModel" "bad" "[I") (by decide +kernel)
  have hf20 := hts (.fieldLink RX7 20 "LookBenchModel" "price" "[I") (by decide +kernel)
  have hf27 := hts (.fieldLink RX7 27 "LookBenchModel" "system" "I") (by decide +kernel)
  have hf30 := hts (.fieldLink RX7 30 "LookBenchModel" "seen" "[I") (by decide +kernel)
  have hf59 := hts (.fieldLink RX7 59 "LookBenchModel" "rules" "I") (by decide +kernel)
  have hf64 := hts (.fieldLink RX7 64 "LookBenchModel" "ordered" "I") (by decide +kernel)
  have hf67 := hts (.fieldLink RX7 67 "LookBenchModel" "looks" "I") (by decide +kernel)
  obtain ⟨as, has⟩ : ∃ z : List Nat, z = [m0, g1, g2, g3, g5] := ⟨_, rfl⟩
  have hD := hD0.addr (as := as) (by rw [has]; rfl)
  have hS : va_S (aA as) s.heap s.heap [] := va_S.rf
  have hl := lv_entry ([.ref m0, .int n0]) (n := 3) (Nat.le_of_ble_eq_true rfl)
  rw [lg_entry_eq]
  generalize (lg_sl ([.ref m0, .int n0]) ++ List.replicate (3 - (lg_sl ([.ref m0, .int n0])).length) Slot.unset).toArray = ls at hl ⊢
  have hl : lv_has ls 3 [(0, .ref m0), (1, .int n0)] := hl
  generalize hQ : MQ below _ _ s _ _ _ = Q
  obtain ⟨H, hH⟩ : ∃ z, z = s.heap := ⟨_, rfl⟩
  have hP : va_P D vwCl [(m0, .inr (7, [.int mp, .ref g1, .ref g2, .ref g3, .int mr, .ref g4, .int my, .ref g5, .int mo, .ref g6, .int ml, .ref g7, .ref g8, .ref g9, .ref g10, .ref g11, .ref g12])), (g1, .inl (cI, 9, .inl fg)), (g2, .inl (cI, 9, .inl fb)), (g3, .inl (cI, 9, .inl fp)), (g5, .inl (cI, 9, .inl fn))] H := by rw [hH]; exact hP
  have hS : va_S (aA as) s.heap H [] := by rw [hH]; exact hS
  refine m_heap hH ?_
  clear hH
  refine lv_iload_n hx hb dX7_parts_0 rfl (lv_at hl 1 rfl) ?_
  refine lv_i2l hx hb dX7_parts_1 rfl ?_
  refine lv_lconst (v := lN 1) hx hb dX7_parts_2 (by decide) ?_
  refine lv_ldc2 (v := lN 9) hx hb hown (hts (.constantLong RX7 62 (lN 9)) (by decide +kernel)) dX7_parts_3 ?_
  refine pu_i (va_runS (As := [.long n0.toInt64, .long (lN 1), .long (lN 9)]) (rest := []) ⟨hx, hb, hml, hown, hts⟩ (c_X7_in l D cI cJ cZ n0.toInt64 (lN 1) (lN 9)) (va_cwS 3 hts gX7_parts_X7_in rfl rfl rfl (by decide +kernel) ⟨Nat.le_of_ble_eq_true rfl, Nat.le_of_ble_eq_true rfl⟩) ⟨pc_blind, fun U hU hW => ⟨rfl, by rw [hU]; exact hP.sub (ws' := []) [] rfl, hKN.warm hW⟩⟩ rfl rfl hl.1 rfl (lv_room (Nat.le_of_ble_eq_true rfl)) dX7_parts_6 ⟨Nat.le_of_ble_eq_true rfl, Nat.le_of_ble_eq_true rfl⟩) hS hP (fun r1 H locs w1r hP hS => ?_)
  have w1 : B01 r1 ((lN 1).toInt ≤ n0.toInt64.toInt ∧ n0.toInt64.toInt ≤ (lN 9).toInt) := w1r
  clear w1r
  rw [lN_toInt (n := 1) (by omega), j2 n0, lN_toInt (n := 9) (by omega)] at w1
  rcases w1 with ⟨rfl, w1⟩ | ⟨rfl, w1⟩
  · skip
    refine lv_if_ne (tgt := 14) hx hb dX7_parts_9 (by decide) (fun c2 => ?_) (fun c2 => ?_)
    · skip
      refine lv_aload_n hx hb dX7_parts_14 rfl (lv_at hl 0 rfl) ?_
      refine lv_iload_n hx hb dX7_parts_15 rfl (lv_at hl 1 rfl) ?_
      refine va_put (D := D) (ci := 7) (v := .int n0) (ty := tyX7 0) (C := RX7) (T := TX7) (N := 17) hx hb hts hiX7 tyX7 tyX7_ok nmX7 hown hK hP hD hS 0 rfl rfl 0 (by decide) hf7 (fun _ h9 => h9) rfl (by decide +kernel) rfl rfl (Nat.le_of_ble_eq_true rfl) dX7_parts_16 (fun H locs hP hD hS => ?_)
      have hP : va_P D vwCl [(m0, .inr (7, [.int n0, .ref g1, .ref g2, .ref g3, .int mr, .ref g4, .int my, .ref g5, .int mo, .ref g6, .int ml, .ref g7, .ref g8, .ref g9, .ref g10, .ref g11, .ref g12])), (g1, .inl (cI, 9, .inl fg)), (g2, .inl (cI, 9, .inl fb)), (g3, .inl (cI, 9, .inl fp)), (g5, .inl (cI, 9, .inl fn))] H := hP
      have hD : va_D (aA as) [(m0, .inr (7, [.int n0, .ref g1, .ref g2, .ref g3, .int mr, .ref g4, .int my, .ref g5, .int mo, .ref g6, .int ml, .ref g7, .ref g8, .ref g9, .ref g10, .ref g11, .ref g12])), (g1, .inl (cI, 9, .inl fg)), (g2, .inl (cI, 9, .inl fb)), (g3, .inl (cI, 9, .inl fp)), (g5, .inl (cI, 9, .inl fn))] := hD
      refine lv_iconst (v := nI 0) hx hb dX7_parts_19 (by decide) ?_
      refine lv_istore_n (lv' := [(2, .int (nI 0)), (0, .ref m0), (1, .int n0)]) hx hb dX7_parts_20 rfl hl (by decide) rfl (fun ls hl => ?_)
      have loop3 : ∀ (fu : Nat) (k : Nat) (u1 : Nat → Int32) (u2 : Nat → Int32) (u3 : Nat → Int32) (u4 : Nat → Int32) (H : Heap) (locs : List Loc) (ls : Array Slot), (k ≤ 9 ∧ 9 < k + fu) → va_P D vwCl [(m0, .inr (7, [.int n0, .ref g1, .ref g2, .ref g3, .int mr, .ref g4, .int my, .ref g5, .int mo, .ref g6, .int ml, .ref g7, .ref g8, .ref g9, .ref g10, .ref g11, .ref g12])), (g1, .inl (cI, 9, .inl u1)), (g2, .inl (cI, 9, .inl u2)), (g3, .inl (cI, 9, .inl u3)), (g5, .inl (cI, 9, .inl u4))] H → va_D (aA as) [(m0, .inr (7, [.int n0, .ref g1, .ref g2, .ref g3, .int mr, .ref g4, .int my, .ref g5, .int mo, .ref g6, .int ml, .ref g7, .ref g8, .ref g9, .ref g10, .ref g11, .ref g12])), (g1, .inl (cI, 9, .inl u1)), (g2, .inl (cI, 9, .inl u2)), (g3, .inl (cI, 9, .inl u3)), (g5, .inl (cI, 9, .inl u4))] → va_S (aA as) s.heap H locs → lv_has ls 3 [(2, .int (nI k)), (0, .ref m0), (1, .int n0)] → W p l e (headSpec wsX7_parts rm_c_X7_parts).room s m ([.ref m0, .int n0] : List Value).toArray below meth c H locs 0 0 Q (F0 m 21 ls []) := by
        intro fu
        induction fu with
        | zero => intro k u1 u2 u3 u4 H locs ls hk; exact absurd hk (by omega)
        | succ fu ih3 =>
          intro k u1 u2 u3 u4 H locs ls hk hP hD hS hl
          refine lv_iload_n hx hb dX7_parts_21 rfl (lv_at hl 0 rfl) ?_
          refine lv_bipush (v := nI 9) hx hb dX7_parts_22 (by decide) ?_
          refine lv_icmp_ge (tgt := 61) hx hb dX7_parts_24 (by decide) (fun c4 => ?_) (fun c4 => ?_)
          · skip
            have d4 := c4
            rw [nI_leI (by omega) (by omega)] at d4
            refine lv_aload_n hx hb dX7_parts_61 rfl (lv_at hl 1 rfl) ?_
            refine lv_iconst (v := nI 0) hx hb dX7_parts_62 (by decide) ?_
            refine va_put (D := D) (ci := 7) (v := .int (nI 0)) (ty := tyX7 4) (C := RX7) (T := TX7) (N := 17) hx hb hts hiX7 tyX7 tyX7_ok nmX7 hown hK hP hD hS 0 rfl rfl 4 (by decide) hf59 (fun _ h9 => h9) rfl (by decide +kernel) rfl rfl (Nat.le_of_ble_eq_true rfl) dX7_parts_63 (fun H locs hP hD hS => ?_)
            have hP : va_P D vwCl [(m0, .inr (7, [.int n0, .ref g1, .ref g2, .ref g3, .int (nI 0), .ref g4, .int my, .ref g5, .int mo, .ref g6, .int ml, .ref g7, .ref g8, .ref g9, .ref g10, .ref g11, .ref g12])), (g1, .inl (cI, 9, .inl u1)), (g2, .inl (cI, 9, .inl u2)), (g3, .inl (cI, 9, .inl u3)), (g5, .inl (cI, 9, .inl u4))] H := hP
            have hD : va_D (aA as) [(m0, .inr (7, [.int n0, .ref g1, .ref g2, .ref g3, .int (nI 0), .ref g4, .int my, .ref g5, .int mo, .ref g6, .int ml, .ref g7, .ref g8, .ref g9, .ref g10, .ref g11, .ref g12])), (g1, .inl (cI, 9, .inl u1)), (g2, .inl (cI, 9, .inl u2)), (g3, .inl (cI, 9, .inl u3)), (g5, .inl (cI, 9, .inl u4))] := hD
            refine lv_aload_n hx hb dX7_parts_66 rfl (lv_at hl 1 rfl) ?_
            refine lv_iconst (v := (-1 : Int32)) hx hb dX7_parts_67 (by decide) ?_
            refine va_put (D := D) (ci := 7) (v := .int (-1 : Int32)) (ty := tyX7 6) (C := RX7) (T := TX7) (N := 17) hx hb hts hiX7 tyX7 tyX7_ok nmX7 hown hK hP hD hS 0 rfl rfl 6 (by decide) hf27 (fun _ h9 => h9) rfl (by decide +kernel) rfl rfl (Nat.le_of_ble_eq_true rfl) dX7_parts_68 (fun H locs hP hD hS => ?_)
            have hP : va_P D vwCl [(m0, .inr (7, [.int n0, .ref g1, .ref g2, .ref g3, .int (nI 0), .ref g4, .int (-1 : Int32), .ref g5, .int mo, .ref g6, .int ml, .ref g7, .ref g8, .ref g9, .ref g10, .ref g11, .ref g12])), (g1, .inl (cI, 9, .inl u1)), (g2, .inl (cI, 9, .inl u2)), (g3, .inl (cI, 9, .inl u3)), (g5, .inl (cI, 9, .inl u4))] H := hP
            have hD : va_D (aA as) [(m0, .inr (7, [.int n0, .ref g1, .ref g2, .ref g3, .int (nI 0), .ref g4, .int (-1 : Int32), .ref g5, .int mo, .ref g6, .int ml, .ref g7, .ref g8, .ref g9, .ref g10, .ref g11, .ref g12])), (g1, .inl (cI, 9, .inl u1)), (g2, .inl (cI, 9, .inl u2)), (g3, .inl (cI, 9, .inl u3)), (g5, .inl (cI, 9, .inl u4))] := hD
            refine lv_aload_n hx hb dX7_parts_71 rfl (lv_at hl 1 rfl) ?_
            refine lv_iconst (v := nI 0) hx hb dX7_parts_72 (by decide) ?_
            refine va_put (D := D) (ci := 7) (v := .int (nI 0)) (ty := tyX7 8) (C := RX7) (T := TX7) (N := 17) hx hb hts hiX7 tyX7 tyX7_ok nmX7 hown hK hP hD hS 0 rfl rfl 8 (by decide) hf64 (fun _ h9 => h9) rfl (by decide +kernel) rfl rfl (Nat.le_of_ble_eq_true rfl) dX7_parts_73 (fun H locs hP hD hS => ?_)
            have hP : va_P D vwCl [(m0, .inr (7, [.int n0, .ref g1, .ref g2, .ref g3, .int (nI 0), .ref g4, .int (-1 : Int32), .ref g5, .int (nI 0), .ref g6, .int ml, .ref g7, .ref g8, .ref g9, .ref g10, .ref g11, .ref g12])), (g1, .inl (cI, 9, .inl u1)), (g2, .inl (cI, 9, .inl u2)), (g3, .inl (cI, 9, .inl u3)), (g5, .inl (cI, 9, .inl u4))] H := hP
            have hD : va_D (aA as) [(m0, .inr (7, [.int n0, .ref g1, .ref g2, .ref g3, .int (nI 0), .ref g4, .int (-1 : Int32), .ref g5, .int (nI 0), .ref g6, .int ml, .ref g7, .ref g8, .ref g9, .ref g10, .ref g11, .ref g12])), (g1, .inl (cI, 9, .inl u1)), (g2, .inl (cI, 9, .inl u2)), (g3, .inl (cI, 9, .inl u3)), (g5, .inl (cI, 9, .inl u4))] := hD
            refine lv_aload_n hx hb dX7_parts_76 rfl (lv_at hl 1 rfl) ?_
            refine lv_iconst (v := nI 0) hx hb dX7_parts_77 (by decide) ?_
            refine va_put (D := D) (ci := 7) (v := .int (nI 0)) (ty := tyX7 10) (C := RX7) (T := TX7) (N := 17) hx hb hts hiX7 tyX7 tyX7_ok nmX7 hown hK hP hD hS 0 rfl rfl 10 (by decide) hf67 (fun _ h9 => h9) rfl (by decide +kernel) rfl rfl (Nat.le_of_ble_eq_true rfl) dX7_parts_78 (fun H locs hP hD hS => ?_)
            have hP : va_P D vwCl [(m0, .inr (7, [.int n0, .ref g1, .ref g2, .ref g3, .int (nI 0), .ref g4, .int (-1 : Int32), .ref g5, .int (nI 0), .ref g6, .int (nI 0), .ref g7, .ref g8, .ref g9, .ref g10, .ref g11, .ref g12])), (g1, .inl (cI, 9, .inl u1)), (g2, .inl (cI, 9, .inl u2)), (g3, .inl (cI, 9, .inl u3)), (g5, .inl (cI, 9, .inl u4))] H := hP
            have hD : va_D (aA as) [(m0, .inr (7, [.int n0, .ref g1, .ref g2, .ref g3, .int (nI 0), .ref g4, .int (-1 : Int32), .ref g5, .int (nI 0), .ref g6, .int (nI 0), .ref g7, .ref g8, .ref g9, .ref g10, .ref g11, .ref g12])), (g1, .inl (cI, 9, .inl u1)), (g2, .inl (cI, 9, .inl u2)), (g3, .inl (cI, 9, .inl u3)), (g5, .inl (cI, 9, .inl u4))] := hD
            refine lv_iconst (v := nI 1) hx hb dX7_parts_81 (by decide) ?_
            rw [← hQ]
            exact W.zret (v := nI 1) hx hb hr (by first | decide | (rw [nar_b01])) (fun tS htS hWS => ⟨⟨(nI 1), (), rfl, Or.inl ⟨rfl, by omega⟩, trivial⟩, by rw [← has]; exact hS.F htS⟩) (by rw [← has]; exact hS.2.2) dX7_parts_82
          · skip
            have d4 := c4
            rw [nI_leI (by omega) (by omega)] at d4
            refine lv_aload_n hx hb dX7_parts_27 rfl (lv_at hl 1 rfl) ?_
            refine va_get (D := D) (ci := 7) (v := .ref g1) (C := RX7) (T := TX7) (N := 17) hx hb hts hiX7 hown hK hP 0 rfl rfl 1 (by decide) hf13 (fun _ h9 => h9) rfl dX7_parts_28 ?_
            refine lv_iload_n hx hb dX7_parts_31 rfl (lv_at hl 0 rfl) ?_
            refine lv_iconst (v := nI 1) hx hb dX7_parts_32 (by decide) ?_
            refine va_iast hx hb hK hP hD hS 1 0 rfl rfl (i := nI k) (vp_in_nI (by omega) (by omega)) dX7_parts_33 (fun H locs hP hD hS => ?_)
            have hP : va_P D vwCl [(m0, .inr (7, [.int n0, .ref g1, .ref g2, .ref g3, .int mr, .ref g4, .int my, .ref g5, .int mo, .ref g6, .int ml, .ref g7, .ref g8, .ref g9, .ref g10, .ref g11, .ref g12])), (g1, .inl (cI, 9, .inl (upd u1 (nI k).toNatClampNeg (nI 1)))), (g2, .inl (cI, 9, .inl u2)), (g3, .inl (cI, 9, .inl u3)), (g5, .inl (cI, 9, .inl u4))] H := hP
            have hD : va_D (aA as) [(m0, .inr (7, [.int n0, .ref g1, .ref g2, .ref g3, .int mr, .ref g4, .int my, .ref g5, .int mo, .ref g6, .int ml, .ref g7, .ref g8, .ref g9, .ref g10, .ref g11, .ref g12])), (g1, .inl (cI, 9, .inl (upd u1 (nI k).toNatClampNeg (nI 1)))), (g2, .inl (cI, 9, .inl u2)), (g3, .inl (cI, 9, .inl u3)), (g5, .inl (cI, 9, .inl u4))] := hD
            rw [nI_clamp (n := k) (by omega)] at hP hD
            refine lv_aload_n hx hb dX7_parts_34 rfl (lv_at hl 1 rfl) ?_
            refine va_get (D := D) (ci := 7) (v := .ref g2) (C := RX7) (T := TX7) (N := 17) hx hb hts hiX7 hown hK hP 0 rfl rfl 2 (by decide) hf17 (fun _ h9 => h9) rfl dX7_parts_35 ?_
            refine lv_iload_n hx hb dX7_parts_38 rfl (lv_at hl 0 rfl) ?_
            refine lv_iconst (v := nI 1) hx hb dX7_parts_39 (by decide) ?_
            refine va_iast hx hb hK hP hD hS 2 0 rfl rfl (i := nI k) (vp_in_nI (by omega) (by omega)) dX7_parts_40 (fun H locs hP hD hS => ?_)
            have hP : va_P D vwCl [(m0, .inr (7, [.int n0, .ref g1, .ref g2, .ref g3, .int mr, .ref g4, .int my, .ref g5, .int mo, .ref g6, .int ml, .ref g7, .ref g8, .ref g9, .ref g10, .ref g11, .ref g12])), (g1, .inl (cI, 9, .inl (upd u1 k (nI 1)))), (g2, .inl (cI, 9, .inl (upd u2 (nI k).toNatClampNeg (nI 1)))), (g3, .inl (cI, 9, .inl u3)), (g5, .inl (cI, 9, .inl u4))] H := hP
            have hD : va_D (aA as) [(m0, .inr (7, [.int n0, .ref g1, .ref g2, .ref g3, .int mr, .ref g4, .int my, .ref g5, .int mo, .ref g6, .int ml, .ref g7, .ref g8, .ref g9, .ref g10, .ref g11, .ref g12])), (g1, .inl (cI, 9, .inl (upd u1 k (nI 1)))), (g2, .inl (cI, 9, .inl (upd u2 (nI k).toNatClampNeg (nI 1)))), (g3, .inl (cI, 9, .inl u3)), (g5, .inl (cI, 9, .inl u4))] := hD
            rw [nI_clamp (n := k) (by omega)] at hP hD
            refine lv_aload_n hx hb dX7_parts_41 rfl (lv_at hl 1 rfl) ?_
            refine va_get (D := D) (ci := 7) (v := .ref g3) (C := RX7) (T := TX7) (N := 17) hx hb hts hiX7 hown hK hP 0 rfl rfl 3 (by decide) hf20 (fun _ h9 => h9) rfl dX7_parts_42 ?_
            refine lv_iload_n hx hb dX7_parts_45 rfl (lv_at hl 0 rfl) ?_
            refine lv_iconst (v := nI 1) hx hb dX7_parts_46 (by decide) ?_
            refine va_iast hx hb hK hP hD hS 3 0 rfl rfl (i := nI k) (vp_in_nI (by omega) (by omega)) dX7_parts_47 (fun H locs hP hD hS => ?_)
            have hP : va_P D vwCl [(m0, .inr (7, [.int n0, .ref g1, .ref g2, .ref g3, .int mr, .ref g4, .int my, .ref g5, .int mo, .ref g6, .int ml, .ref g7, .ref g8, .ref g9, .ref g10, .ref g11, .ref g12])), (g1, .inl (cI, 9, .inl (upd u1 k (nI 1)))), (g2, .inl (cI, 9, .inl (upd u2 k (nI 1)))), (g3, .inl (cI, 9, .inl (upd u3 (nI k).toNatClampNeg (nI 1)))), (g5, .inl (cI, 9, .inl u4))] H := hP
            have hD : va_D (aA as) [(m0, .inr (7, [.int n0, .ref g1, .ref g2, .ref g3, .int mr, .ref g4, .int my, .ref g5, .int mo, .ref g6, .int ml, .ref g7, .ref g8, .ref g9, .ref g10, .ref g11, .ref g12])), (g1, .inl (cI, 9, .inl (upd u1 k (nI 1)))), (g2, .inl (cI, 9, .inl (upd u2 k (nI 1)))), (g3, .inl (cI, 9, .inl (upd u3 (nI k).toNatClampNeg (nI 1)))), (g5, .inl (cI, 9, .inl u4))] := hD
            rw [nI_clamp (n := k) (by omega)] at hP hD
            refine lv_aload_n hx hb dX7_parts_48 rfl (lv_at hl 1 rfl) ?_
            refine va_get (D := D) (ci := 7) (v := .ref g5) (C := RX7) (T := TX7) (N := 17) hx hb hts hiX7 hown hK hP 0 rfl rfl 7 (by decide) hf30 (fun _ h9 => h9) rfl dX7_parts_49 ?_
            refine lv_iload_n hx hb dX7_parts_52 rfl (lv_at hl 0 rfl) ?_
            refine lv_iconst (v := (-1 : Int32)) hx hb dX7_parts_53 (by decide) ?_
            refine va_iast hx hb hK hP hD hS 4 0 rfl rfl (i := nI k) (vp_in_nI (by omega) (by omega)) dX7_parts_54 (fun H locs hP hD hS => ?_)
            have hP : va_P D vwCl [(m0, .inr (7, [.int n0, .ref g1, .ref g2, .ref g3, .int mr, .ref g4, .int my, .ref g5, .int mo, .ref g6, .int ml, .ref g7, .ref g8, .ref g9, .ref g10, .ref g11, .ref g12])), (g1, .inl (cI, 9, .inl (upd u1 k (nI 1)))), (g2, .inl (cI, 9, .inl (upd u2 k (nI 1)))), (g3, .inl (cI, 9, .inl (upd u3 k (nI 1)))), (g5, .inl (cI, 9, .inl (upd u4 (nI k).toNatClampNeg (-1 : Int32))))] H := hP
            have hD : va_D (aA as) [(m0, .inr (7, [.int n0, .ref g1, .ref g2, .ref g3, .int mr, .ref g4, .int my, .ref g5, .int mo, .ref g6, .int ml, .ref g7, .ref g8, .ref g9, .ref g10, .ref g11, .ref g12])), (g1, .inl (cI, 9, .inl (upd u1 k (nI 1)))), (g2, .inl (cI, 9, .inl (upd u2 k (nI 1)))), (g3, .inl (cI, 9, .inl (upd u3 k (nI 1)))), (g5, .inl (cI, 9, .inl (upd u4 (nI k).toNatClampNeg (-1 : Int32))))] := hD
            rw [nI_clamp (n := k) (by omega)] at hP hD
            refine lv_iinc (v := nI (k + 1)) (lv' := [(2, .int (nI (k + 1))), (0, .ref m0), (1, .int n0)]) hx hb dX7_parts_55 hl (k := 0) rfl (nI_1 k) (by decide) rfl (fun ls hl => ?_)
            refine lv_goto (tgt := 21) hx hb dX7_parts_58 (by decide) ?_
            exact ih3 (k + 1) (upd u1 k (nI 1)) (upd u2 k (nI 1)) (upd u3 k (nI 1)) (upd u4 k (-1 : Int32)) _ _ _ (by omega) hP hD hS (lv_sub hl [0, 1, 2] rfl)
      exact loop3 10 0 fg fb fp fn _ _ _ (by omega) hP hD hS (lv_sub hl [0, 1, 2] rfl)
    · exact absurd c2 (by first | decide | exact nz_lt (by omega) | exact fun h => h (nz_ge (by omega)))
  · skip
    refine lv_if_ne (tgt := 14) hx hb dX7_parts_9 (by decide) (fun c5 => ?_) (fun c5 => ?_)
    · exact absurd c5 (by first | decide | exact nz_lt (by omega) | exact fun h => h (nz_ge (by omega)))
    · skip
      refine lv_iconst (v := nI 0) hx hb dX7_parts_12 (by decide) ?_
      rw [← hQ]
      exact W.zret (v := nI 0) hx hb hr (by first | decide | (rw [nar_b01])) (fun tS htS hWS => ⟨⟨(nI 0), (), rfl, Or.inr ⟨rfl, by omega⟩, trivial⟩, by rw [← has]; exact hS.F htS⟩) (by rw [← has]; exact hS.2.2) dX7_parts_13
def rm_c_X7_part : Room := { frames := 2, cells := 0, slots := 0, locals := 46 }
set_option maxHeartbeats 400000 in
set_option maxRecDepth 100000 in
theorem c_X7_part (l : Launch) (D : va_G) (cI cJ cZ : ClassId) (m0 : Nat) (g1 : Nat) (g2 : Nat) (g3 : Nat) (g4 : Nat) (g5 : Nat) (g6 : Nat) (g7 : Nat) (g8 : Nat) (g9 : Nat) (g10 : Nat) (g11 : Nat) (g12 : Nat) (n : Nat) (mr : Int32) (my : Int32) (mo : Int32) (ml : Int32) (p0 : Int32) (g0 : Int32) (f0 : Int32) (r0 : Int32) (fg : Nat → Int32) (fb : Nat → Int32) (fp : Nat → Int32) (hn : n ≤ 9) (h1n : 1 ≤ n) : Met l yX7_part wsX7_part rm_c_X7_part (pm_ D cI cJ cZ [.ref m0, .int p0, .int g0, .int f0, .int r0] [(m0, .inr (7, [.int (nI n), .ref g1, .ref g2, .ref g3, .int mr, .ref g4, .int my, .ref g5, .int mo, .ref g6, .int ml, .ref g7, .ref g8, .ref g9, .ref g10, .ref g11, .ref g12])), (g1, .inl (cI, 9, .inl fg)), (g2, .inl (cI, 9, .inl fb)), (g3, .inl (cI, 9, .inl fp))]) (va_Qi (fun (r : Int32) (u : Unit) => B01 r (0 ≤ p0.toInt ∧ p0.toInt < n ∧ 1 ≤ g0.toInt ∧ g0.toInt ≤ 9 ∧ 1 ≤ f0.toInt ∧ f0.toInt ≤ 9 ∧ 0 ≤ r0.toInt ∧ r0.toInt ≤ 1000)) (fun (u : Unit) tS => True) (aA [m0, g1, g2, g3])) 0 0 (aA [m0, g1, g2, g3]) := by
  refine Met.ofW (cc := cX7_part) (maxL := 5) (ret := (some .boolean)) (by decide) rfl ?_
  intro p e s m args below meth c s₁ B hml hv
  obtain ⟨rfl, hP, hKN, hD0⟩ := hv
  have hK := hKN.1
  have hx := B.exec
  have hb := B.bytes
  have hr := B.returns
  have hts := atoms_spec (ws := wsX7_part) B.pre
  have hown : s.vm.findClass RX7 = some m.cls := findClass_of_methodNamed B.named
  have hlocks := B.notSynchronized
  have hiX7 : ∀ w ∈ wsX70, w ∈ wsX7_part := by decide +kernel
  have hf13 := hts (.fieldLink RX7 13 "LookBenchModel" "good" "[I") (by decide +kernel)
  have hf17 := hts (.fieldLink RX7 17 "LookBenchModel" "bad" "[I") (by decide +kernel)
  have hf20 := hts (.fieldLink RX7 20 "LookBenchModel" "price" "[I") (by decide +kernel)
  obtain ⟨as, has⟩ : ∃ z : List Nat, z = [m0, g1, g2, g3] := ⟨_, rfl⟩
  have hD := hD0.addr (as := as) (by rw [has]; rfl)
  have hS : va_S (aA as) s.heap s.heap [] := va_S.rf
  have hl := lv_entry ([.ref m0, .int p0, .int g0, .int f0, .int r0]) (n := 5) (Nat.le_of_ble_eq_true rfl)
  rw [lg_entry_eq]
  generalize (lg_sl ([.ref m0, .int p0, .int g0, .int f0, .int r0]) ++ List.replicate (5 - (lg_sl ([.ref m0, .int p0, .int g0, .int f0, .int r0])).length) Slot.unset).toArray = ls at hl ⊢
  have hl : lv_has ls 5 [(0, .ref m0), (1, .int p0), (2, .int g0), (3, .int f0), (4, .int r0)] := hl
  generalize hQ : MQ below _ _ s _ _ _ = Q
  obtain ⟨H, hH⟩ : ∃ z, z = s.heap := ⟨_, rfl⟩
  have hP : va_P D vwCl [(m0, .inr (7, [.int (nI n), .ref g1, .ref g2, .ref g3, .int mr, .ref g4, .int my, .ref g5, .int mo, .ref g6, .int ml, .ref g7, .ref g8, .ref g9, .ref g10, .ref g11, .ref g12])), (g1, .inl (cI, 9, .inl fg)), (g2, .inl (cI, 9, .inl fb)), (g3, .inl (cI, 9, .inl fp))] H := by rw [hH]; exact hP
  have hS : va_S (aA as) s.heap H [] := by rw [hH]; exact hS
  refine m_heap hH ?_
  clear hH
  refine lv_aload_n hx hb dX7_part_0 rfl (lv_at hl 0 rfl) ?_
  refine lv_iload_n hx hb dX7_part_1 rfl (lv_at hl 1 rfl) ?_
  refine pu_i (va_runV (As := [.int p0]) (rest := []) ⟨hx, hb, hml, hown, hts⟩ (c_X7_isPart l D cI cJ cZ m0 g1 g2 g3 g4 g5 g6 g7 g8 g9 g10 g11 g12 n mr my mo ml p0 (by first | assumption | omega) (by first | assumption | omega)) (cwV 1 hts gX7_part_X7_isPart rfl rfl rfl (by decide +kernel) ⟨Nat.le_of_ble_eq_true rfl, Nat.le_of_ble_eq_true rfl⟩) ⟨pc_blind, va_recv hK hP (ci := 7) (q0 := 0) rfl rfl, fun U hU hW => ⟨rfl, by rw [hU]; exact hP.sub (ws' := [(m0, .inr (7, [.int (nI n), .ref g1, .ref g2, .ref g3, .int mr, .ref g4, .int my, .ref g5, .int mo, .ref g6, .int ml, .ref g7, .ref g8, .ref g9, .ref g10, .ref g11, .ref g12]))]) [0] rfl, hKN.warm hW⟩⟩ rfl rfl hl.1 rfl (lv_room (Nat.le_of_ble_eq_true rfl)) dX7_part_2 ⟨Nat.le_of_ble_eq_true rfl, Nat.le_of_ble_eq_true rfl⟩) hS hP (fun r1 H locs w1r hP hS => ?_)
  have w1 : B01 r1 (0 ≤ p0.toInt ∧ p0.toInt < n) := w1r
  clear w1r
  rcases w1 with ⟨rfl, w1⟩ | ⟨rfl, w1⟩
  · skip
    obtain ⟨j9, hj9, rfl⟩ := m_nat w1
    have t9 : (nI j9).toInt = (j9 : Int) := nI_toInt (by omega)
    refine lv_if_eq (tgt := 45) hx hb dX7_part_5 (by decide) (fun c2 => ?_) (fun c2 => ?_)
    · exact absurd c2 (by first | decide | exact nz_lt (by omega) | exact fun h => h (nz_ge (by omega)))
    · skip
      refine lv_iload_n hx hb dX7_part_8 rfl (lv_at hl 2 rfl) ?_
      refine lv_i2l hx hb dX7_part_9 rfl ?_
      refine lv_lconst (v := lN 1) hx hb dX7_part_10 (by decide) ?_
      refine lv_ldc2 (v := lN 9) hx hb hown (hts (.constantLong RX7 62 (lN 9)) (by decide +kernel)) dX7_part_11 ?_
      refine pu_i (va_runS (As := [.long g0.toInt64, .long (lN 1), .long (lN 9)]) (rest := []) ⟨hx, hb, hml, hown, hts⟩ (c_X7_in l D cI cJ cZ g0.toInt64 (lN 1) (lN 9)) (va_cwS 3 hts gX7_part_X7_in rfl rfl rfl (by decide +kernel) ⟨Nat.le_of_ble_eq_true rfl, Nat.le_of_ble_eq_true rfl⟩) ⟨pc_blind, fun U hU hW => ⟨rfl, by rw [hU]; exact hP.sub (ws' := []) [] rfl, hKN.warm hW⟩⟩ rfl rfl hl.1 rfl (lv_room (Nat.le_of_ble_eq_true rfl)) dX7_part_14 ⟨Nat.le_of_ble_eq_true rfl, Nat.le_of_ble_eq_true rfl⟩) hS hP (fun r3 H locs w3r hP hS => ?_)
      have w3 : B01 r3 ((lN 1).toInt ≤ g0.toInt64.toInt ∧ g0.toInt64.toInt ≤ (lN 9).toInt) := w3r
      clear w3r
      rw [lN_toInt (n := 1) (by omega), j2 g0, lN_toInt (n := 9) (by omega)] at w3
      rcases w3 with ⟨rfl, w3⟩ | ⟨rfl, w3⟩
      · skip
        refine lv_if_eq (tgt := 45) hx hb dX7_part_17 (by decide) (fun c4 => ?_) (fun c4 => ?_)
        · exact absurd c4 (by first | decide | exact nz_lt (by omega) | exact fun h => h (nz_ge (by omega)))
        · skip
          refine lv_iload_n hx hb dX7_part_20 rfl (lv_at hl 3 rfl) ?_
          refine lv_i2l hx hb dX7_part_21 rfl ?_
          refine lv_lconst (v := lN 1) hx hb dX7_part_22 (by decide) ?_
          refine lv_ldc2 (v := lN 9) hx hb hown (hts (.constantLong RX7 62 (lN 9)) (by decide +kernel)) dX7_part_23 ?_
          refine pu_i (va_runS (As := [.long f0.toInt64, .long (lN 1), .long (lN 9)]) (rest := []) ⟨hx, hb, hml, hown, hts⟩ (c_X7_in l D cI cJ cZ f0.toInt64 (lN 1) (lN 9)) (va_cwS 3 hts gX7_part_X7_in rfl rfl rfl (by decide +kernel) ⟨Nat.le_of_ble_eq_true rfl, Nat.le_of_ble_eq_true rfl⟩) ⟨pc_blind, fun U hU hW => ⟨rfl, by rw [hU]; exact hP.sub (ws' := []) [] rfl, hKN.warm hW⟩⟩ rfl rfl hl.1 rfl (lv_room (Nat.le_of_ble_eq_true rfl)) dX7_part_26 ⟨Nat.le_of_ble_eq_true rfl, Nat.le_of_ble_eq_true rfl⟩) hS hP (fun r5 H locs w5r hP hS => ?_)
          have w5 : B01 r5 ((lN 1).toInt ≤ f0.toInt64.toInt ∧ f0.toInt64.toInt ≤ (lN 9).toInt) := w5r
          clear w5r
          rw [lN_toInt (n := 1) (by omega), j2 f0, lN_toInt (n := 9) (by omega)] at w5
          rcases w5 with ⟨rfl, w5⟩ | ⟨rfl, w5⟩
          · skip
            refine lv_if_eq (tgt := 45) hx hb dX7_part_29 (by decide) (fun c6 => ?_) (fun c6 => ?_)
            · exact absurd c6 (by first | decide | exact nz_lt (by omega) | exact fun h => h (nz_ge (by omega)))
            · skip
              refine lv_iload hx hb dX7_part_32 (lv_at hl 4 rfl) ?_
              refine lv_i2l hx hb dX7_part_34 rfl ?_
              refine lv_lconst (v := lN 0) hx hb dX7_part_35 (by decide) ?_
              refine lv_ldc2 (v := lN 1000) hx hb hown (hts (.constantLong RX7 74 (lN 1000)) (by decide +kernel)) dX7_part_36 ?_
              refine pu_i (va_runS (As := [.long r0.toInt64, .long (lN 0), .long (lN 1000)]) (rest := []) ⟨hx, hb, hml, hown, hts⟩ (c_X7_in l D cI cJ cZ r0.toInt64 (lN 0) (lN 1000)) (va_cwS 3 hts gX7_part_X7_in rfl rfl rfl (by decide +kernel) ⟨Nat.le_of_ble_eq_true rfl, Nat.le_of_ble_eq_true rfl⟩) ⟨pc_blind, fun U hU hW => ⟨rfl, by rw [hU]; exact hP.sub (ws' := []) [] rfl, hKN.warm hW⟩⟩ rfl rfl hl.1 rfl (lv_room (Nat.le_of_ble_eq_true rfl)) dX7_part_39 ⟨Nat.le_of_ble_eq_true rfl, Nat.le_of_ble_eq_true rfl⟩) hS hP (fun r7 H locs w7r hP hS => ?_)
              have w7 : B01 r7 ((lN 0).toInt ≤ r0.toInt64.toInt ∧ r0.toInt64.toInt ≤ (lN 1000).toInt) := w7r
              clear w7r
              rw [lN_toInt (n := 0) (by omega), j2 r0, lN_toInt (n := 1000) (by omega)] at w7
              rcases w7 with ⟨rfl, w7⟩ | ⟨rfl, w7⟩
              · skip
                refine lv_if_ne (tgt := 47) hx hb dX7_part_42 (by decide) (fun c8 => ?_) (fun c8 => ?_)
                · skip
                  refine lv_aload_n hx hb dX7_part_47 rfl (lv_at hl 0 rfl) ?_
                  refine va_get (D := D) (ci := 7) (v := .ref g1) (C := RX7) (T := TX7) (N := 17) hx hb hts hiX7 hown hK hP 0 rfl rfl 1 (by decide) hf13 (fun _ h9 => h9) rfl dX7_part_48 ?_
                  refine lv_iload_n hx hb dX7_part_51 rfl (lv_at hl 1 rfl) ?_
                  refine lv_iload_n hx hb dX7_part_52 rfl (lv_at hl 2 rfl) ?_
                  refine va_iast hx hb hK hP hD hS 1 0 rfl rfl (i := nI j9) (vp_in_nI (by omega) (by omega)) dX7_part_53 (fun H locs hP hD hS => ?_)
                  have hP : va_P D vwCl [(m0, .inr (7, [.int (nI n), .ref g1, .ref g2, .ref g3, .int mr, .ref g4, .int my, .ref g5, .int mo, .ref g6, .int ml, .ref g7, .ref g8, .ref g9, .ref g10, .ref g11, .ref g12])), (g1, .inl (cI, 9, .inl (upd fg (nI j9).toNatClampNeg g0))), (g2, .inl (cI, 9, .inl fb)), (g3, .inl (cI, 9, .inl fp))] H := hP
                  have hD : va_D (aA as) [(m0, .inr (7, [.int (nI n), .ref g1, .ref g2, .ref g3, .int mr, .ref g4, .int my, .ref g5, .int mo, .ref g6, .int ml, .ref g7, .ref g8, .ref g9, .ref g10, .ref g11, .ref g12])), (g1, .inl (cI, 9, .inl (upd fg (nI j9).toNatClampNeg g0))), (g2, .inl (cI, 9, .inl fb)), (g3, .inl (cI, 9, .inl fp))] := hD
                  rw [nI_clamp (n := j9) (by omega)] at hP hD
                  refine lv_aload_n hx hb dX7_part_54 rfl (lv_at hl 0 rfl) ?_
                  refine va_get (D := D) (ci := 7) (v := .ref g2) (C := RX7) (T := TX7) (N := 17) hx hb hts hiX7 hown hK hP 0 rfl rfl 2 (by decide) hf17 (fun _ h9 => h9) rfl dX7_part_55 ?_
                  refine lv_iload_n hx hb dX7_part_58 rfl (lv_at hl 1 rfl) ?_
                  refine lv_iload_n hx hb dX7_part_59 rfl (lv_at hl 3 rfl) ?_
                  refine va_iast hx hb hK hP hD hS 2 0 rfl rfl (i := nI j9) (vp_in_nI (by omega) (by omega)) dX7_part_60 (fun H locs hP hD hS => ?_)
                  have hP : va_P D vwCl [(m0, .inr (7, [.int (nI n), .ref g1, .ref g2, .ref g3, .int mr, .ref g4, .int my, .ref g5, .int mo, .ref g6, .int ml, .ref g7, .ref g8, .ref g9, .ref g10, .ref g11, .ref g12])), (g1, .inl (cI, 9, .inl (upd fg j9 g0))), (g2, .inl (cI, 9, .inl (upd fb (nI j9).toNatClampNeg f0))), (g3, .inl (cI, 9, .inl fp))] H := hP
                  have hD : va_D (aA as) [(m0, .inr (7, [.int (nI n), .ref g1, .ref g2, .ref g3, .int mr, .ref g4, .int my, .ref g5, .int mo, .ref g6, .int ml, .ref g7, .ref g8, .ref g9, .ref g10, .ref g11, .ref g12])), (g1, .inl (cI, 9, .inl (upd fg j9 g0))), (g2, .inl (cI, 9, .inl (upd fb (nI j9).toNatClampNeg f0))), (g3, .inl (cI, 9, .inl fp))] := hD
                  rw [nI_clamp (n := j9) (by omega)] at hP hD
                  refine lv_aload_n hx hb dX7_part_61 rfl (lv_at hl 0 rfl) ?_
                  refine va_get (D := D) (ci := 7) (v := .ref g3) (C := RX7) (T := TX7) (N := 17) hx hb hts hiX7 hown hK hP 0 rfl rfl 3 (by decide) hf20 (fun _ h9 => h9) rfl dX7_part_62 ?_
                  refine lv_iload_n hx hb dX7_part_65 rfl (lv_at hl 1 rfl) ?_
                  refine lv_iload hx hb dX7_part_66 (lv_at hl 4 rfl) ?_
                  refine va_iast hx hb hK hP hD hS 3 0 rfl rfl (i := nI j9) (vp_in_nI (by omega) (by omega)) dX7_part_68 (fun H locs hP hD hS => ?_)
                  have hP : va_P D vwCl [(m0, .inr (7, [.int (nI n), .ref g1, .ref g2, .ref g3, .int mr, .ref g4, .int my, .ref g5, .int mo, .ref g6, .int ml, .ref g7, .ref g8, .ref g9, .ref g10, .ref g11, .ref g12])), (g1, .inl (cI, 9, .inl (upd fg j9 g0))), (g2, .inl (cI, 9, .inl (upd fb j9 f0))), (g3, .inl (cI, 9, .inl (upd fp (nI j9).toNatClampNeg r0)))] H := hP
                  have hD : va_D (aA as) [(m0, .inr (7, [.int (nI n), .ref g1, .ref g2, .ref g3, .int mr, .ref g4, .int my, .ref g5, .int mo, .ref g6, .int ml, .ref g7, .ref g8, .ref g9, .ref g10, .ref g11, .ref g12])), (g1, .inl (cI, 9, .inl (upd fg j9 g0))), (g2, .inl (cI, 9, .inl (upd fb j9 f0))), (g3, .inl (cI, 9, .inl (upd fp (nI j9).toNatClampNeg r0)))] := hD
                  rw [nI_clamp (n := j9) (by omega)] at hP hD
                  refine lv_iconst (v := nI 1) hx hb dX7_part_69 (by decide) ?_
                  rw [← hQ]
                  exact W.zret (v := nI 1) hx hb hr (by first | decide | (rw [nar_b01])) (fun tS htS hWS => ⟨⟨(nI 1), (), rfl, Or.inl ⟨rfl, by omega⟩, trivial⟩, by rw [← has]; exact hS.F htS⟩) (by rw [← has]; exact hS.2.2) dX7_part_70
                · exact absurd c8 (by first | decide | exact nz_lt (by omega) | exact fun h => h (nz_ge (by omega)))
              · skip
                refine lv_if_ne (tgt := 47) hx hb dX7_part_42 (by decide) (fun c9 => ?_) (fun c9 => ?_)
                · exact absurd c9 (by first | decide | exact nz_lt (by omega) | exact fun h => h (nz_ge (by omega)))
                · skip
                  refine lv_iconst (v := nI 0) hx hb dX7_part_45 (by decide) ?_
                  rw [← hQ]
                  exact W.zret (v := nI 0) hx hb hr (by first | decide | (rw [nar_b01])) (fun tS htS hWS => ⟨⟨(nI 0), (), rfl, Or.inr ⟨rfl, by omega⟩, trivial⟩, by rw [← has]; exact hS.F htS⟩) (by rw [← has]; exact hS.2.2) dX7_part_46
          · skip
            refine lv_if_eq (tgt := 45) hx hb dX7_part_29 (by decide) (fun c10 => ?_) (fun c10 => ?_)
            · skip
              refine lv_iconst (v := nI 0) hx hb dX7_part_45 (by decide) ?_
              rw [← hQ]
              exact W.zret (v := nI 0) hx hb hr (by first | decide | (rw [nar_b01])) (fun tS htS hWS => ⟨⟨(nI 0), (), rfl, Or.inr ⟨rfl, by omega⟩, trivial⟩, by rw [← has]; exact hS.F htS⟩) (by rw [← has]; exact hS.2.2) dX7_part_46
            · exact absurd c10 (by first | decide | exact nz_lt (by omega) | exact fun h => h (nz_ge (by omega)))
      · skip
        refine lv_if_eq (tgt := 45) hx hb dX7_part_17 (by decide) (fun c11 => ?_) (fun c11 => ?_)
        · skip
          refine lv_iconst (v := nI 0) hx hb dX7_part_45 (by decide) ?_
          rw [← hQ]
          exact W.zret (v := nI 0) hx hb hr (by first | decide | (rw [nar_b01])) (fun tS htS hWS => ⟨⟨(nI 0), (), rfl, Or.inr ⟨rfl, by omega⟩, trivial⟩, by rw [← has]; exact hS.F htS⟩) (by rw [← has]; exact hS.2.2) dX7_part_46
        · exact absurd c11 (by first | decide | exact nz_lt (by omega) | exact fun h => h (nz_ge (by omega)))
  · skip
    refine lv_if_eq (tgt := 45) hx hb dX7_part_5 (by decide) (fun c12 => ?_) (fun c12 => ?_)
    · skip
      refine lv_iconst (v := nI 0) hx hb dX7_part_45 (by decide) ?_
      rw [← hQ]
      exact W.zret (v := nI 0) hx hb hr (by first | decide | (rw [nar_b01])) (fun tS htS hWS => ⟨⟨(nI 0), (), rfl, Or.inr ⟨rfl, by omega⟩, trivial⟩, by rw [← has]; exact hS.F htS⟩) (by rw [← has]; exact hS.2.2) dX7_part_46
    · exact absurd c12 (by first | decide | exact nz_lt (by omega) | exact fun h => h (nz_ge (by omega)))
def rm_c_X7_single : Room := { frames := 2, cells := 0, slots := 0, locals := 46 }
set_option maxHeartbeats 400000 in
set_option maxRecDepth 100000 in
theorem c_X7_single (l : Launch) (D : va_G) (cI cJ cZ : ClassId) (m0 : Nat) (g1 : Nat) (g2 : Nat) (g3 : Nat) (g4 : Nat) (g5 : Nat) (g6 : Nat) (g7 : Nat) (g8 : Nat) (g9 : Nat) (g10 : Nat) (g11 : Nat) (g12 : Nat) (n : Nat) (c0 : Nat) (my : Int32) (mo : Int32) (ml : Int32) (p0 : Int32) (fs : Nat → Int32) (hn : n ≤ 9) (h1n : 1 ≤ n) (hc : c0 ≤ 40) : Met l yX7_single wsX7_single rm_c_X7_single (pm_ D cI cJ cZ [.ref m0, .int p0] [(m0, .inr (7, [.int (nI n), .ref g1, .ref g2, .ref g3, .int (nI c0), .ref g4, .int my, .ref g5, .int mo, .ref g6, .int ml, .ref g7, .ref g8, .ref g9, .ref g10, .ref g11, .ref g12])), (g4, .inl (cZ, 20480, .inl fs))]) (va_Qi (fun (r : Int32) (u : Unit) => R1 r (nI c0) (0 ≤ p0.toInt ∧ p0.toInt < n ∧ c0 < 40)) (fun (u : Unit) tS => True) (aA [m0, g4])) 0 0 (aA [m0, g4]) := by
  refine Met.ofW (cc := cX7_single) (maxL := 3) (ret := (some .int)) (by decide) rfl ?_
  intro p e s m args below meth c s₁ B hml hv
  obtain ⟨rfl, hP, hKN, hD0⟩ := hv
  have hK := hKN.1
  have hx := B.exec
  have hb := B.bytes
  have hr := B.returns
  have hts := atoms_spec (ws := wsX7_single) B.pre
  have hown : s.vm.findClass RX7 = some m.cls := findClass_of_methodNamed B.named
  have hlocks := B.notSynchronized
  have hiX7 : ∀ w ∈ wsX70, w ∈ wsX7_single := by decide +kernel
  have hf23 := hts (.fieldLink RX7 23 "LookBenchModel" "says" "[Z") (by decide +kernel)
  have hf59 := hts (.fieldLink RX7 59 "LookBenchModel" "rules" "I") (by decide +kernel)
  obtain ⟨as, has⟩ : ∃ z : List Nat, z = [m0, g4] := ⟨_, rfl⟩
  have hD := hD0.addr (as := as) (by rw [has]; rfl)
  have hS : va_S (aA as) s.heap s.heap [] := va_S.rf
  have hl := lv_entry ([.ref m0, .int p0]) (n := 3) (Nat.le_of_ble_eq_true rfl)
  rw [lg_entry_eq]
  generalize (lg_sl ([.ref m0, .int p0]) ++ List.replicate (3 - (lg_sl ([.ref m0, .int p0])).length) Slot.unset).toArray = ls at hl ⊢
  have hl : lv_has ls 3 [(0, .ref m0), (1, .int p0)] := hl
  generalize hQ : MQ below _ _ s _ _ _ = Q
  obtain ⟨H, hH⟩ : ∃ z, z = s.heap := ⟨_, rfl⟩
  have hP : va_P D vwCl [(m0, .inr (7, [.int (nI n), .ref g1, .ref g2, .ref g3, .int (nI c0), .ref g4, .int my, .ref g5, .int mo, .ref g6, .int ml, .ref g7, .ref g8, .ref g9, .ref g10, .ref g11, .ref g12])), (g4, .inl (cZ, 20480, .inl fs))] H := by rw [hH]; exact hP
  have hS : va_S (aA as) s.heap H [] := by rw [hH]; exact hS
  refine m_heap hH ?_
  clear hH
  have h2n := m_pow hn
  have h2p := m_powp n
  refine lv_aload_n hx hb dX7_single_0 rfl (lv_at hl 0 rfl) ?_
  refine lv_iload_n hx hb dX7_single_1 rfl (lv_at hl 1 rfl) ?_
  refine pu_i (va_runV (As := [.int p0]) (rest := []) ⟨hx, hb, hml, hown, hts⟩ (c_X7_isPart l D cI cJ cZ m0 g1 g2 g3 g4 g5 g6 g7 g8 g9 g10 g11 g12 n (nI c0) my mo ml p0 (by first | assumption | omega) (by first | assumption | omega)) (cwV 1 hts gX7_single_X7_isPart rfl rfl rfl (by decide +kernel) ⟨Nat.le_of_ble_eq_true rfl, Nat.le_of_ble_eq_true rfl⟩) ⟨pc_blind, va_recv hK hP (ci := 7) (q0 := 0) rfl rfl, fun U hU hW => ⟨rfl, by rw [hU]; exact hP.sub (ws' := [(m0, .inr (7, [.int (nI n), .ref g1, .ref g2, .ref g3, .int (nI c0), .ref g4, .int my, .ref g5, .int mo, .ref g6, .int ml, .ref g7, .ref g8, .ref g9, .ref g10, .ref g11, .ref g12]))]) [0] rfl, hKN.warm hW⟩⟩ rfl rfl hl.1 rfl (lv_room (Nat.le_of_ble_eq_true rfl)) dX7_single_2 ⟨Nat.le_of_ble_eq_true rfl, Nat.le_of_ble_eq_true rfl⟩) hS hP (fun r1 H locs w1r hP hS => ?_)
  have w1 : B01 r1 (0 ≤ p0.toInt ∧ p0.toInt < n) := w1r
  clear w1r
  rcases w1 with ⟨rfl, w1⟩ | ⟨rfl, w1⟩
  · skip
    obtain ⟨j9, hj9, rfl⟩ := m_nat w1
    have t9 : (nI j9).toInt = (j9 : Int) := nI_toInt (by omega)
    refine lv_if_eq (tgt := 17) hx hb dX7_single_5 (by decide) (fun c2 => ?_) (fun c2 => ?_)
    · exact absurd c2 (by first | decide | exact nz_lt (by omega) | exact fun h => h (nz_ge (by omega)))
    · skip
      refine lv_aload_n hx hb dX7_single_8 rfl (lv_at hl 0 rfl) ?_
      refine va_get (D := D) (ci := 7) (v := .int (nI c0)) (C := RX7) (T := TX7) (N := 17) hx hb hts hiX7 hown hK hP 0 rfl rfl 4 (by decide) hf59 (fun _ h9 => h9) rfl dX7_single_9 ?_
      refine lv_bipush (v := nI 40) hx hb dX7_single_12 (by decide) ?_
      refine lv_icmp_ne (tgt := 19) hx hb dX7_single_14 (by decide) (fun c3 => ?_) (fun c3 => ?_)
      · skip
        have d3 := c3
        rw [nI_eq (by omega) (by omega)] at d3
        refine lv_iconst (v := nI 0) hx hb dX7_single_19 (by decide) ?_
        refine lv_istore_n (lv' := [(2, .int (nI 0)), (0, .ref m0), (1, .int (nI j9))]) hx hb dX7_single_20 rfl hl (by decide) rfl (fun ls hl => ?_)
        have loop4 : ∀ (fu : Nat) (k : Nat) (us : Nat → Int32) (H : Heap) (locs : List Loc) (ls : Array Slot), (k ≤ 2 ^ n ∧ 2 ^ n < k + fu) → va_P D vwCl [(m0, .inr (7, [.int (nI n), .ref g1, .ref g2, .ref g3, .int (nI c0), .ref g4, .int my, .ref g5, .int mo, .ref g6, .int ml, .ref g7, .ref g8, .ref g9, .ref g10, .ref g11, .ref g12])), (g4, .inl (cZ, 20480, .inl us))] H → va_D (aA as) [(m0, .inr (7, [.int (nI n), .ref g1, .ref g2, .ref g3, .int (nI c0), .ref g4, .int my, .ref g5, .int mo, .ref g6, .int ml, .ref g7, .ref g8, .ref g9, .ref g10, .ref g11, .ref g12])), (g4, .inl (cZ, 20480, .inl us))] → va_S (aA as) s.heap H locs → lv_has ls 3 [(2, .int (nI k)), (0, .ref m0), (1, .int (nI j9))] → W p l e (headSpec wsX7_single rm_c_X7_single).room s m ([.ref m0, .int (nI j9)] : List Value).toArray below meth c H locs 0 0 Q (F0 m 21 ls []) := by
          intro fu
          induction fu with
          | zero => intro k us H locs ls hk; exact absurd hk (by omega)
          | succ fu ih4 =>
            intro k us H locs ls hk hP hD hS hl
            refine lv_iload_n hx hb dX7_single_21 rfl (lv_at hl 0 rfl) ?_
            refine lv_aload_n hx hb dX7_single_22 rfl (lv_at hl 1 rfl) ?_
            refine pu_i (va_runV (As := []) (rest := [.int (nI k)]) ⟨hx, hb, hml, hown, hts⟩ (c_X7_settings l D cI cJ cZ m0 g1 g2 g3 g4 g5 g6 g7 g8 g9 g10 g11 g12 n (nI c0) my mo ml (by first | assumption | omega)) (cwV 0 hts gX7_single_X7_settings rfl rfl rfl (by decide +kernel) ⟨Nat.le_of_ble_eq_true rfl, Nat.le_of_ble_eq_true rfl⟩) ⟨pc_blind, va_recv hK hP (ci := 7) (q0 := 0) rfl rfl, fun U hU hW => ⟨rfl, by rw [hU]; exact hP.sub (ws' := [(m0, .inr (7, [.int (nI n), .ref g1, .ref g2, .ref g3, .int (nI c0), .ref g4, .int my, .ref g5, .int mo, .ref g6, .int ml, .ref g7, .ref g8, .ref g9, .ref g10, .ref g11, .ref g12]))]) [0] rfl, hKN.warm hW⟩⟩ rfl rfl hl.1 rfl (lv_room (Nat.le_of_ble_eq_true rfl)) dX7_single_23 ⟨Nat.le_of_ble_eq_true rfl, Nat.le_of_ble_eq_true rfl⟩) hS hP (fun r5 H locs w5r hP hS => ?_)
            have w5 : r5 = nI (2 ^ n) := w5r
            clear w5r
            obtain rfl : r5 = nI (2 ^ n) := w5
            refine lv_icmp_ge (tgt := 64) hx hb dX7_single_26 (by decide) (fun c6 => ?_) (fun c6 => ?_)
            · skip
              have d6 := c6
              rw [nI_leI (by omega) (by omega)] at d6
              refine lv_aload_n hx hb dX7_single_64 rfl (lv_at hl 1 rfl) ?_
              refine mu_i (n := 2) (wc := [(m0, .inr (7, [.int (nI n), .ref g1, .ref g2, .ref g3, .int (nI c0), .ref g4, .int my, .ref g5, .int mo, .ref g6, .int ml, .ref g7, .ref g8, .ref g9, .ref g10, .ref g11, .ref g12]))]) (va_runV (As := []) (rest := []) ⟨hx, hb, hml, hown, hts⟩ (c_X7_added l D cI cJ cZ m0 g1 g2 g3 g4 g5 g6 g7 g8 g9 g10 g11 g12 c0 (nI n) my mo ml (by first | assumption | omega)) (cwV 0 hts gX7_single_X7_added rfl rfl rfl (by decide +kernel) ⟨Nat.le_of_ble_eq_true rfl, Nat.le_of_ble_eq_true rfl⟩) ⟨pm_blind, va_recv hK hP (ci := 7) (q0 := 0) rfl rfl, fun U hU hW => ⟨rfl, by rw [hU]; exact hP.sub (ws' := [(m0, .inr (7, [.int (nI n), .ref g1, .ref g2, .ref g3, .int (nI c0), .ref g4, .int my, .ref g5, .int mo, .ref g6, .int ml, .ref g7, .ref g8, .ref g9, .ref g10, .ref g11, .ref g12]))]) [0] rfl, hKN.warm hW, (hD.sub (ws' := [(m0, .inr (7, [.int (nI n), .ref g1, .ref g2, .ref g3, .int (nI c0), .ref g4, .int my, .ref g5, .int mo, .ref g6, .int ml, .ref g7, .ref g8, .ref g9, .ref g10, .ref g11, .ref g12]))]) [0] (by decide) rfl).weaken (fun _ _ _ _ => trivial)⟩⟩ rfl rfl hl.1 rfl (lv_room (Nat.le_of_ble_eq_true rfl)) dX7_single_65 ⟨Nat.le_of_ble_eq_true rfl, Nat.le_of_ble_eq_true rfl⟩) hS hP hD (fun (u : Unit) => [(m0, .inr (7, [.int (nI n), .ref g1, .ref g2, .ref g3, .int (nI (c0 + 1)), .ref g4, .int my, .ref g5, .int mo, .ref g6, .int ml, .ref g7, .ref g8, .ref g9, .ref g10, .ref g11, .ref g12])), (g4, .inl (cZ, 20480, .inl us))]) [0] [1] rfl rfl (fun _ => rfl) (fun _ => rfl) (fun _ => rfl) (fun _ => rfl) (by decide) (by decide) (fun r7 u7 H locs w7r hP hD hS => ?_)
              have hP : va_P D vwCl [(m0, .inr (7, [.int (nI n), .ref g1, .ref g2, .ref g3, .int (nI (c0 + 1)), .ref g4, .int my, .ref g5, .int mo, .ref g6, .int ml, .ref g7, .ref g8, .ref g9, .ref g10, .ref g11, .ref g12])), (g4, .inl (cZ, 20480, .inl us))] H := hP
              have hD : va_D (aA as) [(m0, .inr (7, [.int (nI n), .ref g1, .ref g2, .ref g3, .int (nI (c0 + 1)), .ref g4, .int my, .ref g5, .int mo, .ref g6, .int ml, .ref g7, .ref g8, .ref g9, .ref g10, .ref g11, .ref g12])), (g4, .inl (cZ, 20480, .inl us))] := hD
              have w7 : r7 = nI c0 := w7r
              clear w7r
              rw [← hQ]
              exact W.iret (v := r7) hx hb hr (fun tS htS hWS => ⟨⟨r7, (), rfl, Or.inl ⟨by first | rfl | assumption, by omega⟩, trivial⟩, by rw [← has]; exact hS.F htS⟩) (by rw [← has]; exact hS.2.2) dX7_single_68
            · skip
              have d6 := c6
              rw [nI_leI (by omega) (by omega)] at d6
              refine lv_aload_n hx hb dX7_single_29 rfl (lv_at hl 1 rfl) ?_
              refine va_get (D := D) (ci := 7) (v := .ref g4) (C := RX7) (T := TX7) (N := 17) hx hb hts hiX7 hown hK hP 0 rfl rfl 5 (by decide) hf23 (fun _ h9 => h9) rfl dX7_single_30 ?_
              refine lv_sipush (v := nI 512) hx hb dX7_single_33 (by decide) ?_
              refine lv_aload_n hx hb dX7_single_36 rfl (lv_at hl 1 rfl) ?_
              refine va_get (D := D) (ci := 7) (v := .int (nI c0)) (C := RX7) (T := TX7) (N := 17) hx hb hts hiX7 hown hK hP 0 rfl rfl 4 (by decide) hf59 (fun _ h9 => h9) rfl dX7_single_37 ?_
              refine lv_imul hx hb dX7_single_40 ?_
              refine cn_i (y := nI (512 * c0)) (pk_mul 512 c0) ?_
              refine lv_iload_n hx hb dX7_single_41 rfl (lv_at hl 0 rfl) ?_
              refine lv_iadd hx hb dX7_single_42 ?_
              refine cn_i (y := nI ((512 * c0) + k)) (nI_add (512 * c0) k) ?_
              refine lv_iload_n hx hb dX7_single_43 rfl (lv_at hl 0 rfl) ?_
              refine lv_iload_n hx hb dX7_single_44 rfl (lv_at hl 2 rfl) ?_
              refine lv_ishr hx hb dX7_single_45 ?_
              refine cn_i (y := nI (k / 2 ^ j9)) (m_shr (by omega) (by omega)) ?_
              refine lv_iconst (v := nI 1) hx hb dX7_single_46 (by decide) ?_
              refine lv_iand hx hb dX7_single_47 ?_
              refine cn_i (y := nI ((k / 2 ^ j9) % 2)) (m_andn1 (Nat.lt_of_le_of_lt (Nat.div_le_self _ _) (by omega))) ?_
              refine lv_iconst (v := nI 1) hx hb dX7_single_48 (by decide) ?_
              refine lv_icmp_ne (tgt := 56) hx hb dX7_single_49 (by decide) (fun c8 => ?_) (fun c8 => ?_)
              · skip
                have d8 := c8
                rw [nI_eq (by omega) (by omega)] at d8
                refine lv_iconst (v := nI 0) hx hb dX7_single_56 (by decide) ?_
                refine va_zast hx hb hK hP hD hS 1 2 rfl rfl (i := nI ((512 * c0) + k)) (vp_in_nI (by omega) (by omega)) dX7_single_57 (fun H locs hP hD hS => ?_)
                have hP : va_P D vwCl [(m0, .inr (7, [.int (nI n), .ref g1, .ref g2, .ref g3, .int (nI c0), .ref g4, .int my, .ref g5, .int mo, .ref g6, .int ml, .ref g7, .ref g8, .ref g9, .ref g10, .ref g11, .ref g12])), (g4, .inl (cZ, 20480, .inl (upd us (nI ((512 * c0) + k)).toNatClampNeg (vp_nar .boolean (nI 0)))))] H := hP
                have hD : va_D (aA as) [(m0, .inr (7, [.int (nI n), .ref g1, .ref g2, .ref g3, .int (nI c0), .ref g4, .int my, .ref g5, .int mo, .ref g6, .int ml, .ref g7, .ref g8, .ref g9, .ref g10, .ref g11, .ref g12])), (g4, .inl (cZ, 20480, .inl (upd us (nI ((512 * c0) + k)).toNatClampNeg (vp_nar .boolean (nI 0)))))] := hD
                rw [nI_clamp (n := ((512 * c0) + k)) (by omega)] at hP hD
                refine lv_iinc (v := nI (k + 1)) (lv' := [(2, .int (nI (k + 1))), (0, .ref m0), (1, .int (nI j9))]) hx hb dX7_single_58 hl (k := 0) rfl (nI_1 k) (by decide) rfl (fun ls hl => ?_)
                refine lv_goto (tgt := 21) hx hb dX7_single_61 (by decide) ?_
                exact ih4 (k + 1) (upd us ((512 * c0) + k) (vp_nar .boolean (nI 0))) _ _ _ (by omega) hP hD hS (lv_sub hl [0, 1, 2] rfl)
              · skip
                have d8 := c8
                rw [nI_eq (by omega) (by omega)] at d8
                refine lv_iconst (v := nI 1) hx hb dX7_single_52 (by decide) ?_
                refine lv_goto (tgt := 57) hx hb dX7_single_53 (by decide) ?_
                refine va_zast hx hb hK hP hD hS 1 2 rfl rfl (i := nI ((512 * c0) + k)) (vp_in_nI (by omega) (by omega)) dX7_single_57 (fun H locs hP hD hS => ?_)
                have hP : va_P D vwCl [(m0, .inr (7, [.int (nI n), .ref g1, .ref g2, .ref g3, .int (nI c0), .ref g4, .int my, .ref g5, .int mo, .ref g6, .int ml, .ref g7, .ref g8, .ref g9, .ref g10, .ref g11, .ref g12])), (g4, .inl (cZ, 20480, .inl (upd us (nI ((512 * c0) + k)).toNatClampNeg (vp_nar .boolean (nI 1)))))] H := hP
                have hD : va_D (aA as) [(m0, .inr (7, [.int (nI n), .ref g1, .ref g2, .ref g3, .int (nI c0), .ref g4, .int my, .ref g5, .int mo, .ref g6, .int ml, .ref g7, .ref g8, .ref g9, .ref g10, .ref g11, .ref g12])), (g4, .inl (cZ, 20480, .inl (upd us (nI ((512 * c0) + k)).toNatClampNeg (vp_nar .boolean (nI 1)))))] := hD
                rw [nI_clamp (n := ((512 * c0) + k)) (by omega)] at hP hD
                refine lv_iinc (v := nI (k + 1)) (lv' := [(2, .int (nI (k + 1))), (0, .ref m0), (1, .int (nI j9))]) hx hb dX7_single_58 hl (k := 0) rfl (nI_1 k) (by decide) rfl (fun ls hl => ?_)
                refine lv_goto (tgt := 21) hx hb dX7_single_61 (by decide) ?_
                exact ih4 (k + 1) (upd us ((512 * c0) + k) (vp_nar .boolean (nI 1))) _ _ _ (by omega) hP hD hS (lv_sub hl [0, 1, 2] rfl)
        exact loop4 (2 ^ n + 1) 0 fs _ _ _ (by omega) hP hD hS (lv_sub hl [0, 1, 2] rfl)
      · skip
        have d3 := c3
        rw [nI_eq (by omega) (by omega)] at d3
        refine lv_iconst (v := (-1 : Int32)) hx hb dX7_single_17 (by decide) ?_
        rw [← hQ]
        exact W.iret (v := (-1 : Int32)) hx hb hr (fun tS htS hWS => ⟨⟨(-1 : Int32), (), rfl, Or.inr ⟨rfl, by omega⟩, trivial⟩, by rw [← has]; exact hS.F htS⟩) (by rw [← has]; exact hS.2.2) dX7_single_18
  · skip
    refine lv_if_eq (tgt := 17) hx hb dX7_single_5 (by decide) (fun c9 => ?_) (fun c9 => ?_)
    · skip
      refine lv_iconst (v := (-1 : Int32)) hx hb dX7_single_17 (by decide) ?_
      rw [← hQ]
      exact W.iret (v := (-1 : Int32)) hx hb hr (fun tS htS hWS => ⟨⟨(-1 : Int32), (), rfl, Or.inr ⟨rfl, by omega⟩, trivial⟩, by rw [← has]; exact hS.F htS⟩) (by rw [← has]; exact hS.2.2) dX7_single_18
    · exact absurd c9 (by first | decide | exact nz_lt (by omega) | exact fun h => h (nz_ge (by omega)))
def rm_c_X7_some : Room := { frames := 1, cells := 0, slots := 0, locals := 25 }
set_option maxHeartbeats 400000 in
set_option maxRecDepth 100000 in
theorem c_X7_some (l : Launch) (D : va_G) (cI cJ cZ : ClassId) (m0 : Nat) (g1 : Nat) (g2 : Nat) (g3 : Nat) (g4 : Nat) (g5 : Nat) (g6 : Nat) (g7 : Nat) (g8 : Nat) (g9 : Nat) (g10 : Nat) (g11 : Nat) (g12 : Nat) (n : Nat) (c0 : Nat) (my : Int32) (mo : Int32) (ml : Int32) (se : Int32) (wi : Int32) (kk : Int32) (wo : Int64) (fs : Nat → Int32) (hn : n ≤ 9) (h1n : 1 ≤ n) (hc : c0 ≤ 40) : Met l yX7_some wsX7_some rm_c_X7_some (pm_ D cI cJ cZ [.ref m0, .int se, .long wo, .int wi, .int kk] [(m0, .inr (7, [.int (nI n), .ref g1, .ref g2, .ref g3, .int (nI c0), .ref g4, .int my, .ref g5, .int mo, .ref g6, .int ml, .ref g7, .ref g8, .ref g9, .ref g10, .ref g11, .ref g12])), (g4, .inl (cZ, 20480, .inl fs))]) (va_Qi (fun (r : Int32) (u : Unit) => R1 r (nI c0) (0 ≤ se.toInt ∧ se.toInt < (2 ^ n : Nat) ∧ 0 ≤ wo.toInt ∧ 0 ≤ wi.toInt ∧ wi.toInt ≤ 3 ∧ 0 ≤ kk.toInt ∧ kk.toInt ≤ 100 ∧ c0 < 40)) (fun (u : Unit) tS => True) (aA [m0, g4])) 0 0 (aA [m0, g4]) := by
  refine Met.ofW (cc := cX7_some) (maxL := 11) (ret := (some .int)) (by decide) rfl ?_
  intro p e s m args below meth c s₁ B hml hv
  obtain ⟨rfl, hP, hKN, hD0⟩ := hv
  have hK := hKN.1
  have hx := B.exec
  have hb := B.bytes
  have hr := B.returns
  have hts := atoms_spec (ws := wsX7_some) B.pre
  have hown : s.vm.findClass RX7 = some m.cls := findClass_of_methodNamed B.named
  have hlocks := B.notSynchronized
  have hiX7 : ∀ w ∈ wsX70, w ∈ wsX7_some := by decide +kernel
  have hf7 := hts (.fieldLink RX7 7 "LookBenchModel" "parts" "I") (by decide +kernel)
  have hf23 := hts (.fieldLink RX7 23 "LookBenchModel" "says" "[Z") (by decide +kernel)
  have hf59 := hts (.fieldLink RX7 59 "LookBenchModel" "rules" "I") (by decide +kernel)
  obtain ⟨as, has⟩ : ∃ z : List Nat, z = [m0, g4] := ⟨_, rfl⟩
  have hD := hD0.addr (as := as) (by rw [has]; rfl)
  have hS : va_S (aA as) s.heap s.heap [] := va_S.rf
  have hl := lv_entry ([.ref m0, .int se, .long wo, .int wi, .int kk]) (n := 11) (Nat.le_of_ble_eq_true rfl)
  rw [lg_entry_eq]
  generalize (lg_sl ([.ref m0, .int se, .long wo, .int wi, .int kk]) ++ List.replicate (11 - (lg_sl ([.ref m0, .int se, .long wo, .int wi, .int kk])).length) Slot.unset).toArray = ls at hl ⊢
  have hl : lv_has ls 11 [(0, .ref m0), (1, .int se), (2, .long wo), (4, .int wi), (5, .int kk)] := hl
  generalize hQ : MQ below _ _ s _ _ _ = Q
  obtain ⟨H, hH⟩ : ∃ z, z = s.heap := ⟨_, rfl⟩
  have hP : va_P D vwCl [(m0, .inr (7, [.int (nI n), .ref g1, .ref g2, .ref g3, .int (nI c0), .ref g4, .int my, .ref g5, .int mo, .ref g6, .int ml, .ref g7, .ref g8, .ref g9, .ref g10, .ref g11, .ref g12])), (g4, .inl (cZ, 20480, .inl fs))] H := by rw [hH]; exact hP
  have hS : va_S (aA as) s.heap H [] := by rw [hH]; exact hS
  refine m_heap hH ?_
  clear hH
  have h2n := m_pow hn
  have h2p := m_powp n
  refine lv_iload_n hx hb dX7_some_0 rfl (lv_at hl 1 rfl) ?_
  refine lv_i2l hx hb dX7_some_1 rfl ?_
  refine lv_lconst (v := lN 0) hx hb dX7_some_2 (by decide) ?_
  refine lv_aload_n hx hb dX7_some_3 rfl (lv_at hl 0 rfl) ?_
  refine pu_i (va_runV (As := []) (rest := [.long (lN 0), .long se.toInt64]) ⟨hx, hb, hml, hown, hts⟩ (c_X7_settings l D cI cJ cZ m0 g1 g2 g3 g4 g5 g6 g7 g8 g9 g10 g11 g12 n (nI c0) my mo ml (by first | assumption | omega)) (cwV 0 hts gX7_some_X7_settings rfl rfl rfl (by decide +kernel) ⟨Nat.le_of_ble_eq_true rfl, Nat.le_of_ble_eq_true rfl⟩) ⟨pc_blind, va_recv hK hP (ci := 7) (q0 := 0) rfl rfl, fun U hU hW => ⟨rfl, by rw [hU]; exact hP.sub (ws' := [(m0, .inr (7, [.int (nI n), .ref g1, .ref g2, .ref g3, .int (nI c0), .ref g4, .int my, .ref g5, .int mo, .ref g6, .int ml, .ref g7, .ref g8, .ref g9, .ref g10, .ref g11, .ref g12]))]) [0] rfl, hKN.warm hW⟩⟩ rfl rfl hl.1 rfl (lv_room (Nat.le_of_ble_eq_true rfl)) dX7_some_4 ⟨Nat.le_of_ble_eq_true rfl, Nat.le_of_ble_eq_true rfl⟩) hS hP (fun r1 H locs w1r hP hS => ?_)
  have w1 : r1 = nI (2 ^ n) := w1r
  clear w1r
  obtain rfl : r1 = nI (2 ^ n) := w1
  refine lv_iconst (v := nI 1) hx hb dX7_some_7 (by decide) ?_
  refine lv_isub hx hb dX7_some_8 ?_
  refine cn_i (y := nI ((2 ^ n) - 1)) (pk_sub (a := (2 ^ n)) (b := 1) (by omega)) ?_
  refine lv_i2l hx hb dX7_some_9 rfl ?_
  refine cn_l (y := lN ((2 ^ n) - 1)) (nI_l (by omega)) ?_
  refine pu_i (va_runS (As := [.long se.toInt64, .long (lN 0), .long (lN ((2 ^ n) - 1))]) (rest := []) ⟨hx, hb, hml, hown, hts⟩ (c_X7_in l D cI cJ cZ se.toInt64 (lN 0) (lN ((2 ^ n) - 1))) (va_cwS 3 hts gX7_some_X7_in rfl rfl rfl (by decide +kernel) ⟨Nat.le_of_ble_eq_true rfl, Nat.le_of_ble_eq_true rfl⟩) ⟨pc_blind, fun U hU hW => ⟨rfl, by rw [hU]; exact hP.sub (ws' := []) [] rfl, hKN.warm hW⟩⟩ rfl rfl hl.1 rfl (lv_room (Nat.le_of_ble_eq_true rfl)) dX7_some_10 ⟨Nat.le_of_ble_eq_true rfl, Nat.le_of_ble_eq_true rfl⟩) hS hP (fun r2 H locs w2r hP hS => ?_)
  have w2 : B01 r2 ((lN 0).toInt ≤ se.toInt64.toInt ∧ se.toInt64.toInt ≤ (lN ((2 ^ n) - 1)).toInt) := w2r
  clear w2r
  rw [lN_toInt (n := 0) (by omega), j2 se, lN_toInt (n := ((2 ^ n) - 1)) (by omega)] at w2
  rcases w2 with ⟨rfl, w2⟩ | ⟨rfl, w2⟩
  · skip
    refine lv_if_eq (tgt := 57) hx hb dX7_some_13 (by decide) (fun c3 => ?_) (fun c3 => ?_)
    · exact absurd c3 (by first | decide | exact nz_lt (by omega) | exact fun h => h (nz_ge (by omega)))
    · skip
      refine lv_iload hx hb dX7_some_16 (lv_at hl 3 rfl) ?_
      refine lv_i2l hx hb dX7_some_18 rfl ?_
      refine lv_lconst (v := lN 0) hx hb dX7_some_19 (by decide) ?_
      refine lv_ldc2 (v := lN 3) hx hb hown (hts (.constantLong RX7 86 (lN 3)) (by decide +kernel)) dX7_some_20 ?_
      refine pu_i (va_runS (As := [.long wi.toInt64, .long (lN 0), .long (lN 3)]) (rest := []) ⟨hx, hb, hml, hown, hts⟩ (c_X7_in l D cI cJ cZ wi.toInt64 (lN 0) (lN 3)) (va_cwS 3 hts gX7_some_X7_in rfl rfl rfl (by decide +kernel) ⟨Nat.le_of_ble_eq_true rfl, Nat.le_of_ble_eq_true rfl⟩) ⟨pc_blind, fun U hU hW => ⟨rfl, by rw [hU]; exact hP.sub (ws' := []) [] rfl, hKN.warm hW⟩⟩ rfl rfl hl.1 rfl (lv_room (Nat.le_of_ble_eq_true rfl)) dX7_some_23 ⟨Nat.le_of_ble_eq_true rfl, Nat.le_of_ble_eq_true rfl⟩) hS hP (fun r4 H locs w4r hP hS => ?_)
      have w4 : B01 r4 ((lN 0).toInt ≤ wi.toInt64.toInt ∧ wi.toInt64.toInt ≤ (lN 3).toInt) := w4r
      clear w4r
      rw [lN_toInt (n := 0) (by omega), j2 wi, lN_toInt (n := 3) (by omega)] at w4
      rcases w4 with ⟨rfl, w4⟩ | ⟨rfl, w4⟩
      · skip
        refine lv_if_eq (tgt := 57) hx hb dX7_some_26 (by decide) (fun c5 => ?_) (fun c5 => ?_)
        · exact absurd c5 (by first | decide | exact nz_lt (by omega) | exact fun h => h (nz_ge (by omega)))
        · skip
          refine lv_iload hx hb dX7_some_29 (lv_at hl 4 rfl) ?_
          refine lv_i2l hx hb dX7_some_31 rfl ?_
          refine lv_lconst (v := lN 0) hx hb dX7_some_32 (by decide) ?_
          refine lv_ldc2 (v := lN 100) hx hb hown (hts (.constantLong RX7 88 (lN 100)) (by decide +kernel)) dX7_some_33 ?_
          refine pu_i (va_runS (As := [.long kk.toInt64, .long (lN 0), .long (lN 100)]) (rest := []) ⟨hx, hb, hml, hown, hts⟩ (c_X7_in l D cI cJ cZ kk.toInt64 (lN 0) (lN 100)) (va_cwS 3 hts gX7_some_X7_in rfl rfl rfl (by decide +kernel) ⟨Nat.le_of_ble_eq_true rfl, Nat.le_of_ble_eq_true rfl⟩) ⟨pc_blind, fun U hU hW => ⟨rfl, by rw [hU]; exact hP.sub (ws' := []) [] rfl, hKN.warm hW⟩⟩ rfl rfl hl.1 rfl (lv_room (Nat.le_of_ble_eq_true rfl)) dX7_some_36 ⟨Nat.le_of_ble_eq_true rfl, Nat.le_of_ble_eq_true rfl⟩) hS hP (fun r6 H locs w6r hP hS => ?_)
          have w6 : B01 r6 ((lN 0).toInt ≤ kk.toInt64.toInt ∧ kk.toInt64.toInt ≤ (lN 100).toInt) := w6r
          clear w6r
          rw [lN_toInt (n := 0) (by omega), j2 kk, lN_toInt (n := 100) (by omega)] at w6
          rcases w6 with ⟨rfl, w6⟩ | ⟨rfl, w6⟩
          · skip
            refine lv_if_eq (tgt := 57) hx hb dX7_some_39 (by decide) (fun c7 => ?_) (fun c7 => ?_)
            · exact absurd c7 (by first | decide | exact nz_lt (by omega) | exact fun h => h (nz_ge (by omega)))
            · skip
              refine lv_lload_n hx hb dX7_some_42 rfl (lv_at hl 2 rfl) ?_
              refine lv_lconst (v := lN 0) hx hb dX7_some_43 (by decide) ?_
              refine W.lcmp hx hb dX7_some_44 ?_
              refine lv_if_lt (tgt := 57) hx hb dX7_some_45 (by decide) (fun c8 => ?_) (fun c8 => ?_)
              · skip
                have d8 := c8
                rw [lc_lt, j_lt, lN_toInt (n := 0) (by omega)] at d8
                refine lv_iconst (v := (-1 : Int32)) hx hb dX7_some_57 (by decide) ?_
                rw [← hQ]
                exact W.iret (v := (-1 : Int32)) hx hb hr (fun tS htS hWS => ⟨⟨(-1 : Int32), (), rfl, Or.inr ⟨rfl, by omega⟩, trivial⟩, by rw [← has]; exact hS.F htS⟩) (by rw [← has]; exact hS.2.2) dX7_some_58
              · skip
                have d8 := c8
                rw [lc_lt, j_lt, lN_toInt (n := 0) (by omega)] at d8
                refine lv_aload_n hx hb dX7_some_48 rfl (lv_at hl 0 rfl) ?_
                refine va_get (D := D) (ci := 7) (v := .int (nI c0)) (C := RX7) (T := TX7) (N := 17) hx hb hts hiX7 hown hK hP 0 rfl rfl 4 (by decide) hf59 (fun _ h9 => h9) rfl dX7_some_49 ?_
                refine lv_bipush (v := nI 40) hx hb dX7_some_52 (by decide) ?_
                refine lv_icmp_ne (tgt := 59) hx hb dX7_some_54 (by decide) (fun c9 => ?_) (fun c9 => ?_)
                · skip
                  have d9 := c9
                  rw [nI_eq (by omega) (by omega)] at d9
                  refine lv_iconst (v := nI 0) hx hb dX7_some_59 (by decide) ?_
                  refine lv_istore (lv' := [(6, .int (nI 0)), (0, .ref m0), (1, .int se), (2, .long wo), (4, .int wi), (5, .int kk)]) hx hb dX7_some_60 hl (by decide) rfl (fun ls hl => ?_)
                  have loop10 : ∀ (fu : Nat) (k : Nat) (us : Nat → Int32) (H : Heap) (locs : List Loc) (ls : Array Slot), (k ≤ 2 ^ n ∧ 2 ^ n < k + fu) → va_P D vwCl [(m0, .inr (7, [.int (nI n), .ref g1, .ref g2, .ref g3, .int (nI c0), .ref g4, .int my, .ref g5, .int mo, .ref g6, .int ml, .ref g7, .ref g8, .ref g9, .ref g10, .ref g11, .ref g12])), (g4, .inl (cZ, 20480, .inl us))] H → va_D (aA as) [(m0, .inr (7, [.int (nI n), .ref g1, .ref g2, .ref g3, .int (nI c0), .ref g4, .int my, .ref g5, .int mo, .ref g6, .int ml, .ref g7, .ref g8, .ref g9, .ref g10, .ref g11, .ref g12])), (g4, .inl (cZ, 20480, .inl us))] → va_S (aA as) s.heap H locs → lv_has ls 11 [(6, .int (nI k)), (0, .ref m0), (1, .int se), (2, .long wo), (4, .int wi), (5, .int kk)] → W p l e (headSpec wsX7_some rm_c_X7_some).room s m ([.ref m0, .int se, .long wo, .int wi, .int kk] : List Value).toArray below meth c H locs 0 0 Q (F0 m 62 ls []) := by
                    intro fu
                    induction fu with
                    | zero => intro k us H locs ls hk; exact absurd hk (by omega)
                    | succ fu ih10 =>
                      intro k us H locs ls hk hP hD hS hl
                      refine lv_iload hx hb dX7_some_62 (lv_at hl 0 rfl) ?_
                      refine lv_aload_n hx hb dX7_some_64 rfl (lv_at hl 1 rfl) ?_
                      refine pu_i (va_runV (As := []) (rest := [.int (nI k)]) ⟨hx, hb, hml, hown, hts⟩ (c_X7_settings l D cI cJ cZ m0 g1 g2 g3 g4 g5 g6 g7 g8 g9 g10 g11 g12 n (nI c0) my mo ml (by first | assumption | omega)) (cwV 0 hts gX7_some_X7_settings rfl rfl rfl (by decide +kernel) ⟨Nat.le_of_ble_eq_true rfl, Nat.le_of_ble_eq_true rfl⟩) ⟨pc_blind, va_recv hK hP (ci := 7) (q0 := 0) rfl rfl, fun U hU hW => ⟨rfl, by rw [hU]; exact hP.sub (ws' := [(m0, .inr (7, [.int (nI n), .ref g1, .ref g2, .ref g3, .int (nI c0), .ref g4, .int my, .ref g5, .int mo, .ref g6, .int ml, .ref g7, .ref g8, .ref g9, .ref g10, .ref g11, .ref g12]))]) [0] rfl, hKN.warm hW⟩⟩ rfl rfl hl.1 rfl (lv_room (Nat.le_of_ble_eq_true rfl)) dX7_some_65 ⟨Nat.le_of_ble_eq_true rfl, Nat.le_of_ble_eq_true rfl⟩) hS hP (fun r11 H locs w11r hP hS => ?_)
                      have w11 : r11 = nI (2 ^ n) := w11r
                      clear w11r
                      obtain rfl : r11 = nI (2 ^ n) := w11
                      refine lv_icmp_ge (tgt := 193) hx hb dX7_some_68 (by decide) (fun c12 => ?_) (fun c12 => ?_)
                      · skip
                        have d12 := c12
                        rw [nI_leI (by omega) (by omega)] at d12
                        refine lv_aload_n hx hb dX7_some_193 rfl (lv_at hl 1 rfl) ?_
                        refine mu_i (n := 2) (wc := [(m0, .inr (7, [.int (nI n), .ref g1, .ref g2, .ref g3, .int (nI c0), .ref g4, .int my, .ref g5, .int mo, .ref g6, .int ml, .ref g7, .ref g8, .ref g9, .ref g10, .ref g11, .ref g12]))]) (va_runV (As := []) (rest := []) ⟨hx, hb, hml, hown, hts⟩ (c_X7_added l D cI cJ cZ m0 g1 g2 g3 g4 g5 g6 g7 g8 g9 g10 g11 g12 c0 (nI n) my mo ml (by first | assumption | omega)) (cwV 0 hts gX7_some_X7_added rfl rfl rfl (by decide +kernel) ⟨Nat.le_of_ble_eq_true rfl, Nat.le_of_ble_eq_true rfl⟩) ⟨pm_blind, va_recv hK hP (ci := 7) (q0 := 0) rfl rfl, fun U hU hW => ⟨rfl, by rw [hU]; exact hP.sub (ws' := [(m0, .inr (7, [.int (nI n), .ref g1, .ref g2, .ref g3, .int (nI c0), .ref g4, .int my, .ref g5, .int mo, .ref g6, .int ml, .ref g7, .ref g8, .ref g9, .ref g10, .ref g11, .ref g12]))]) [0] rfl, hKN.warm hW, (hD.sub (ws' := [(m0, .inr (7, [.int (nI n), .ref g1, .ref g2, .ref g3, .int (nI c0), .ref g4, .int my, .ref g5, .int mo, .ref g6, .int ml, .ref g7, .ref g8, .ref g9, .ref g10, .ref g11, .ref g12]))]) [0] (by decide) rfl).weaken (fun _ _ _ _ => trivial)⟩⟩ rfl rfl hl.1 rfl (lv_room (Nat.le_of_ble_eq_true rfl)) dX7_some_194 ⟨Nat.le_of_ble_eq_true rfl, Nat.le_of_ble_eq_true rfl⟩) hS hP hD (fun (u : Unit) => [(m0, .inr (7, [.int (nI n), .ref g1, .ref g2, .ref g3, .int (nI (c0 + 1)), .ref g4, .int my, .ref g5, .int mo, .ref g6, .int ml, .ref g7, .ref g8, .ref g9, .ref g10, .ref g11, .ref g12])), (g4, .inl (cZ, 20480, .inl us))]) [0] [1] rfl rfl (fun _ => rfl) (fun _ => rfl) (fun _ => rfl) (fun _ => rfl) (by decide) (by decide) (fun r13 u13 H locs w13r hP hD hS => ?_)
                        have hP : va_P D vwCl [(m0, .inr (7, [.int (nI n), .ref g1, .ref g2, .ref g3, .int (nI (c0 + 1)), .ref g4, .int my, .ref g5, .int mo, .ref g6, .int ml, .ref g7, .ref g8, .ref g9, .ref g10, .ref g11, .ref g12])), (g4, .inl (cZ, 20480, .inl us))] H := hP
                        have hD : va_D (aA as) [(m0, .inr (7, [.int (nI n), .ref g1, .ref g2, .ref g3, .int (nI (c0 + 1)), .ref g4, .int my, .ref g5, .int mo, .ref g6, .int ml, .ref g7, .ref g8, .ref g9, .ref g10, .ref g11, .ref g12])), (g4, .inl (cZ, 20480, .inl us))] := hD
                        have w13 : r13 = nI c0 := w13r
                        clear w13r
                        rw [← hQ]
                        exact W.iret (v := r13) hx hb hr (fun tS htS hWS => ⟨⟨r13, (), rfl, Or.inl ⟨by first | rfl | assumption, by omega⟩, trivial⟩, by rw [← has]; exact hS.F htS⟩) (by rw [← has]; exact hS.2.2) dX7_some_197
                      · skip
                        have d12 := c12
                        rw [nI_leI (by omega) (by omega)] at d12
                        refine lv_iconst (v := nI 0) hx hb dX7_some_71 (by decide) ?_
                        refine lv_istore (lv' := [(7, .int (nI 0)), (6, .int (nI k)), (0, .ref m0), (1, .int se), (2, .long wo), (4, .int wi), (5, .int kk)]) hx hb dX7_some_72 hl (by decide) rfl (fun ls hl => ?_)
                        refine lv_iconst (v := nI 0) hx hb dX7_some_74 (by decide) ?_
                        refine lv_istore (lv' := [(8, .int (nI 0)), (7, .int (nI 0)), (6, .int (nI k)), (0, .ref m0), (1, .int se), (2, .long wo), (4, .int wi), (5, .int kk)]) hx hb dX7_some_75 hl (by decide) rfl (fun ls hl => ?_)
                        refine lv_iconst (v := nI 0) hx hb dX7_some_77 (by decide) ?_
                        refine lv_istore (lv' := [(9, .int (nI 0)), (8, .int (nI 0)), (7, .int (nI 0)), (6, .int (nI k)), (0, .ref m0), (1, .int se), (2, .long wo), (4, .int wi), (5, .int kk)]) hx hb dX7_some_78 hl (by decide) rfl (fun ls hl => ?_)
                        have loop14 : ∀ (fu : Nat) (k2 : Nat) (v7 : Int32) (v8 : Int32) (H : Heap) (locs : List Loc) (ls : Array Slot), (k2 ≤ n ∧ n < k2 + fu) → va_P D vwCl [(m0, .inr (7, [.int (nI n), .ref g1, .ref g2, .ref g3, .int (nI c0), .ref g4, .int my, .ref g5, .int mo, .ref g6, .int ml, .ref g7, .ref g8, .ref g9, .ref g10, .ref g11, .ref g12])), (g4, .inl (cZ, 20480, .inl us))] H → va_D (aA as) [(m0, .inr (7, [.int (nI n), .ref g1, .ref g2, .ref g3, .int (nI c0), .ref g4, .int my, .ref g5, .int mo, .ref g6, .int ml, .ref g7, .ref g8, .ref g9, .ref g10, .ref g11, .ref g12])), (g4, .inl (cZ, 20480, .inl us))] → va_S (aA as) s.heap H locs → lv_has ls 11 [(9, .int (nI k2)), (8, .int v8), (7, .int v7), (6, .int (nI k)), (0, .ref m0), (1, .int se), (2, .long wo), (4, .int wi), (5, .int kk)] → W p l e (headSpec wsX7_some rm_c_X7_some).room s m ([.ref m0, .int se, .long wo, .int wi, .int kk] : List Value).toArray below meth c H locs 0 0 Q (F0 m 80 ls []) := by
                          intro fu
                          induction fu with
                          | zero => intro k2 v7 v8 H locs ls hk2; exact absurd hk2 (by omega)
                          | succ fu ih14 =>
                            intro k2 v7 v8 H locs ls hk2 hP hD hS hl
                            have hs1 := sb_lt se k2
                            refine lv_iload hx hb dX7_some_80 (lv_at hl 0 rfl) ?_
                            refine lv_aload_n hx hb dX7_some_82 rfl (lv_at hl 4 rfl) ?_
                            refine va_get (D := D) (ci := 7) (v := .int (nI n)) (C := RX7) (T := TX7) (N := 17) hx hb hts hiX7 hown hK hP 0 rfl rfl 0 (by decide) hf7 (fun _ h9 => h9) rfl dX7_some_83 ?_
                            refine lv_icmp_ge (tgt := 159) hx hb dX7_some_86 (by decide) (fun c15 => ?_) (fun c15 => ?_)
                            · skip
                              have d15 := c15
                              rw [nI_leI (by omega) (by omega)] at d15
                              refine lv_aload_n hx hb dX7_some_159 rfl (lv_at hl 4 rfl) ?_
                              refine va_get (D := D) (ci := 7) (v := .ref g4) (C := RX7) (T := TX7) (N := 17) hx hb hts hiX7 hown hK hP 0 rfl rfl 5 (by decide) hf23 (fun _ h9 => h9) rfl dX7_some_160 ?_
                              refine lv_sipush (v := nI 512) hx hb dX7_some_163 (by decide) ?_
                              refine lv_aload_n hx hb dX7_some_166 rfl (lv_at hl 4 rfl) ?_
                              refine va_get (D := D) (ci := 7) (v := .int (nI c0)) (C := RX7) (T := TX7) (N := 17) hx hb hts hiX7 hown hK hP 0 rfl rfl 4 (by decide) hf59 (fun _ h9 => h9) rfl dX7_some_167 ?_
                              refine lv_imul hx hb dX7_some_170 ?_
                              refine cn_i (y := nI (512 * c0)) (pk_mul 512 c0) ?_
                              refine lv_iload hx hb dX7_some_171 (lv_at hl 3 rfl) ?_
                              refine lv_iadd hx hb dX7_some_173 ?_
                              refine cn_i (y := nI ((512 * c0) + k)) (nI_add (512 * c0) k) ?_
                              refine lv_iload hx hb dX7_some_174 (lv_at hl 2 rfl) ?_
                              refine lv_iload hx hb dX7_some_176 (lv_at hl 8 rfl) ?_
                              refine lv_icmp_lt (tgt := 185) hx hb dX7_some_178 (by decide) (fun c16 => ?_) (fun c16 => ?_)
                              · skip
                                have d16 := c16
                                rw [i_lt] at d16
                                refine lv_iconst (v := nI 0) hx hb dX7_some_185 (by decide) ?_
                                refine va_zast hx hb hK hP hD hS 1 2 rfl rfl (i := nI ((512 * c0) + k)) (vp_in_nI (by omega) (by omega)) dX7_some_186 (fun H locs hP hD hS => ?_)
                                have hP : va_P D vwCl [(m0, .inr (7, [.int (nI n), .ref g1, .ref g2, .ref g3, .int (nI c0), .ref g4, .int my, .ref g5, .int mo, .ref g6, .int ml, .ref g7, .ref g8, .ref g9, .ref g10, .ref g11, .ref g12])), (g4, .inl (cZ, 20480, .inl (upd us (nI ((512 * c0) + k)).toNatClampNeg (vp_nar .boolean (nI 0)))))] H := hP
                                have hD : va_D (aA as) [(m0, .inr (7, [.int (nI n), .ref g1, .ref g2, .ref g3, .int (nI c0), .ref g4, .int my, .ref g5, .int mo, .ref g6, .int ml, .ref g7, .ref g8, .ref g9, .ref g10, .ref g11, .ref g12])), (g4, .inl (cZ, 20480, .inl (upd us (nI ((512 * c0) + k)).toNatClampNeg (vp_nar .boolean (nI 0)))))] := hD
                                rw [nI_clamp (n := ((512 * c0) + k)) (by omega)] at hP hD
                                refine lv_iinc (v := nI (k + 1)) (lv' := [(6, .int (nI (k + 1))), (9, .int (nI k2)), (8, .int v8), (7, .int v7), (0, .ref m0), (1, .int se), (2, .long wo), (4, .int wi), (5, .int kk)]) hx hb dX7_some_187 hl (k := 3) rfl (nI_1 k) (by decide) rfl (fun ls hl => ?_)
                                refine lv_goto (tgt := 62) hx hb dX7_some_190 (by decide) ?_
                                exact ih10 (k + 1) (upd us ((512 * c0) + k) (vp_nar .boolean (nI 0))) _ _ _ (by omega) hP hD hS (lv_sub hl [0, 4, 5, 6, 7, 8] rfl)
                              · skip
                                have d16 := c16
                                rw [i_lt] at d16
                                refine lv_iconst (v := nI 1) hx hb dX7_some_181 (by decide) ?_
                                refine lv_goto (tgt := 186) hx hb dX7_some_182 (by decide) ?_
                                refine va_zast hx hb hK hP hD hS 1 2 rfl rfl (i := nI ((512 * c0) + k)) (vp_in_nI (by omega) (by omega)) dX7_some_186 (fun H locs hP hD hS => ?_)
                                have hP : va_P D vwCl [(m0, .inr (7, [.int (nI n), .ref g1, .ref g2, .ref g3, .int (nI c0), .ref g4, .int my, .ref g5, .int mo, .ref g6, .int ml, .ref g7, .ref g8, .ref g9, .ref g10, .ref g11, .ref g12])), (g4, .inl (cZ, 20480, .inl (upd us (nI ((512 * c0) + k)).toNatClampNeg (vp_nar .boolean (nI 1)))))] H := hP
                                have hD : va_D (aA as) [(m0, .inr (7, [.int (nI n), .ref g1, .ref g2, .ref g3, .int (nI c0), .ref g4, .int my, .ref g5, .int mo, .ref g6, .int ml, .ref g7, .ref g8, .ref g9, .ref g10, .ref g11, .ref g12])), (g4, .inl (cZ, 20480, .inl (upd us (nI ((512 * c0) + k)).toNatClampNeg (vp_nar .boolean (nI 1)))))] := hD
                                rw [nI_clamp (n := ((512 * c0) + k)) (by omega)] at hP hD
                                refine lv_iinc (v := nI (k + 1)) (lv' := [(6, .int (nI (k + 1))), (9, .int (nI k2)), (8, .int v8), (7, .int v7), (0, .ref m0), (1, .int se), (2, .long wo), (4, .int wi), (5, .int kk)]) hx hb dX7_some_187 hl (k := 3) rfl (nI_1 k) (by decide) rfl (fun ls hl => ?_)
                                refine lv_goto (tgt := 62) hx hb dX7_some_190 (by decide) ?_
                                exact ih10 (k + 1) (upd us ((512 * c0) + k) (vp_nar .boolean (nI 1))) _ _ _ (by omega) hP hD hS (lv_sub hl [0, 4, 5, 6, 7, 8] rfl)
                            · skip
                              have d15 := c15
                              rw [nI_leI (by omega) (by omega)] at d15
                              refine lv_iload_n hx hb dX7_some_89 rfl (lv_at hl 5 rfl) ?_
                              refine lv_iload hx hb dX7_some_90 (lv_at hl 0 rfl) ?_
                              refine lv_ishr hx hb dX7_some_92 ?_
                              refine lv_iconst (v := nI 1) hx hb dX7_some_93 (by decide) ?_
                              refine lv_iand hx hb dX7_some_94 ?_
                              refine cn_i (y := nI (sb se k2)) (sb_ok se k2) ?_
                              refine lv_if_ne (tgt := 101) hx hb dX7_some_95 (by decide) (fun c17 => ?_) (fun c17 => ?_)
                              · skip
                                have d17 := c17
                                rw [nz_eq (by omega)] at d17
                                refine lv_iload hx hb dX7_some_101 (lv_at hl 7 rfl) ?_
                                refine lv_if_ne (tgt := 110) hx hb dX7_some_103 (by decide) (fun c18 => ?_) (fun c18 => ?_)
                                · skip
                                  have d18 := c18
                                  rw [i_eq, i_z] at d18
                                  refine lv_lload_n hx hb dX7_some_110 rfl (lv_at hl 6 rfl) ?_
                                  refine lv_iload hx hb dX7_some_111 (lv_at hl 1 rfl) ?_
                                  refine lv_lshr hx hb dX7_some_113 rfl ?_
                                  refine lv_lconst (v := lN 1) hx hb dX7_some_114 (by decide) ?_
                                  refine lv_iload hx hb dX7_some_115 (lv_at hl 7 rfl) ?_
                                  refine lv_lshl hx hb dX7_some_117 rfl ?_
                                  refine lv_lconst (v := lN 1) hx hb dX7_some_118 (by decide) ?_
                                  refine lv_lsub hx hb dX7_some_119 ?_
                                  refine lv_land hx hb dX7_some_120 ?_
                                  refine lv_l2i hx hb dX7_some_121 rfl ?_
                                  refine lv_istore (lv' := [(10, .int (((wo >>> (v8.toInt64 &&& 63)) &&& (((lN 1) <<< (wi.toInt64 &&& 63)) - (lN 1))).toInt32)), (9, .int (nI k2)), (8, .int v8), (7, .int v7), (6, .int (nI k)), (0, .ref m0), (1, .int se), (2, .long wo), (4, .int wi), (5, .int kk)]) hx hb dX7_some_122 hl (by decide) rfl (fun ls hl => ?_)
                                  refine lv_iload hx hb dX7_some_124 (lv_at hl 2 rfl) ?_
                                  refine lv_iload hx hb dX7_some_126 (lv_at hl 8 rfl) ?_
                                  refine lv_iadd hx hb dX7_some_128 ?_
                                  refine lv_istore (lv' := [(8, .int (v8 + wi)), (10, .int (((wo >>> (v8.toInt64 &&& 63)) &&& (((lN 1) <<< (wi.toInt64 &&& 63)) - (lN 1))).toInt32)), (9, .int (nI k2)), (7, .int v7), (6, .int (nI k)), (0, .ref m0), (1, .int se), (2, .long wo), (4, .int wi), (5, .int kk)]) hx hb dX7_some_129 hl (by decide) rfl (fun ls hl => ?_)
                                  refine lv_iload hx hb dX7_some_131 (lv_at hl 3 rfl) ?_
                                  refine lv_iload hx hb dX7_some_133 (lv_at hl 4 rfl) ?_
                                  refine lv_iload hx hb dX7_some_135 (lv_at hl 2 rfl) ?_
                                  refine lv_ishr hx hb dX7_some_137 ?_
                                  refine cn_i (y := nI (k / 2 ^ k2)) (m_shr (by omega) (by omega)) ?_
                                  refine lv_iconst (v := nI 1) hx hb dX7_some_138 (by decide) ?_
                                  refine lv_iand hx hb dX7_some_139 ?_
                                  refine cn_i (y := nI ((k / 2 ^ k2) % 2)) (m_andn1 (Nat.lt_of_le_of_lt (Nat.div_le_self _ _) (by omega))) ?_
                                  refine lv_iconst (v := nI 1) hx hb dX7_some_140 (by decide) ?_
                                  refine lv_icmp_ne (tgt := 149) hx hb dX7_some_141 (by decide) (fun c19 => ?_) (fun c19 => ?_)
                                  · skip
                                    have d19 := c19
                                    rw [nI_eq (by omega) (by omega)] at d19
                                    refine lv_iconst (v := nI 0) hx hb dX7_some_149 (by decide) ?_
                                    refine lv_iadd hx hb dX7_some_150 ?_
                                    refine lv_istore (lv' := [(7, .int (v7 + (nI 0))), (8, .int (v8 + wi)), (10, .int (((wo >>> (v8.toInt64 &&& 63)) &&& (((lN 1) <<< (wi.toInt64 &&& 63)) - (lN 1))).toInt32)), (9, .int (nI k2)), (6, .int (nI k)), (0, .ref m0), (1, .int se), (2, .long wo), (4, .int wi), (5, .int kk)]) hx hb dX7_some_151 hl (by decide) rfl (fun ls hl => ?_)
                                    refine lv_iinc (v := nI (k2 + 1)) (lv' := [(9, .int (nI (k2 + 1))), (7, .int (v7 + (nI 0))), (8, .int (v8 + wi)), (10, .int (((wo >>> (v8.toInt64 &&& 63)) &&& (((lN 1) <<< (wi.toInt64 &&& 63)) - (lN 1))).toInt32)), (6, .int (nI k)), (0, .ref m0), (1, .int se), (2, .long wo), (4, .int wi), (5, .int kk)]) hx hb dX7_some_153 hl (k := 3) rfl (nI_1 k2) (by decide) rfl (fun ls hl => ?_)
                                    refine lv_goto (tgt := 80) hx hb dX7_some_156 (by decide) ?_
                                    exact ih14 (k2 + 1) (v7 + (nI 0)) (v8 + wi) _ _ _ (by omega) hP hD hS (lv_sub hl [0, 2, 1, 4, 5, 6, 7, 8, 9] rfl)
                                  · skip
                                    have d19 := c19
                                    rw [nI_eq (by omega) (by omega)] at d19
                                    refine lv_iload hx hb dX7_some_144 (lv_at hl 1 rfl) ?_
                                    refine lv_goto (tgt := 150) hx hb dX7_some_146 (by decide) ?_
                                    refine lv_iadd hx hb dX7_some_150 ?_
                                    refine lv_istore (lv' := [(7, .int (v7 + (((wo >>> (v8.toInt64 &&& 63)) &&& (((lN 1) <<< (wi.toInt64 &&& 63)) - (lN 1))).toInt32))), (8, .int (v8 + wi)), (10, .int (((wo >>> (v8.toInt64 &&& 63)) &&& (((lN 1) <<< (wi.toInt64 &&& 63)) - (lN 1))).toInt32)), (9, .int (nI k2)), (6, .int (nI k)), (0, .ref m0), (1, .int se), (2, .long wo), (4, .int wi), (5, .int kk)]) hx hb dX7_some_151 hl (by decide) rfl (fun ls hl => ?_)
                                    refine lv_iinc (v := nI (k2 + 1)) (lv' := [(9, .int (nI (k2 + 1))), (7, .int (v7 + (((wo >>> (v8.toInt64 &&& 63)) &&& (((lN 1) <<< (wi.toInt64 &&& 63)) - (lN 1))).toInt32))), (8, .int (v8 + wi)), (10, .int (((wo >>> (v8.toInt64 &&& 63)) &&& (((lN 1) <<< (wi.toInt64 &&& 63)) - (lN 1))).toInt32)), (6, .int (nI k)), (0, .ref m0), (1, .int se), (2, .long wo), (4, .int wi), (5, .int kk)]) hx hb dX7_some_153 hl (k := 3) rfl (nI_1 k2) (by decide) rfl (fun ls hl => ?_)
                                    refine lv_goto (tgt := 80) hx hb dX7_some_156 (by decide) ?_
                                    exact ih14 (k2 + 1) (v7 + (((wo >>> (v8.toInt64 &&& 63)) &&& (((lN 1) <<< (wi.toInt64 &&& 63)) - (lN 1))).toInt32)) (v8 + wi) _ _ _ (by omega) hP hD hS (lv_sub hl [0, 2, 1, 4, 5, 6, 7, 8, 9] rfl)
                                · skip
                                  have d18 := c18
                                  rw [i_eq, i_z] at d18
                                  refine lv_iconst (v := nI 1) hx hb dX7_some_106 (by decide) ?_
                                  refine lv_goto (tgt := 122) hx hb dX7_some_107 (by decide) ?_
                                  refine lv_istore (lv' := [(10, .int (nI 1)), (9, .int (nI k2)), (8, .int v8), (7, .int v7), (6, .int (nI k)), (0, .ref m0), (1, .int se), (2, .long wo), (4, .int wi), (5, .int kk)]) hx hb dX7_some_122 hl (by decide) rfl (fun ls hl => ?_)
                                  refine lv_iload hx hb dX7_some_124 (lv_at hl 2 rfl) ?_
                                  refine lv_iload hx hb dX7_some_126 (lv_at hl 8 rfl) ?_
                                  refine lv_iadd hx hb dX7_some_128 ?_
                                  refine lv_istore (lv' := [(8, .int (v8 + wi)), (10, .int (nI 1)), (9, .int (nI k2)), (7, .int v7), (6, .int (nI k)), (0, .ref m0), (1, .int se), (2, .long wo), (4, .int wi), (5, .int kk)]) hx hb dX7_some_129 hl (by decide) rfl (fun ls hl => ?_)
                                  refine lv_iload hx hb dX7_some_131 (lv_at hl 3 rfl) ?_
                                  refine lv_iload hx hb dX7_some_133 (lv_at hl 4 rfl) ?_
                                  refine lv_iload hx hb dX7_some_135 (lv_at hl 2 rfl) ?_
                                  refine lv_ishr hx hb dX7_some_137 ?_
                                  refine cn_i (y := nI (k / 2 ^ k2)) (m_shr (by omega) (by omega)) ?_
                                  refine lv_iconst (v := nI 1) hx hb dX7_some_138 (by decide) ?_
                                  refine lv_iand hx hb dX7_some_139 ?_
                                  refine cn_i (y := nI ((k / 2 ^ k2) % 2)) (m_andn1 (Nat.lt_of_le_of_lt (Nat.div_le_self _ _) (by omega))) ?_
                                  refine lv_iconst (v := nI 1) hx hb dX7_some_140 (by decide) ?_
                                  refine lv_icmp_ne (tgt := 149) hx hb dX7_some_141 (by decide) (fun c20 => ?_) (fun c20 => ?_)
                                  · skip
                                    have d20 := c20
                                    rw [nI_eq (by omega) (by omega)] at d20
                                    refine lv_iconst (v := nI 0) hx hb dX7_some_149 (by decide) ?_
                                    refine lv_iadd hx hb dX7_some_150 ?_
                                    refine lv_istore (lv' := [(7, .int (v7 + (nI 0))), (8, .int (v8 + wi)), (10, .int (nI 1)), (9, .int (nI k2)), (6, .int (nI k)), (0, .ref m0), (1, .int se), (2, .long wo), (4, .int wi), (5, .int kk)]) hx hb dX7_some_151 hl (by decide) rfl (fun ls hl => ?_)
                                    refine lv_iinc (v := nI (k2 + 1)) (lv' := [(9, .int (nI (k2 + 1))), (7, .int (v7 + (nI 0))), (8, .int (v8 + wi)), (10, .int (nI 1)), (6, .int (nI k)), (0, .ref m0), (1, .int se), (2, .long wo), (4, .int wi), (5, .int kk)]) hx hb dX7_some_153 hl (k := 3) rfl (nI_1 k2) (by decide) rfl (fun ls hl => ?_)
                                    refine lv_goto (tgt := 80) hx hb dX7_some_156 (by decide) ?_
                                    exact ih14 (k2 + 1) (v7 + (nI 0)) (v8 + wi) _ _ _ (by omega) hP hD hS (lv_sub hl [0, 2, 1, 4, 5, 6, 7, 8, 9] rfl)
                                  · skip
                                    have d20 := c20
                                    rw [nI_eq (by omega) (by omega)] at d20
                                    refine lv_iload hx hb dX7_some_144 (lv_at hl 1 rfl) ?_
                                    refine lv_goto (tgt := 150) hx hb dX7_some_146 (by decide) ?_
                                    refine lv_iadd hx hb dX7_some_150 ?_
                                    refine lv_istore (lv' := [(7, .int (v7 + (nI 1))), (8, .int (v8 + wi)), (10, .int (nI 1)), (9, .int (nI k2)), (6, .int (nI k)), (0, .ref m0), (1, .int se), (2, .long wo), (4, .int wi), (5, .int kk)]) hx hb dX7_some_151 hl (by decide) rfl (fun ls hl => ?_)
                                    refine lv_iinc (v := nI (k2 + 1)) (lv' := [(9, .int (nI (k2 + 1))), (7, .int (v7 + (nI 1))), (8, .int (v8 + wi)), (10, .int (nI 1)), (6, .int (nI k)), (0, .ref m0), (1, .int se), (2, .long wo), (4, .int wi), (5, .int kk)]) hx hb dX7_some_153 hl (k := 3) rfl (nI_1 k2) (by decide) rfl (fun ls hl => ?_)
                                    refine lv_goto (tgt := 80) hx hb dX7_some_156 (by decide) ?_
                                    exact ih14 (k2 + 1) (v7 + (nI 1)) (v8 + wi) _ _ _ (by omega) hP hD hS (lv_sub hl [0, 2, 1, 4, 5, 6, 7, 8, 9] rfl)
                              · skip
                                have d17 := c17
                                rw [nz_eq (by omega)] at d17
                                refine lv_goto (tgt := 153) hx hb dX7_some_98 (by decide) ?_
                                refine lv_iinc (v := nI (k2 + 1)) (lv' := [(9, .int (nI (k2 + 1))), (8, .int v8), (7, .int v7), (6, .int (nI k)), (0, .ref m0), (1, .int se), (2, .long wo), (4, .int wi), (5, .int kk)]) hx hb dX7_some_153 hl (k := 0) rfl (nI_1 k2) (by decide) rfl (fun ls hl => ?_)
                                refine lv_goto (tgt := 80) hx hb dX7_some_156 (by decide) ?_
                                exact ih14 (k2 + 1) v7 v8 _ _ _ (by omega) hP hD hS (lv_sub hl [0, 1, 2, 3, 4, 5, 6, 7, 8] rfl)
                        exact loop14 (n + 1) 0 (nI 0) (nI 0) _ _ _ (by omega) hP hD hS (lv_sub hl [0, 1, 2, 3, 4, 5, 6, 7, 8] rfl)
                  exact loop10 (2 ^ n + 1) 0 fs _ _ _ (by omega) hP hD hS (lv_sub hl [0, 1, 2, 3, 4, 5] rfl)
                · skip
                  have d9 := c9
                  rw [nI_eq (by omega) (by omega)] at d9
                  refine lv_iconst (v := (-1 : Int32)) hx hb dX7_some_57 (by decide) ?_
                  rw [← hQ]
                  exact W.iret (v := (-1 : Int32)) hx hb hr (fun tS htS hWS => ⟨⟨(-1 : Int32), (), rfl, Or.inr ⟨rfl, by omega⟩, trivial⟩, by rw [← has]; exact hS.F htS⟩) (by rw [← has]; exact hS.2.2) dX7_some_58
          · skip
            refine lv_if_eq (tgt := 57) hx hb dX7_some_39 (by decide) (fun c21 => ?_) (fun c21 => ?_)
            · skip
              refine lv_iconst (v := (-1 : Int32)) hx hb dX7_some_57 (by decide) ?_
              rw [← hQ]
              exact W.iret (v := (-1 : Int32)) hx hb hr (fun tS htS hWS => ⟨⟨(-1 : Int32), (), rfl, Or.inr ⟨rfl, by omega⟩, trivial⟩, by rw [← has]; exact hS.F htS⟩) (by rw [← has]; exact hS.2.2) dX7_some_58
            · exact absurd c21 (by first | decide | exact nz_lt (by omega) | exact fun h => h (nz_ge (by omega)))
      · skip
        refine lv_if_eq (tgt := 57) hx hb dX7_some_26 (by decide) (fun c22 => ?_) (fun c22 => ?_)
        · skip
          refine lv_iconst (v := (-1 : Int32)) hx hb dX7_some_57 (by decide) ?_
          rw [← hQ]
          exact W.iret (v := (-1 : Int32)) hx hb hr (fun tS htS hWS => ⟨⟨(-1 : Int32), (), rfl, Or.inr ⟨rfl, by omega⟩, trivial⟩, by rw [← has]; exact hS.F htS⟩) (by rw [← has]; exact hS.2.2) dX7_some_58
        · exact absurd c22 (by first | decide | exact nz_lt (by omega) | exact fun h => h (nz_ge (by omega)))
  · skip
    refine lv_if_eq (tgt := 57) hx hb dX7_some_13 (by decide) (fun c23 => ?_) (fun c23 => ?_)
    · skip
      refine lv_iconst (v := (-1 : Int32)) hx hb dX7_some_57 (by decide) ?_
      rw [← hQ]
      exact W.iret (v := (-1 : Int32)) hx hb hr (fun tS htS hWS => ⟨⟨(-1 : Int32), (), rfl, Or.inr ⟨rfl, by omega⟩, trivial⟩, by rw [← has]; exact hS.F htS⟩) (by rw [← has]; exact hS.2.2) dX7_some_58
    · exact absurd c23 (by first | decide | exact nz_lt (by omega) | exact fun h => h (nz_ge (by omega)))
def rm_c_X7_row : Room := { frames := 2, cells := 0, slots := 0, locals := 46 }
set_option maxHeartbeats 400000 in
set_option maxRecDepth 100000 in
theorem c_X7_row (l : Launch) (D : va_G) (cI cJ cZ : ClassId) (m0 : Nat) (g1 : Nat) (g2 : Nat) (g3 : Nat) (g4 : Nat) (g5 : Nat) (g6 : Nat) (g7 : Nat) (g8 : Nat) (g9 : Nat) (g10 : Nat) (g11 : Nat) (g12 : Nat) (mp : Int32) (my : Int32) (mo : Int32) (ml : Int32) (p0 : Int32) (p1 : Int32)  : Met l yX7_row wsX7_row rm_c_X7_row (pc_ D cI cJ cZ [.ref m0, .int p0, .int p1] [(m0, .inr (7, [.int mp, .ref g1, .ref g2, .ref g3, .int (nI 0), .ref g4, .int my, .ref g5, .int mo, .ref g6, .int ml, .ref g7, .ref g8, .ref g9, .ref g10, .ref g11, .ref g12]))]) (va_Qi (fun (r : Int32) (_ : Unit) => r = -1) (fun _ _ => True) aN) 0 0 aN := by
  refine Met.ofW (cc := cX7_row) (maxL := 4) (ret := (some .int)) (by decide) rfl ?_
  intro p e s m args below meth c s₁ B hml hv
  obtain ⟨rfl, hP, hKN⟩ := hv
  have hK := hKN.1
  have hx := B.exec
  have hb := B.bytes
  have hr := B.returns
  have hts := atoms_spec (ws := wsX7_row) B.pre
  have hown : s.vm.findClass RX7 = some m.cls := findClass_of_methodNamed B.named
  have hlocks := B.notSynchronized
  have hS : va_S aN s.heap s.heap [] := va_S.rf
  have hl := lv_entry ([.ref m0, .int p0, .int p1]) (n := 4) (Nat.le_of_ble_eq_true rfl)
  rw [lg_entry_eq]
  generalize (lg_sl ([.ref m0, .int p0, .int p1]) ++ List.replicate (4 - (lg_sl ([.ref m0, .int p0, .int p1])).length) Slot.unset).toArray = ls at hl ⊢
  have hl : lv_has ls 4 [(0, .ref m0), (1, .int p0), (2, .int p1)] := hl
  generalize hQ : MQ below _ _ s _ _ _ = Q
  obtain ⟨H, hH⟩ : ∃ z, z = s.heap := ⟨_, rfl⟩
  have hP : va_P D vwCl [(m0, .inr (7, [.int mp, .ref g1, .ref g2, .ref g3, .int (nI 0), .ref g4, .int my, .ref g5, .int mo, .ref g6, .int ml, .ref g7, .ref g8, .ref g9, .ref g10, .ref g11, .ref g12]))] H := by rw [hH]; exact hP
  have hS : va_S aN s.heap H [] := by rw [hH]; exact hS
  refine m_heap hH ?_
  clear hH
  refine lv_aload_n hx hb dX7_row_0 rfl (lv_at hl 0 rfl) ?_
  refine lv_iload_n hx hb dX7_row_1 rfl (lv_at hl 1 rfl) ?_
  refine pu_i (va_runV (As := [.int p0]) (rest := []) ⟨hx, hb, hml, hown, hts⟩ (c_X7_isRule l D cI cJ cZ m0 g1 g2 g3 g4 g5 g6 g7 g8 g9 g10 g11 g12 0 mp my mo ml p0 (by first | assumption | omega)) (cwV 1 hts gX7_row_X7_isRule rfl rfl rfl (by decide +kernel) ⟨Nat.le_of_ble_eq_true rfl, Nat.le_of_ble_eq_true rfl⟩) ⟨pc_blind, va_recv hK hP (ci := 7) (q0 := 0) rfl rfl, fun U hU hW => ⟨rfl, by rw [hU]; exact hP.sub (ws' := [(m0, .inr (7, [.int mp, .ref g1, .ref g2, .ref g3, .int (nI 0), .ref g4, .int my, .ref g5, .int mo, .ref g6, .int ml, .ref g7, .ref g8, .ref g9, .ref g10, .ref g11, .ref g12]))]) [0] rfl, hKN.warm hW⟩⟩ rfl rfl hl.1 rfl (lv_room (Nat.le_of_ble_eq_true rfl)) dX7_row_2 ⟨Nat.le_of_ble_eq_true rfl, Nat.le_of_ble_eq_true rfl⟩) hS hP (fun r1 H locs w1r hP hS => ?_)
  have w1 : B01 r1 (0 ≤ p0.toInt ∧ p0.toInt < 0) := w1r
  clear w1r
  rcases w1 with ⟨rfl, w1⟩ | ⟨rfl, w1⟩
  · exact absurd w1 (by omega)
  · skip
    refine lv_if_eq (tgt := 25) hx hb dX7_row_5 (by decide) (fun c2 => ?_) (fun c2 => ?_)
    · skip
      refine lv_iconst (v := (-1 : Int32)) hx hb dX7_row_25 (by decide) ?_
      rw [← hQ]
      exact W.iret (v := (-1 : Int32)) hx hb hr (fun tS htS hWS => ⟨⟨(-1 : Int32), (), rfl, rfl, trivial⟩, hS.F htS⟩) hS.2.2 dX7_row_26
    · exact absurd c2 (by first | decide | exact nz_lt (by omega) | exact fun h => h (nz_ge (by omega)))
def rm_c_X7_side : Room := { frames := 2, cells := 0, slots := 0, locals := 46 }
set_option maxHeartbeats 400000 in
set_option maxRecDepth 100000 in
theorem c_X7_side (l : Launch) (D : va_G) (cI cJ cZ : ClassId) (m0 : Nat) (g1 : Nat) (g2 : Nat) (g3 : Nat) (g4 : Nat) (g5 : Nat) (g6 : Nat) (g7 : Nat) (g8 : Nat) (g9 : Nat) (g10 : Nat) (g11 : Nat) (g12 : Nat) (mp : Int32) (my : Int32) (mo : Int32) (ml : Int32) (p0 : Int32) (p1 : Int32)  : Met l yX7_side wsX7_side rm_c_X7_side (pc_ D cI cJ cZ [.ref m0, .int p0, .int p1] [(m0, .inr (7, [.int mp, .ref g1, .ref g2, .ref g3, .int (nI 0), .ref g4, .int my, .ref g5, .int mo, .ref g6, .int ml, .ref g7, .ref g8, .ref g9, .ref g10, .ref g11, .ref g12]))]) (va_Qi (fun (r : Int32) (_ : Unit) => r = -1) (fun _ _ => True) aN) 0 0 aN := by
  refine Met.ofW (cc := cX7_side) (maxL := 4) (ret := (some .int)) (by decide) rfl ?_
  intro p e s m args below meth c s₁ B hml hv
  obtain ⟨rfl, hP, hKN⟩ := hv
  have hK := hKN.1
  have hx := B.exec
  have hb := B.bytes
  have hr := B.returns
  have hts := atoms_spec (ws := wsX7_side) B.pre
  have hown : s.vm.findClass RX7 = some m.cls := findClass_of_methodNamed B.named
  have hlocks := B.notSynchronized
  have hS : va_S aN s.heap s.heap [] := va_S.rf
  have hl := lv_entry ([.ref m0, .int p0, .int p1]) (n := 4) (Nat.le_of_ble_eq_true rfl)
  rw [lg_entry_eq]
  generalize (lg_sl ([.ref m0, .int p0, .int p1]) ++ List.replicate (4 - (lg_sl ([.ref m0, .int p0, .int p1])).length) Slot.unset).toArray = ls at hl ⊢
  have hl : lv_has ls 4 [(0, .ref m0), (1, .int p0), (2, .int p1)] := hl
  generalize hQ : MQ below _ _ s _ _ _ = Q
  obtain ⟨H, hH⟩ : ∃ z, z = s.heap := ⟨_, rfl⟩
  have hP : va_P D vwCl [(m0, .inr (7, [.int mp, .ref g1, .ref g2, .ref g3, .int (nI 0), .ref g4, .int my, .ref g5, .int mo, .ref g6, .int ml, .ref g7, .ref g8, .ref g9, .ref g10, .ref g11, .ref g12]))] H := by rw [hH]; exact hP
  have hS : va_S aN s.heap H [] := by rw [hH]; exact hS
  refine m_heap hH ?_
  clear hH
  refine lv_aload_n hx hb dX7_side_0 rfl (lv_at hl 0 rfl) ?_
  refine lv_iload_n hx hb dX7_side_1 rfl (lv_at hl 1 rfl) ?_
  refine pu_i (va_runV (As := [.int p0]) (rest := []) ⟨hx, hb, hml, hown, hts⟩ (c_X7_isRule l D cI cJ cZ m0 g1 g2 g3 g4 g5 g6 g7 g8 g9 g10 g11 g12 0 mp my mo ml p0 (by first | assumption | omega)) (cwV 1 hts gX7_side_X7_isRule rfl rfl rfl (by decide +kernel) ⟨Nat.le_of_ble_eq_true rfl, Nat.le_of_ble_eq_true rfl⟩) ⟨pc_blind, va_recv hK hP (ci := 7) (q0 := 0) rfl rfl, fun U hU hW => ⟨rfl, by rw [hU]; exact hP.sub (ws' := [(m0, .inr (7, [.int mp, .ref g1, .ref g2, .ref g3, .int (nI 0), .ref g4, .int my, .ref g5, .int mo, .ref g6, .int ml, .ref g7, .ref g8, .ref g9, .ref g10, .ref g11, .ref g12]))]) [0] rfl, hKN.warm hW⟩⟩ rfl rfl hl.1 rfl (lv_room (Nat.le_of_ble_eq_true rfl)) dX7_side_2 ⟨Nat.le_of_ble_eq_true rfl, Nat.le_of_ble_eq_true rfl⟩) hS hP (fun r1 H locs w1r hP hS => ?_)
  have w1 : B01 r1 (0 ≤ p0.toInt ∧ p0.toInt < 0) := w1r
  clear w1r
  rcases w1 with ⟨rfl, w1⟩ | ⟨rfl, w1⟩
  · exact absurd w1 (by omega)
  · skip
    refine lv_if_eq (tgt := 25) hx hb dX7_side_5 (by decide) (fun c2 => ?_) (fun c2 => ?_)
    · skip
      refine lv_iconst (v := (-1 : Int32)) hx hb dX7_side_25 (by decide) ?_
      rw [← hQ]
      exact W.iret (v := (-1 : Int32)) hx hb hr (fun tS htS hWS => ⟨⟨(-1 : Int32), (), rfl, rfl, trivial⟩, hS.F htS⟩) hS.2.2 dX7_side_26
    · exact absurd c2 (by first | decide | exact nz_lt (by omega) | exact fun h => h (nz_ge (by omega)))
def rm_c_X7_says : Room := { frames := 2, cells := 0, slots := 0, locals := 46 }
set_option maxHeartbeats 400000 in
set_option maxRecDepth 100000 in
theorem c_X7_says (l : Launch) (D : va_G) (cI cJ cZ : ClassId) (m0 : Nat) (g1 : Nat) (g2 : Nat) (g3 : Nat) (g4 : Nat) (g5 : Nat) (g6 : Nat) (g7 : Nat) (g8 : Nat) (g9 : Nat) (g10 : Nat) (g11 : Nat) (g12 : Nat) (mp : Int32) (my : Int32) (mo : Int32) (ml : Int32) (p0 : Int32) (p1 : Int32)  : Met l yX7_says wsX7_says rm_c_X7_says (pc_ D cI cJ cZ [.ref m0, .int p0, .int p1] [(m0, .inr (7, [.int mp, .ref g1, .ref g2, .ref g3, .int (nI 0), .ref g4, .int my, .ref g5, .int mo, .ref g6, .int ml, .ref g7, .ref g8, .ref g9, .ref g10, .ref g11, .ref g12]))]) (va_Qi (fun (r : Int32) (_ : Unit) => r = -1) (fun _ _ => True) aN) 0 0 aN := by
  refine Met.ofW (cc := cX7_says) (maxL := 3) (ret := (some .int)) (by decide) rfl ?_
  intro p e s m args below meth c s₁ B hml hv
  obtain ⟨rfl, hP, hKN⟩ := hv
  have hK := hKN.1
  have hx := B.exec
  have hb := B.bytes
  have hr := B.returns
  have hts := atoms_spec (ws := wsX7_says) B.pre
  have hown : s.vm.findClass RX7 = some m.cls := findClass_of_methodNamed B.named
  have hlocks := B.notSynchronized
  have hS : va_S aN s.heap s.heap [] := va_S.rf
  have hl := lv_entry ([.ref m0, .int p0, .int p1]) (n := 3) (Nat.le_of_ble_eq_true rfl)
  rw [lg_entry_eq]
  generalize (lg_sl ([.ref m0, .int p0, .int p1]) ++ List.replicate (3 - (lg_sl ([.ref m0, .int p0, .int p1])).length) Slot.unset).toArray = ls at hl ⊢
  have hl : lv_has ls 3 [(0, .ref m0), (1, .int p0), (2, .int p1)] := hl
  generalize hQ : MQ below _ _ s _ _ _ = Q
  obtain ⟨H, hH⟩ : ∃ z, z = s.heap := ⟨_, rfl⟩
  have hP : va_P D vwCl [(m0, .inr (7, [.int mp, .ref g1, .ref g2, .ref g3, .int (nI 0), .ref g4, .int my, .ref g5, .int mo, .ref g6, .int ml, .ref g7, .ref g8, .ref g9, .ref g10, .ref g11, .ref g12]))] H := by rw [hH]; exact hP
  have hS : va_S aN s.heap H [] := by rw [hH]; exact hS
  refine m_heap hH ?_
  clear hH
  refine lv_aload_n hx hb dX7_says_0 rfl (lv_at hl 0 rfl) ?_
  refine lv_iload_n hx hb dX7_says_1 rfl (lv_at hl 1 rfl) ?_
  refine pu_i (va_runV (As := [.int p0]) (rest := []) ⟨hx, hb, hml, hown, hts⟩ (c_X7_isRule l D cI cJ cZ m0 g1 g2 g3 g4 g5 g6 g7 g8 g9 g10 g11 g12 0 mp my mo ml p0 (by first | assumption | omega)) (cwV 1 hts gX7_says_X7_isRule rfl rfl rfl (by decide +kernel) ⟨Nat.le_of_ble_eq_true rfl, Nat.le_of_ble_eq_true rfl⟩) ⟨pc_blind, va_recv hK hP (ci := 7) (q0 := 0) rfl rfl, fun U hU hW => ⟨rfl, by rw [hU]; exact hP.sub (ws' := [(m0, .inr (7, [.int mp, .ref g1, .ref g2, .ref g3, .int (nI 0), .ref g4, .int my, .ref g5, .int mo, .ref g6, .int ml, .ref g7, .ref g8, .ref g9, .ref g10, .ref g11, .ref g12]))]) [0] rfl, hKN.warm hW⟩⟩ rfl rfl hl.1 rfl (lv_room (Nat.le_of_ble_eq_true rfl)) dX7_says_2 ⟨Nat.le_of_ble_eq_true rfl, Nat.le_of_ble_eq_true rfl⟩) hS hP (fun r1 H locs w1r hP hS => ?_)
  have w1 : B01 r1 (0 ≤ p0.toInt ∧ p0.toInt < 0) := w1r
  clear w1r
  rcases w1 with ⟨rfl, w1⟩ | ⟨rfl, w1⟩
  · exact absurd w1 (by omega)
  · skip
    refine lv_if_eq (tgt := 24) hx hb dX7_says_5 (by decide) (fun c2 => ?_) (fun c2 => ?_)
    · skip
      refine lv_iconst (v := (-1 : Int32)) hx hb dX7_says_24 (by decide) ?_
      refine lv_goto (tgt := 48) hx hb dX7_says_25 (by decide) ?_
      rw [← hQ]
      exact W.iret (v := (-1 : Int32)) hx hb hr (fun tS htS hWS => ⟨⟨(-1 : Int32), (), rfl, rfl, trivial⟩, hS.F htS⟩) hS.2.2 dX7_says_48
    · exact absurd c2 (by first | decide | exact nz_lt (by omega) | exact fun h => h (nz_ge (by omega)))
def rm_c_X7_differ : Room := { frames := 2, cells := 0, slots := 0, locals := 46 }
set_option maxHeartbeats 400000 in
set_option maxRecDepth 100000 in
theorem c_X7_differ (l : Launch) (D : va_G) (cI cJ cZ : ClassId) (m0 : Nat) (g1 : Nat) (g2 : Nat) (g3 : Nat) (g4 : Nat) (g5 : Nat) (g6 : Nat) (g7 : Nat) (g8 : Nat) (g9 : Nat) (g10 : Nat) (g11 : Nat) (g12 : Nat) (mp : Int32) (my : Int32) (mo : Int32) (ml : Int32) (p0 : Int32) (p1 : Int32)  : Met l yX7_differ wsX7_differ rm_c_X7_differ (pc_ D cI cJ cZ [.ref m0, .int p0, .int p1] [(m0, .inr (7, [.int mp, .ref g1, .ref g2, .ref g3, .int (nI 0), .ref g4, .int my, .ref g5, .int mo, .ref g6, .int ml, .ref g7, .ref g8, .ref g9, .ref g10, .ref g11, .ref g12]))]) (va_Qi (fun (r : Int32) (_ : Unit) => r = -1) (fun _ _ => True) aN) 0 0 aN := by
  refine Met.ofW (cc := cX7_differ) (maxL := 4) (ret := (some .int)) (by decide) rfl ?_
  intro p e s m args below meth c s₁ B hml hv
  obtain ⟨rfl, hP, hKN⟩ := hv
  have hK := hKN.1
  have hx := B.exec
  have hb := B.bytes
  have hr := B.returns
  have hts := atoms_spec (ws := wsX7_differ) B.pre
  have hown : s.vm.findClass RX7 = some m.cls := findClass_of_methodNamed B.named
  have hlocks := B.notSynchronized
  have hS : va_S aN s.heap s.heap [] := va_S.rf
  have hl := lv_entry ([.ref m0, .int p0, .int p1]) (n := 4) (Nat.le_of_ble_eq_true rfl)
  rw [lg_entry_eq]
  generalize (lg_sl ([.ref m0, .int p0, .int p1]) ++ List.replicate (4 - (lg_sl ([.ref m0, .int p0, .int p1])).length) Slot.unset).toArray = ls at hl ⊢
  have hl : lv_has ls 4 [(0, .ref m0), (1, .int p0), (2, .int p1)] := hl
  generalize hQ : MQ below _ _ s _ _ _ = Q
  obtain ⟨H, hH⟩ : ∃ z, z = s.heap := ⟨_, rfl⟩
  have hP : va_P D vwCl [(m0, .inr (7, [.int mp, .ref g1, .ref g2, .ref g3, .int (nI 0), .ref g4, .int my, .ref g5, .int mo, .ref g6, .int ml, .ref g7, .ref g8, .ref g9, .ref g10, .ref g11, .ref g12]))] H := by rw [hH]; exact hP
  have hS : va_S aN s.heap H [] := by rw [hH]; exact hS
  refine m_heap hH ?_
  clear hH
  refine lv_aload_n hx hb dX7_differ_0 rfl (lv_at hl 0 rfl) ?_
  refine lv_iload_n hx hb dX7_differ_1 rfl (lv_at hl 1 rfl) ?_
  refine pu_i (va_runV (As := [.int p0]) (rest := []) ⟨hx, hb, hml, hown, hts⟩ (c_X7_isRule l D cI cJ cZ m0 g1 g2 g3 g4 g5 g6 g7 g8 g9 g10 g11 g12 0 mp my mo ml p0 (by first | assumption | omega)) (cwV 1 hts gX7_differ_X7_isRule rfl rfl rfl (by decide +kernel) ⟨Nat.le_of_ble_eq_true rfl, Nat.le_of_ble_eq_true rfl⟩) ⟨pc_blind, va_recv hK hP (ci := 7) (q0 := 0) rfl rfl, fun U hU hW => ⟨rfl, by rw [hU]; exact hP.sub (ws' := [(m0, .inr (7, [.int mp, .ref g1, .ref g2, .ref g3, .int (nI 0), .ref g4, .int my, .ref g5, .int mo, .ref g6, .int ml, .ref g7, .ref g8, .ref g9, .ref g10, .ref g11, .ref g12]))]) [0] rfl, hKN.warm hW⟩⟩ rfl rfl hl.1 rfl (lv_room (Nat.le_of_ble_eq_true rfl)) dX7_differ_2 ⟨Nat.le_of_ble_eq_true rfl, Nat.le_of_ble_eq_true rfl⟩) hS hP (fun r1 H locs w1r hP hS => ?_)
  have w1 : B01 r1 (0 ≤ p0.toInt ∧ p0.toInt < 0) := w1r
  clear w1r
  rcases w1 with ⟨rfl, w1⟩ | ⟨rfl, w1⟩
  · exact absurd w1 (by omega)
  · skip
    refine lv_if_eq (tgt := 16) hx hb dX7_differ_5 (by decide) (fun c2 => ?_) (fun c2 => ?_)
    · skip
      refine lv_iconst (v := (-1 : Int32)) hx hb dX7_differ_16 (by decide) ?_
      rw [← hQ]
      exact W.iret (v := (-1 : Int32)) hx hb hr (fun tS htS hWS => ⟨⟨(-1 : Int32), (), rfl, rfl, trivial⟩, hS.F htS⟩) hS.2.2 dX7_differ_17
    · exact absurd c2 (by first | decide | exact nz_lt (by omega) | exact fun h => h (nz_ge (by omega)))
def rm_c_X7_dual : Room := { frames := 2, cells := 0, slots := 0, locals := 46 }
set_option maxHeartbeats 400000 in
set_option maxRecDepth 100000 in
theorem c_X7_dual (l : Launch) (D : va_G) (cI cJ cZ : ClassId) (m0 : Nat) (g1 : Nat) (g2 : Nat) (g3 : Nat) (g4 : Nat) (g5 : Nat) (g6 : Nat) (g7 : Nat) (g8 : Nat) (g9 : Nat) (g10 : Nat) (g11 : Nat) (g12 : Nat) (mp : Int32) (my : Int32) (mo : Int32) (ml : Int32) (p0 : Int32)  : Met l yX7_dual wsX7_dual rm_c_X7_dual (pc_ D cI cJ cZ [.ref m0, .int p0] [(m0, .inr (7, [.int mp, .ref g1, .ref g2, .ref g3, .int (nI 0), .ref g4, .int my, .ref g5, .int mo, .ref g6, .int ml, .ref g7, .ref g8, .ref g9, .ref g10, .ref g11, .ref g12]))]) (va_Qi (fun (r : Int32) (_ : Unit) => r = -1) (fun _ _ => True) aN) 0 0 aN := by
  refine Met.ofW (cc := cX7_dual) (maxL := 3) (ret := (some .int)) (by decide) rfl ?_
  intro p e s m args below meth c s₁ B hml hv
  obtain ⟨rfl, hP, hKN⟩ := hv
  have hK := hKN.1
  have hx := B.exec
  have hb := B.bytes
  have hr := B.returns
  have hts := atoms_spec (ws := wsX7_dual) B.pre
  have hown : s.vm.findClass RX7 = some m.cls := findClass_of_methodNamed B.named
  have hlocks := B.notSynchronized
  have hS : va_S aN s.heap s.heap [] := va_S.rf
  have hl := lv_entry ([.ref m0, .int p0]) (n := 3) (Nat.le_of_ble_eq_true rfl)
  rw [lg_entry_eq]
  generalize (lg_sl ([.ref m0, .int p0]) ++ List.replicate (3 - (lg_sl ([.ref m0, .int p0])).length) Slot.unset).toArray = ls at hl ⊢
  have hl : lv_has ls 3 [(0, .ref m0), (1, .int p0)] := hl
  generalize hQ : MQ below _ _ s _ _ _ = Q
  obtain ⟨H, hH⟩ : ∃ z, z = s.heap := ⟨_, rfl⟩
  have hP : va_P D vwCl [(m0, .inr (7, [.int mp, .ref g1, .ref g2, .ref g3, .int (nI 0), .ref g4, .int my, .ref g5, .int mo, .ref g6, .int ml, .ref g7, .ref g8, .ref g9, .ref g10, .ref g11, .ref g12]))] H := by rw [hH]; exact hP
  have hS : va_S aN s.heap H [] := by rw [hH]; exact hS
  refine m_heap hH ?_
  clear hH
  refine lv_aload_n hx hb dX7_dual_0 rfl (lv_at hl 0 rfl) ?_
  refine lv_iload_n hx hb dX7_dual_1 rfl (lv_at hl 1 rfl) ?_
  refine pu_i (va_runV (As := [.int p0]) (rest := []) ⟨hx, hb, hml, hown, hts⟩ (c_X7_isRule l D cI cJ cZ m0 g1 g2 g3 g4 g5 g6 g7 g8 g9 g10 g11 g12 0 mp my mo ml p0 (by first | assumption | omega)) (cwV 1 hts gX7_dual_X7_isRule rfl rfl rfl (by decide +kernel) ⟨Nat.le_of_ble_eq_true rfl, Nat.le_of_ble_eq_true rfl⟩) ⟨pc_blind, va_recv hK hP (ci := 7) (q0 := 0) rfl rfl, fun U hU hW => ⟨rfl, by rw [hU]; exact hP.sub (ws' := [(m0, .inr (7, [.int mp, .ref g1, .ref g2, .ref g3, .int (nI 0), .ref g4, .int my, .ref g5, .int mo, .ref g6, .int ml, .ref g7, .ref g8, .ref g9, .ref g10, .ref g11, .ref g12]))]) [0] rfl, hKN.warm hW⟩⟩ rfl rfl hl.1 rfl (lv_room (Nat.le_of_ble_eq_true rfl)) dX7_dual_2 ⟨Nat.le_of_ble_eq_true rfl, Nat.le_of_ble_eq_true rfl⟩) hS hP (fun r1 H locs w1r hP hS => ?_)
  have w1 : B01 r1 (0 ≤ p0.toInt ∧ p0.toInt < 0) := w1r
  clear w1r
  rcases w1 with ⟨rfl, w1⟩ | ⟨rfl, w1⟩
  · exact absurd w1 (by omega)
  · skip
    refine lv_if_eq (tgt := 17) hx hb dX7_dual_5 (by decide) (fun c2 => ?_) (fun c2 => ?_)
    · skip
      refine lv_iconst (v := (-1 : Int32)) hx hb dX7_dual_17 (by decide) ?_
      rw [← hQ]
      exact W.iret (v := (-1 : Int32)) hx hb hr (fun tS htS hWS => ⟨⟨(-1 : Int32), (), rfl, rfl, trivial⟩, hS.F htS⟩) hS.2.2 dX7_dual_18
    · exact absurd c2 (by first | decide | exact nz_lt (by omega) | exact fun h => h (nz_ge (by omega)))
def rm_c_X7_system : Room := { frames := 2, cells := 0, slots := 0, locals := 46 }
set_option maxHeartbeats 400000 in
set_option maxRecDepth 100000 in
theorem c_X7_system (l : Launch) (D : va_G) (cI cJ cZ : ClassId) (m0 : Nat) (g1 : Nat) (g2 : Nat) (g3 : Nat) (g4 : Nat) (g5 : Nat) (g6 : Nat) (g7 : Nat) (g8 : Nat) (g9 : Nat) (g10 : Nat) (g11 : Nat) (g12 : Nat) (mp : Int32) (my : Int32) (mo : Int32) (ml : Int32) (p0 : Int32)  : Met l yX7_system wsX7_system rm_c_X7_system (pc_ D cI cJ cZ [.ref m0, .int p0] [(m0, .inr (7, [.int mp, .ref g1, .ref g2, .ref g3, .int (nI 0), .ref g4, .int my, .ref g5, .int mo, .ref g6, .int ml, .ref g7, .ref g8, .ref g9, .ref g10, .ref g11, .ref g12]))]) (va_Qi (fun (r : Int32) (_ : Unit) => B01 r False) (fun _ _ => True) aN) 0 0 aN := by
  refine Met.ofW (cc := cX7_system) (maxL := 2) (ret := (some .boolean)) (by decide) rfl ?_
  intro p e s m args below meth c s₁ B hml hv
  obtain ⟨rfl, hP, hKN⟩ := hv
  have hK := hKN.1
  have hx := B.exec
  have hb := B.bytes
  have hr := B.returns
  have hts := atoms_spec (ws := wsX7_system) B.pre
  have hown : s.vm.findClass RX7 = some m.cls := findClass_of_methodNamed B.named
  have hlocks := B.notSynchronized
  have hS : va_S aN s.heap s.heap [] := va_S.rf
  have hl := lv_entry ([.ref m0, .int p0]) (n := 2) (Nat.le_of_ble_eq_true rfl)
  rw [lg_entry_eq]
  generalize (lg_sl ([.ref m0, .int p0]) ++ List.replicate (2 - (lg_sl ([.ref m0, .int p0])).length) Slot.unset).toArray = ls at hl ⊢
  have hl : lv_has ls 2 [(0, .ref m0), (1, .int p0)] := hl
  generalize hQ : MQ below _ _ s _ _ _ = Q
  obtain ⟨H, hH⟩ : ∃ z, z = s.heap := ⟨_, rfl⟩
  have hP : va_P D vwCl [(m0, .inr (7, [.int mp, .ref g1, .ref g2, .ref g3, .int (nI 0), .ref g4, .int my, .ref g5, .int mo, .ref g6, .int ml, .ref g7, .ref g8, .ref g9, .ref g10, .ref g11, .ref g12]))] H := by rw [hH]; exact hP
  have hS : va_S aN s.heap H [] := by rw [hH]; exact hS
  refine m_heap hH ?_
  clear hH
  refine lv_aload_n hx hb dX7_system_0 rfl (lv_at hl 0 rfl) ?_
  refine lv_iload_n hx hb dX7_system_1 rfl (lv_at hl 1 rfl) ?_
  refine pu_i (va_runV (As := [.int p0]) (rest := []) ⟨hx, hb, hml, hown, hts⟩ (c_X7_isRule l D cI cJ cZ m0 g1 g2 g3 g4 g5 g6 g7 g8 g9 g10 g11 g12 0 mp my mo ml p0 (by first | assumption | omega)) (cwV 1 hts gX7_system_X7_isRule rfl rfl rfl (by decide +kernel) ⟨Nat.le_of_ble_eq_true rfl, Nat.le_of_ble_eq_true rfl⟩) ⟨pc_blind, va_recv hK hP (ci := 7) (q0 := 0) rfl rfl, fun U hU hW => ⟨rfl, by rw [hU]; exact hP.sub (ws' := [(m0, .inr (7, [.int mp, .ref g1, .ref g2, .ref g3, .int (nI 0), .ref g4, .int my, .ref g5, .int mo, .ref g6, .int ml, .ref g7, .ref g8, .ref g9, .ref g10, .ref g11, .ref g12]))]) [0] rfl, hKN.warm hW⟩⟩ rfl rfl hl.1 rfl (lv_room (Nat.le_of_ble_eq_true rfl)) dX7_system_2 ⟨Nat.le_of_ble_eq_true rfl, Nat.le_of_ble_eq_true rfl⟩) hS hP (fun r1 H locs w1r hP hS => ?_)
  have w1 : B01 r1 (0 ≤ p0.toInt ∧ p0.toInt < 0) := w1r
  clear w1r
  rcases w1 with ⟨rfl, w1⟩ | ⟨rfl, w1⟩
  · exact absurd w1 (by omega)
  · skip
    refine lv_if_ne (tgt := 10) hx hb dX7_system_5 (by decide) (fun c2 => ?_) (fun c2 => ?_)
    · exact absurd c2 (by first | decide | exact nz_lt (by omega) | exact fun h => h (nz_ge (by omega)))
    · skip
      refine lv_iconst (v := nI 0) hx hb dX7_system_8 (by decide) ?_
      rw [← hQ]
      exact W.zret (v := nI 0) hx hb hr (by first | decide | (rw [nar_b01])) (fun tS htS hWS => ⟨⟨(nI 0), (), rfl, Or.inr ⟨rfl, fun h => h⟩, trivial⟩, hS.F htS⟩) hS.2.2 dX7_system_9
def rm_c_X7_sets : Room := { frames := 1, cells := 0, slots := 0, locals := 25 }
set_option maxHeartbeats 400000 in
set_option maxRecDepth 100000 in
theorem c_X7_sets (l : Launch) (D : va_G) (cI cJ cZ : ClassId) (m0 : Nat) (g1 : Nat) (g2 : Nat) (g3 : Nat) (g4 : Nat) (g5 : Nat) (g6 : Nat) (g7 : Nat) (g8 : Nat) (g9 : Nat) (g10 : Nat) (g11 : Nat) (g12 : Nat) (mp : Int32) (mr : Int32) (mo : Int32) (ml : Int32) (p0 : Int32)  : Met l yX7_sets wsX7_sets rm_c_X7_sets (pc_ D cI cJ cZ [.ref m0, .int p0] [(m0, .inr (7, [.int mp, .ref g1, .ref g2, .ref g3, .int mr, .ref g4, .int (-1 : Int32), .ref g5, .int mo, .ref g6, .int ml, .ref g7, .ref g8, .ref g9, .ref g10, .ref g11, .ref g12]))]) (va_Qi (fun (r : Int32) (_ : Unit) => r = -1) (fun _ _ => True) aN) 0 0 aN := by
  refine Met.ofW (cc := cX7_sets) (maxL := 4) (ret := (some .int)) (by decide) rfl ?_
  intro p e s m args below meth c s₁ B hml hv
  obtain ⟨rfl, hP, hKN⟩ := hv
  have hK := hKN.1
  have hx := B.exec
  have hb := B.bytes
  have hr := B.returns
  have hts := atoms_spec (ws := wsX7_sets) B.pre
  have hown : s.vm.findClass RX7 = some m.cls := findClass_of_methodNamed B.named
  have hlocks := B.notSynchronized
  have hiX7 : ∀ w ∈ wsX70, w ∈ wsX7_sets := by decide +kernel
  have hf27 := hts (.fieldLink RX7 27 "LookBenchModel" "system" "I") (by decide +kernel)
  have hS : va_S aN s.heap s.heap [] := va_S.rf
  have hl := lv_entry ([.ref m0, .int p0]) (n := 4) (Nat.le_of_ble_eq_true rfl)
  rw [lg_entry_eq]
  generalize (lg_sl ([.ref m0, .int p0]) ++ List.replicate (4 - (lg_sl ([.ref m0, .int p0])).length) Slot.unset).toArray = ls at hl ⊢
  have hl : lv_has ls 4 [(0, .ref m0), (1, .int p0)] := hl
  generalize hQ : MQ below _ _ s _ _ _ = Q
  obtain ⟨H, hH⟩ : ∃ z, z = s.heap := ⟨_, rfl⟩
  have hP : va_P D vwCl [(m0, .inr (7, [.int mp, .ref g1, .ref g2, .ref g3, .int mr, .ref g4, .int (-1 : Int32), .ref g5, .int mo, .ref g6, .int ml, .ref g7, .ref g8, .ref g9, .ref g10, .ref g11, .ref g12]))] H := by rw [hH]; exact hP
  have hS : va_S aN s.heap H [] := by rw [hH]; exact hS
  refine m_heap hH ?_
  clear hH
  refine lv_iload_n hx hb dX7_sets_0 rfl (lv_at hl 1 rfl) ?_
  refine lv_i2l hx hb dX7_sets_1 rfl ?_
  refine lv_lconst (v := lN 0) hx hb dX7_sets_2 (by decide) ?_
  refine lv_lconst (v := lN 1) hx hb dX7_sets_3 (by decide) ?_
  refine pu_i (va_runS (As := [.long p0.toInt64, .long (lN 0), .long (lN 1)]) (rest := []) ⟨hx, hb, hml, hown, hts⟩ (c_X7_in l D cI cJ cZ p0.toInt64 (lN 0) (lN 1)) (va_cwS 3 hts gX7_sets_X7_in rfl rfl rfl (by decide +kernel) ⟨Nat.le_of_ble_eq_true rfl, Nat.le_of_ble_eq_true rfl⟩) ⟨pc_blind, fun U hU hW => ⟨rfl, by rw [hU]; exact hP.sub (ws' := []) [] rfl, hKN.warm hW⟩⟩ rfl rfl hl.1 rfl (lv_room (Nat.le_of_ble_eq_true rfl)) dX7_sets_4 ⟨Nat.le_of_ble_eq_true rfl, Nat.le_of_ble_eq_true rfl⟩) hS hP (fun r1 H locs w1r hP hS => ?_)
  have w1 : B01 r1 ((lN 0).toInt ≤ p0.toInt64.toInt ∧ p0.toInt64.toInt ≤ (lN 1).toInt) := w1r
  clear w1r
  rw [lN_toInt (n := 0) (by omega), j2 p0, lN_toInt (n := 1) (by omega)] at w1
  rcases w1 with ⟨rfl, w1⟩ | ⟨rfl, w1⟩
  · skip
    refine lv_if_eq (tgt := 17) hx hb dX7_sets_7 (by decide) (fun c2 => ?_) (fun c2 => ?_)
    · exact absurd c2 (by first | decide | exact nz_lt (by omega) | exact fun h => h (nz_ge (by omega)))
    · skip
      refine lv_aload_n hx hb dX7_sets_10 rfl (lv_at hl 0 rfl) ?_
      refine va_get (D := D) (ci := 7) (v := .int (-1 : Int32)) (C := RX7) (T := TX7) (N := 17) hx hb hts hiX7 hown hK hP 0 rfl rfl 6 (by decide) hf27 (fun _ h9 => h9) rfl dX7_sets_11 ?_
      refine lv_if_ge (tgt := 19) hx hb dX7_sets_14 (by decide) (fun c3 => ?_) (fun c3 => ?_)
      · exact absurd c3 (by first | decide | exact nz_lt (by omega) | exact fun h => h (nz_ge (by omega)))
      · skip
        refine lv_iconst (v := (-1 : Int32)) hx hb dX7_sets_17 (by decide) ?_
        rw [← hQ]
        exact W.iret (v := (-1 : Int32)) hx hb hr (fun tS htS hWS => ⟨⟨(-1 : Int32), (), rfl, rfl, trivial⟩, hS.F htS⟩) hS.2.2 dX7_sets_18
  · skip
    refine lv_if_eq (tgt := 17) hx hb dX7_sets_7 (by decide) (fun c4 => ?_) (fun c4 => ?_)
    · skip
      refine lv_iconst (v := (-1 : Int32)) hx hb dX7_sets_17 (by decide) ?_
      rw [← hQ]
      exact W.iret (v := (-1 : Int32)) hx hb hr (fun tS htS hWS => ⟨⟨(-1 : Int32), (), rfl, rfl, trivial⟩, hS.F htS⟩) hS.2.2 dX7_sets_18
    · exact absurd c4 (by first | decide | exact nz_lt (by omega) | exact fun h => h (nz_ge (by omega)))
def rm_c_X7_set : Room := { frames := 1, cells := 0, slots := 0, locals := 25 }
set_option maxHeartbeats 400000 in
set_option maxRecDepth 100000 in
theorem c_X7_set (l : Launch) (D : va_G) (cI cJ cZ : ClassId) (m0 : Nat) (g1 : Nat) (g2 : Nat) (g3 : Nat) (g4 : Nat) (g5 : Nat) (g6 : Nat) (g7 : Nat) (g8 : Nat) (g9 : Nat) (g10 : Nat) (g11 : Nat) (g12 : Nat) (mp : Int32) (mr : Int32) (mo : Int32) (ml : Int32) (p0 : Int32) (p1 : Int32)  : Met l yX7_set wsX7_set rm_c_X7_set (pc_ D cI cJ cZ [.ref m0, .int p0, .int p1] [(m0, .inr (7, [.int mp, .ref g1, .ref g2, .ref g3, .int mr, .ref g4, .int (-1 : Int32), .ref g5, .int mo, .ref g6, .int ml, .ref g7, .ref g8, .ref g9, .ref g10, .ref g11, .ref g12]))]) (va_Qi (fun (r : Int32) (_ : Unit) => r = -1) (fun _ _ => True) aN) 0 0 aN := by
  refine Met.ofW (cc := cX7_set) (maxL := 5) (ret := (some .int)) (by decide) rfl ?_
  intro p e s m args below meth c s₁ B hml hv
  obtain ⟨rfl, hP, hKN⟩ := hv
  have hK := hKN.1
  have hx := B.exec
  have hb := B.bytes
  have hr := B.returns
  have hts := atoms_spec (ws := wsX7_set) B.pre
  have hown : s.vm.findClass RX7 = some m.cls := findClass_of_methodNamed B.named
  have hlocks := B.notSynchronized
  have hiX7 : ∀ w ∈ wsX70, w ∈ wsX7_set := by decide +kernel
  have hf27 := hts (.fieldLink RX7 27 "LookBenchModel" "system" "I") (by decide +kernel)
  have hS : va_S aN s.heap s.heap [] := va_S.rf
  have hl := lv_entry ([.ref m0, .int p0, .int p1]) (n := 5) (Nat.le_of_ble_eq_true rfl)
  rw [lg_entry_eq]
  generalize (lg_sl ([.ref m0, .int p0, .int p1]) ++ List.replicate (5 - (lg_sl ([.ref m0, .int p0, .int p1])).length) Slot.unset).toArray = ls at hl ⊢
  have hl : lv_has ls 5 [(0, .ref m0), (1, .int p0), (2, .int p1)] := hl
  generalize hQ : MQ below _ _ s _ _ _ = Q
  obtain ⟨H, hH⟩ : ∃ z, z = s.heap := ⟨_, rfl⟩
  have hP : va_P D vwCl [(m0, .inr (7, [.int mp, .ref g1, .ref g2, .ref g3, .int mr, .ref g4, .int (-1 : Int32), .ref g5, .int mo, .ref g6, .int ml, .ref g7, .ref g8, .ref g9, .ref g10, .ref g11, .ref g12]))] H := by rw [hH]; exact hP
  have hS : va_S aN s.heap H [] := by rw [hH]; exact hS
  refine m_heap hH ?_
  clear hH
  refine lv_iload_n hx hb dX7_set_0 rfl (lv_at hl 1 rfl) ?_
  refine lv_i2l hx hb dX7_set_1 rfl ?_
  refine lv_lconst (v := lN 0) hx hb dX7_set_2 (by decide) ?_
  refine lv_lconst (v := lN 1) hx hb dX7_set_3 (by decide) ?_
  refine pu_i (va_runS (As := [.long p0.toInt64, .long (lN 0), .long (lN 1)]) (rest := []) ⟨hx, hb, hml, hown, hts⟩ (c_X7_in l D cI cJ cZ p0.toInt64 (lN 0) (lN 1)) (va_cwS 3 hts gX7_set_X7_in rfl rfl rfl (by decide +kernel) ⟨Nat.le_of_ble_eq_true rfl, Nat.le_of_ble_eq_true rfl⟩) ⟨pc_blind, fun U hU hW => ⟨rfl, by rw [hU]; exact hP.sub (ws' := []) [] rfl, hKN.warm hW⟩⟩ rfl rfl hl.1 rfl (lv_room (Nat.le_of_ble_eq_true rfl)) dX7_set_4 ⟨Nat.le_of_ble_eq_true rfl, Nat.le_of_ble_eq_true rfl⟩) hS hP (fun r1 H locs w1r hP hS => ?_)
  have w1 : B01 r1 ((lN 0).toInt ≤ p0.toInt64.toInt ∧ p0.toInt64.toInt ≤ (lN 1).toInt) := w1r
  clear w1r
  rw [lN_toInt (n := 0) (by omega), j2 p0, lN_toInt (n := 1) (by omega)] at w1
  rcases w1 with ⟨rfl, w1⟩ | ⟨rfl, w1⟩
  · skip
    refine lv_if_eq (tgt := 17) hx hb dX7_set_7 (by decide) (fun c2 => ?_) (fun c2 => ?_)
    · exact absurd c2 (by first | decide | exact nz_lt (by omega) | exact fun h => h (nz_ge (by omega)))
    · skip
      refine lv_aload_n hx hb dX7_set_10 rfl (lv_at hl 0 rfl) ?_
      refine va_get (D := D) (ci := 7) (v := .int (-1 : Int32)) (C := RX7) (T := TX7) (N := 17) hx hb hts hiX7 hown hK hP 0 rfl rfl 6 (by decide) hf27 (fun _ h9 => h9) rfl dX7_set_11 ?_
      refine lv_if_ge (tgt := 19) hx hb dX7_set_14 (by decide) (fun c3 => ?_) (fun c3 => ?_)
      · exact absurd c3 (by first | decide | exact nz_lt (by omega) | exact fun h => h (nz_ge (by omega)))
      · skip
        refine lv_iconst (v := (-1 : Int32)) hx hb dX7_set_17 (by decide) ?_
        rw [← hQ]
        exact W.iret (v := (-1 : Int32)) hx hb hr (fun tS htS hWS => ⟨⟨(-1 : Int32), (), rfl, rfl, trivial⟩, hS.F htS⟩) hS.2.2 dX7_set_18
  · skip
    refine lv_if_eq (tgt := 17) hx hb dX7_set_7 (by decide) (fun c4 => ?_) (fun c4 => ?_)
    · skip
      refine lv_iconst (v := (-1 : Int32)) hx hb dX7_set_17 (by decide) ?_
      rw [← hQ]
      exact W.iret (v := (-1 : Int32)) hx hb hr (fun tS htS hWS => ⟨⟨(-1 : Int32), (), rfl, rfl, trivial⟩, hS.F htS⟩) hS.2.2 dX7_set_18
    · exact absurd c4 (by first | decide | exact nz_lt (by omega) | exact fun h => h (nz_ge (by omega)))
def rm_c_X7_sure : Room := { frames := 0, cells := 0, slots := 0, locals := 0 }
set_option maxHeartbeats 400000 in
set_option maxRecDepth 100000 in
theorem c_X7_sure (l : Launch) (D : va_G) (cI cJ cZ : ClassId) (m0 : Nat) (g1 : Nat) (g2 : Nat) (g3 : Nat) (g4 : Nat) (g5 : Nat) (g6 : Nat) (g7 : Nat) (g8 : Nat) (g9 : Nat) (g10 : Nat) (g11 : Nat) (g12 : Nat) (mp : Int32) (mr : Int32) (mo : Int32) (ml : Int32)  : Met l yX7_sure wsX7_sure rm_c_X7_sure (pc_ D cI cJ cZ [.ref m0] [(m0, .inr (7, [.int mp, .ref g1, .ref g2, .ref g3, .int mr, .ref g4, .int (-1 : Int32), .ref g5, .int mo, .ref g6, .int ml, .ref g7, .ref g8, .ref g9, .ref g10, .ref g11, .ref g12]))]) (va_Qi (fun (r : Int32) (_ : Unit) => r = -2) (fun _ _ => True) aN) 0 0 aN := by
  refine Met.ofW (cc := cX7_sure) (maxL := 1) (ret := (some .int)) (by decide) rfl ?_
  intro p e s m args below meth c s₁ B hml hv
  obtain ⟨rfl, hP, hKN⟩ := hv
  have hK := hKN.1
  have hx := B.exec
  have hb := B.bytes
  have hr := B.returns
  have hts := atoms_spec (ws := wsX7_sure) B.pre
  have hown : s.vm.findClass RX7 = some m.cls := findClass_of_methodNamed B.named
  have hlocks := B.notSynchronized
  have hiX7 : ∀ w ∈ wsX70, w ∈ wsX7_sure := by decide +kernel
  have hf27 := hts (.fieldLink RX7 27 "LookBenchModel" "system" "I") (by decide +kernel)
  have hS : va_S aN s.heap s.heap [] := va_S.rf
  have hl := lv_entry ([.ref m0]) (n := 1) (Nat.le_of_ble_eq_true rfl)
  rw [lg_entry_eq]
  generalize (lg_sl ([.ref m0]) ++ List.replicate (1 - (lg_sl ([.ref m0])).length) Slot.unset).toArray = ls at hl ⊢
  have hl : lv_has ls 1 [(0, .ref m0)] := hl
  generalize hQ : MQ below _ _ s _ _ _ = Q
  obtain ⟨H, hH⟩ : ∃ z, z = s.heap := ⟨_, rfl⟩
  have hP : va_P D vwCl [(m0, .inr (7, [.int mp, .ref g1, .ref g2, .ref g3, .int mr, .ref g4, .int (-1 : Int32), .ref g5, .int mo, .ref g6, .int ml, .ref g7, .ref g8, .ref g9, .ref g10, .ref g11, .ref g12]))] H := by rw [hH]; exact hP
  have hS : va_S aN s.heap H [] := by rw [hH]; exact hS
  refine m_heap hH ?_
  clear hH
  refine lv_aload_n hx hb dX7_sure_0 rfl (lv_at hl 0 rfl) ?_
  refine va_get (D := D) (ci := 7) (v := .int (-1 : Int32)) (C := RX7) (T := TX7) (N := 17) hx hb hts hiX7 hown hK hP 0 rfl rfl 6 (by decide) hf27 (fun _ h9 => h9) rfl dX7_sure_1 ?_
  refine lv_if_ge (tgt := 12) hx hb dX7_sure_4 (by decide) (fun c1 => ?_) (fun c1 => ?_)
  · exact absurd c1 (by first | decide | exact nz_lt (by omega) | exact fun h => h (nz_ge (by omega)))
  · skip
    refine lv_bipush (v := (-2 : Int32)) hx hb dX7_sure_7 (by decide) ?_
    refine lv_goto (tgt := 20) hx hb dX7_sure_9 (by decide) ?_
    rw [← hQ]
    exact W.iret (v := (-2 : Int32)) hx hb hr (fun tS htS hWS => ⟨⟨(-2 : Int32), (), rfl, rfl, trivial⟩, hS.F htS⟩) hS.2.2 dX7_sure_20
def rm_c_X7_see : Room := { frames := 2, cells := 0, slots := 0, locals := 46 }
set_option maxHeartbeats 400000 in
set_option maxRecDepth 100000 in
theorem c_X7_see (l : Launch) (D : va_G) (cI cJ cZ : ClassId) (m0 : Nat) (g1 : Nat) (g2 : Nat) (g3 : Nat) (g4 : Nat) (g5 : Nat) (g6 : Nat) (g7 : Nat) (g8 : Nat) (g9 : Nat) (g10 : Nat) (g11 : Nat) (g12 : Nat) (n : Nat) (mr : Int32) (my : Int32) (mo : Int32) (ml : Int32) (p0 : Int32) (ho : Int32) (fn : Nat → Int32) (hn : n ≤ 9) (h1n : 1 ≤ n) : Met l yX7_see wsX7_see rm_c_X7_see (pm_ D cI cJ cZ [.ref m0, .int p0, .int ho] [(m0, .inr (7, [.int (nI n), .ref g1, .ref g2, .ref g3, .int mr, .ref g4, .int my, .ref g5, .int mo, .ref g6, .int ml, .ref g7, .ref g8, .ref g9, .ref g10, .ref g11, .ref g12])), (g5, .inl (cI, 9, .inl fn))]) (va_Qi (fun (r : Int32) (u : Unit) => B01 r (0 ≤ p0.toInt ∧ p0.toInt < n ∧ -1 ≤ ho.toInt ∧ ho.toInt ≤ 1)) (fun (u : Unit) tS => True) (aA [m0, g5])) 0 0 (aA [m0, g5]) := by
  refine Met.ofW (cc := cX7_see) (maxL := 3) (ret := (some .boolean)) (by decide) rfl ?_
  intro p e s m args below meth c s₁ B hml hv
  obtain ⟨rfl, hP, hKN, hD0⟩ := hv
  have hK := hKN.1
  have hx := B.exec
  have hb := B.bytes
  have hr := B.returns
  have hts := atoms_spec (ws := wsX7_see) B.pre
  have hown : s.vm.findClass RX7 = some m.cls := findClass_of_methodNamed B.named
  have hlocks := B.notSynchronized
  have hiX7 : ∀ w ∈ wsX70, w ∈ wsX7_see := by decide +kernel
  have hf30 := hts (.fieldLink RX7 30 "LookBenchModel" "seen" "[I") (by decide +kernel)
  obtain ⟨as, has⟩ : ∃ z : List Nat, z = [m0, g5] := ⟨_, rfl⟩
  have hD := hD0.addr (as := as) (by rw [has]; rfl)
  have hS : va_S (aA as) s.heap s.heap [] := va_S.rf
  have hl := lv_entry ([.ref m0, .int p0, .int ho]) (n := 3) (Nat.le_of_ble_eq_true rfl)
  rw [lg_entry_eq]
  generalize (lg_sl ([.ref m0, .int p0, .int ho]) ++ List.replicate (3 - (lg_sl ([.ref m0, .int p0, .int ho])).length) Slot.unset).toArray = ls at hl ⊢
  have hl : lv_has ls 3 [(0, .ref m0), (1, .int p0), (2, .int ho)] := hl
  generalize hQ : MQ below _ _ s _ _ _ = Q
  obtain ⟨H, hH⟩ : ∃ z, z = s.heap := ⟨_, rfl⟩
  have hP : va_P D vwCl [(m0, .inr (7, [.int (nI n), .ref g1, .ref g2, .ref g3, .int mr, .ref g4, .int my, .ref g5, .int mo, .ref g6, .int ml, .ref g7, .ref g8, .ref g9, .ref g10, .ref g11, .ref g12])), (g5, .inl (cI, 9, .inl fn))] H := by rw [hH]; exact hP
  have hS : va_S (aA as) s.heap H [] := by rw [hH]; exact hS
  refine m_heap hH ?_
  clear hH
  refine lv_aload_n hx hb dX7_see_0 rfl (lv_at hl 0 rfl) ?_
  refine lv_iload_n hx hb dX7_see_1 rfl (lv_at hl 1 rfl) ?_
  refine pu_i (va_runV (As := [.int p0]) (rest := []) ⟨hx, hb, hml, hown, hts⟩ (c_X7_isPart l D cI cJ cZ m0 g1 g2 g3 g4 g5 g6 g7 g8 g9 g10 g11 g12 n mr my mo ml p0 (by first | assumption | omega) (by first | assumption | omega)) (cwV 1 hts gX7_see_X7_isPart rfl rfl rfl (by decide +kernel) ⟨Nat.le_of_ble_eq_true rfl, Nat.le_of_ble_eq_true rfl⟩) ⟨pc_blind, va_recv hK hP (ci := 7) (q0 := 0) rfl rfl, fun U hU hW => ⟨rfl, by rw [hU]; exact hP.sub (ws' := [(m0, .inr (7, [.int (nI n), .ref g1, .ref g2, .ref g3, .int mr, .ref g4, .int my, .ref g5, .int mo, .ref g6, .int ml, .ref g7, .ref g8, .ref g9, .ref g10, .ref g11, .ref g12]))]) [0] rfl, hKN.warm hW⟩⟩ rfl rfl hl.1 rfl (lv_room (Nat.le_of_ble_eq_true rfl)) dX7_see_2 ⟨Nat.le_of_ble_eq_true rfl, Nat.le_of_ble_eq_true rfl⟩) hS hP (fun r1 H locs w1r hP hS => ?_)
  have w1 : B01 r1 (0 ≤ p0.toInt ∧ p0.toInt < n) := w1r
  clear w1r
  rcases w1 with ⟨rfl, w1⟩ | ⟨rfl, w1⟩
  · skip
    obtain ⟨j9, hj9, rfl⟩ := m_nat w1
    have t9 : (nI j9).toInt = (j9 : Int) := nI_toInt (by omega)
    refine lv_if_eq (tgt := 20) hx hb dX7_see_5 (by decide) (fun c2 => ?_) (fun c2 => ?_)
    · exact absurd c2 (by first | decide | exact nz_lt (by omega) | exact fun h => h (nz_ge (by omega)))
    · skip
      refine lv_iload_n hx hb dX7_see_8 rfl (lv_at hl 2 rfl) ?_
      refine lv_i2l hx hb dX7_see_9 rfl ?_
      refine lv_ldc2 (v := (-1 : Int64)) hx hb hown (hts (.constantLong RX7 100 (-1 : Int64)) (by decide +kernel)) dX7_see_10 ?_
      refine lv_lconst (v := lN 1) hx hb dX7_see_13 (by decide) ?_
      refine pu_i (va_runS (As := [.long ho.toInt64, .long (-1 : Int64), .long (lN 1)]) (rest := []) ⟨hx, hb, hml, hown, hts⟩ (c_X7_in l D cI cJ cZ ho.toInt64 (-1 : Int64) (lN 1)) (va_cwS 3 hts gX7_see_X7_in rfl rfl rfl (by decide +kernel) ⟨Nat.le_of_ble_eq_true rfl, Nat.le_of_ble_eq_true rfl⟩) ⟨pc_blind, fun U hU hW => ⟨rfl, by rw [hU]; exact hP.sub (ws' := []) [] rfl, hKN.warm hW⟩⟩ rfl rfl hl.1 rfl (lv_room (Nat.le_of_ble_eq_true rfl)) dX7_see_14 ⟨Nat.le_of_ble_eq_true rfl, Nat.le_of_ble_eq_true rfl⟩) hS hP (fun r3 H locs w3r hP hS => ?_)
      have w3 : B01 r3 ((-1 : Int64).toInt ≤ ho.toInt64.toInt ∧ ho.toInt64.toInt ≤ (lN 1).toInt) := w3r
      clear w3r
      rw [(show ((-1 : Int64)).toInt = (-1 : Int) by decide), j2 ho, lN_toInt (n := 1) (by omega)] at w3
      rcases w3 with ⟨rfl, w3⟩ | ⟨rfl, w3⟩
      · skip
        refine lv_if_ne (tgt := 22) hx hb dX7_see_17 (by decide) (fun c4 => ?_) (fun c4 => ?_)
        · skip
          refine lv_aload_n hx hb dX7_see_22 rfl (lv_at hl 0 rfl) ?_
          refine va_get (D := D) (ci := 7) (v := .ref g5) (C := RX7) (T := TX7) (N := 17) hx hb hts hiX7 hown hK hP 0 rfl rfl 7 (by decide) hf30 (fun _ h9 => h9) rfl dX7_see_23 ?_
          refine lv_iload_n hx hb dX7_see_26 rfl (lv_at hl 1 rfl) ?_
          refine lv_iload_n hx hb dX7_see_27 rfl (lv_at hl 2 rfl) ?_
          refine va_iast hx hb hK hP hD hS 1 0 rfl rfl (i := nI j9) (vp_in_nI (by omega) (by omega)) dX7_see_28 (fun H locs hP hD hS => ?_)
          have hP : va_P D vwCl [(m0, .inr (7, [.int (nI n), .ref g1, .ref g2, .ref g3, .int mr, .ref g4, .int my, .ref g5, .int mo, .ref g6, .int ml, .ref g7, .ref g8, .ref g9, .ref g10, .ref g11, .ref g12])), (g5, .inl (cI, 9, .inl (upd fn (nI j9).toNatClampNeg ho)))] H := hP
          have hD : va_D (aA as) [(m0, .inr (7, [.int (nI n), .ref g1, .ref g2, .ref g3, .int mr, .ref g4, .int my, .ref g5, .int mo, .ref g6, .int ml, .ref g7, .ref g8, .ref g9, .ref g10, .ref g11, .ref g12])), (g5, .inl (cI, 9, .inl (upd fn (nI j9).toNatClampNeg ho)))] := hD
          rw [nI_clamp (n := j9) (by omega)] at hP hD
          refine lv_iconst (v := nI 1) hx hb dX7_see_29 (by decide) ?_
          rw [← hQ]
          exact W.zret (v := nI 1) hx hb hr (by first | decide | (rw [nar_b01])) (fun tS htS hWS => ⟨⟨(nI 1), (), rfl, Or.inl ⟨rfl, by omega⟩, trivial⟩, by rw [← has]; exact hS.F htS⟩) (by rw [← has]; exact hS.2.2) dX7_see_30
        · exact absurd c4 (by first | decide | exact nz_lt (by omega) | exact fun h => h (nz_ge (by omega)))
      · skip
        refine lv_if_ne (tgt := 22) hx hb dX7_see_17 (by decide) (fun c5 => ?_) (fun c5 => ?_)
        · exact absurd c5 (by first | decide | exact nz_lt (by omega) | exact fun h => h (nz_ge (by omega)))
        · skip
          refine lv_iconst (v := nI 0) hx hb dX7_see_20 (by decide) ?_
          rw [← hQ]
          exact W.zret (v := nI 0) hx hb hr (by first | decide | (rw [nar_b01])) (fun tS htS hWS => ⟨⟨(nI 0), (), rfl, Or.inr ⟨rfl, by omega⟩, trivial⟩, by rw [← has]; exact hS.F htS⟩) (by rw [← has]; exact hS.2.2) dX7_see_21
  · skip
    refine lv_if_eq (tgt := 20) hx hb dX7_see_5 (by decide) (fun c6 => ?_) (fun c6 => ?_)
    · skip
      refine lv_iconst (v := nI 0) hx hb dX7_see_20 (by decide) ?_
      rw [← hQ]
      exact W.zret (v := nI 0) hx hb hr (by first | decide | (rw [nar_b01])) (fun tS htS hWS => ⟨⟨(nI 0), (), rfl, Or.inr ⟨rfl, by omega⟩, trivial⟩, by rw [← has]; exact hS.F htS⟩) (by rw [← has]; exact hS.2.2) dX7_see_21
    · exact absurd c6 (by first | decide | exact nz_lt (by omega) | exact fun h => h (nz_ge (by omega)))
