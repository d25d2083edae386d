
def mnow (th fn : Nat → Int32) : Nat → Int32
  | 0 => nI 0
  | k + 1 => mnow th fn k + th k * (if fn k = nI 1 then nI 1 else if fn k = 0 then nI 2 else nI 0)
def dgt (th : Nat → Int32) (c : Int32) (j : Nat) : Int32 := c / th j - c / th j / nI 3 * nI 3
def mlf (fg fb th : Nat → Int32) (c : Int32) : Nat → Int64
  | 0 => lN 1
  | k + 1 => mlf fg fb th c k * (if dgt th c k = nI 1 then (fg k).toInt64 else if dgt th c k = nI 2 then (fb k).toInt64 else (fg k + fb k).toInt64)
def rm_c_X7_in : Room := { frames := 0, cells := 0, slots := 0, locals := 0 }
set_option maxHeartbeats 400000 in
set_option maxRecDepth 100000 in
theorem c_X7_in (l : Launch) (D : va_G) (cI cJ cZ : ClassId) (v0 : Int64) (lo : Int64) (hi : Int64)  : Met l yX7_in wsX7_in rm_c_X7_in (pc_ D cI cJ cZ [.long v0, .long lo, .long hi] []) (va_Qi (fun (r : Int32) (_ : Unit) => B01 r (lo.toInt ≤ v0.toInt ∧ v0.toInt ≤ hi.toInt)) (fun _ _ => True) aN) 0 0 aN := by
  refine Met.ofW (cc := cX7_in) (maxL := 6) (ret := (some .boolean)) (by decide) rfl ?_
  intro p e s m args below meth c s₁ B hml hv
  obtain ⟨rfl, hP, hKN⟩ := hv
  have hK := hKN.1
  have hx := B.exec
  have hb := B.bytes
  have hr := B.returns
  have hts := atoms_spec (ws := wsX7_in) B.pre
  have hown : s.vm.findClass RX7 = some m.cls := findClass_of_methodNamed B.named
  have hlocks := B.notSynchronized
  have hS : va_S aN s.heap s.heap [] := va_S.rf
  have hl := lv_entry ([.long v0, .long lo, .long hi]) (n := 6) (Nat.le_of_ble_eq_true rfl)
  rw [lg_entry_eq]
  generalize (lg_sl ([.long v0, .long lo, .long hi]) ++ List.replicate (6 - (lg_sl ([.long v0, .long lo, .long hi])).length) Slot.unset).toArray = ls at hl ⊢
  have hl : lv_has ls 6 [(0, .long v0), (2, .long lo), (4, .long hi)] := hl
  generalize hQ : MQ below _ _ s _ _ _ = Q
  obtain ⟨H, hH⟩ : ∃ z, z = s.heap := ⟨_, rfl⟩
  have hP : va_P D vwCl [] H := by rw [hH]; exact hP
  have hS : va_S aN s.heap H [] := by rw [hH]; exact hS
  refine m_heap hH ?_
  clear hH
  refine lv_lload_n hx hb dX7_in_0 rfl (lv_at hl 0 rfl) ?_
  refine lv_lload_n hx hb dX7_in_1 rfl (lv_at hl 1 rfl) ?_
  refine W.lcmp hx hb dX7_in_2 ?_
  refine lv_if_lt (tgt := 17) hx hb dX7_in_3 (by decide) (fun c1 => ?_) (fun c1 => ?_)
  · skip
    have d1 := c1
    rw [lc_lt, j_lt] at d1
    refine lv_iconst (v := nI 0) hx hb dX7_in_17 (by decide) ?_
    rw [← hQ]
    exact W.zret (v := nI 0) hx hb hr (by first | decide | (rw [nar_b01])) (fun tS htS hWS => ⟨⟨(nI 0), (), rfl, Or.inr ⟨rfl, by omega⟩, trivial⟩, hS.F htS⟩) hS.2.2 dX7_in_18
  · skip
    have d1 := c1
    rw [lc_lt, j_lt] at d1
    refine lv_lload_n hx hb dX7_in_6 rfl (lv_at hl 0 rfl) ?_
    refine lv_lload hx hb dX7_in_7 (lv_at hl 2 rfl) ?_
    refine W.lcmp hx hb dX7_in_9 ?_
    refine lv_if_gt (tgt := 17) hx hb dX7_in_10 (by decide) (fun c2 => ?_) (fun c2 => ?_)
    · skip
      have d2 := c2
      rw [lc_gt, j_lt] at d2
      refine lv_iconst (v := nI 0) hx hb dX7_in_17 (by decide) ?_
      rw [← hQ]
      exact W.zret (v := nI 0) hx hb hr (by first | decide | (rw [nar_b01])) (fun tS htS hWS => ⟨⟨(nI 0), (), rfl, Or.inr ⟨rfl, by omega⟩, trivial⟩, hS.F htS⟩) hS.2.2 dX7_in_18
    · skip
      have d2 := c2
      rw [lc_gt, j_lt] at d2
      refine lv_iconst (v := nI 1) hx hb dX7_in_13 (by decide) ?_
      refine lv_goto (tgt := 18) hx hb dX7_in_14 (by decide) ?_
      rw [← hQ]
      exact W.zret (v := nI 1) hx hb hr (by first | decide | (rw [nar_b01])) (fun tS htS hWS => ⟨⟨(nI 1), (), rfl, Or.inl ⟨rfl, by omega⟩, trivial⟩, hS.F htS⟩) hS.2.2 dX7_in_18
def rm_c_X7_isPart : Room := { frames := 1, cells := 0, slots := 0, locals := 25 }
set_option maxHeartbeats 400000 in
set_option maxRecDepth 100000 in
theorem c_X7_isPart (l : Launch) (D : va_G) (cI cJ cZ : ClassId) (m0 : Nat) (g1 : Nat) (g2 : Nat) (g3 : Nat) (g4 : Nat) (g5 : Nat) (g6 : Nat) (g7 : Nat) (g8 : Nat) (g9 : Nat) (g10 : Nat) (g11 : Nat) (g12 : Nat) (n : Nat) (mr : Int32) (my : Int32) (mo : Int32) (ml : Int32) (p0 : Int32) (hn : n ≤ 9) (h1n : 1 ≤ n) : Met l yX7_isPart wsX7_isPart rm_c_X7_isPart (pc_ D cI cJ cZ [.ref m0, .int p0] [(m0, .inr (7, [.int (nI n), .ref g1, .ref g2, .ref g3, .int mr, .ref g4, .int my, .ref g5, .int mo, .ref g6, .int ml, .ref g7, .ref g8, .ref g9, .ref g10, .ref g11, .ref g12]))]) (va_Qi (fun (r : Int32) (_ : Unit) => B01 r (0 ≤ p0.toInt ∧ p0.toInt < n)) (fun _ _ => True) aN) 0 0 aN := by
  refine Met.ofW (cc := cX7_isPart) (maxL := 2) (ret := (some .boolean)) (by decide) rfl ?_
  intro p e s m args below meth c s₁ B hml hv
  obtain ⟨rfl, hP, hKN⟩ := hv
  have hK := hKN.1
  have hx := B.exec
  have hb := B.bytes
  have hr := B.returns
  have hts := atoms_spec (ws := wsX7_isPart) B.pre
  have hown : s.vm.findClass RX7 = some m.cls := findClass_of_methodNamed B.named
  have hlocks := B.notSynchronized
  have hiX7 : ∀ w ∈ wsX70, w ∈ wsX7_isPart := by decide +kernel
  have hf7 := hts (.fieldLink RX7 7 "LookBenchModel" "parts" "I") (by decide +kernel)
  have hS : va_S aN s.heap s.heap [] := va_S.rf
  have hl := lv_entry ([.ref m0, .int p0]) (n := 2) (Nat.le_of_ble_eq_true rfl)
  rw [lg_entry_eq]
  generalize (lg_sl ([.ref m0, .int p0]) ++ List.replicate (2 - (lg_sl ([.ref m0, .int p0])).length) Slot.unset).toArray = ls at hl ⊢
  have hl : lv_has ls 2 [(0, .ref m0), (1, .int p0)] := hl
  generalize hQ : MQ below _ _ s _ _ _ = Q
  obtain ⟨H, hH⟩ : ∃ z, z = s.heap := ⟨_, rfl⟩
  have hP : va_P D vwCl [(m0, .inr (7, [.int (nI n), .ref g1, .ref g2, .ref g3, .int mr, .ref g4, .int my, .ref g5, .int mo, .ref g6, .int ml, .ref g7, .ref g8, .ref g9, .ref g10, .ref g11, .ref g12]))] H := by rw [hH]; exact hP
  have hS : va_S aN s.heap H [] := by rw [hH]; exact hS
  refine m_heap hH ?_
  clear hH
  refine lv_iload_n hx hb dX7_isPart_0 rfl (lv_at hl 1 rfl) ?_
  refine lv_i2l hx hb dX7_isPart_1 rfl ?_
  refine lv_lconst (v := lN 0) hx hb dX7_isPart_2 (by decide) ?_
  refine lv_aload_n hx hb dX7_isPart_3 rfl (lv_at hl 0 rfl) ?_
  refine va_get (D := D) (ci := 7) (v := .int (nI n)) (C := RX7) (T := TX7) (N := 17) hx hb hts hiX7 hown hK hP 0 rfl rfl 0 (by decide) hf7 (fun _ h9 => h9) rfl dX7_isPart_4 ?_
  refine lv_iconst (v := nI 1) hx hb dX7_isPart_7 (by decide) ?_
  refine lv_isub hx hb dX7_isPart_8 ?_
  refine cn_i (y := nI (n - 1)) (pk_sub (a := n) (b := 1) (by omega)) ?_
  refine lv_i2l hx hb dX7_isPart_9 rfl ?_
  refine cn_l (y := lN (n - 1)) (nI_l (by omega)) ?_
  refine pu_i (va_runS (As := [.long p0.toInt64, .long (lN 0), .long (lN (n - 1))]) (rest := []) ⟨hx, hb, hml, hown, hts⟩ (c_X7_in l D cI cJ cZ p0.toInt64 (lN 0) (lN (n - 1))) (va_cwS 3 hts gX7_isPart_X7_in rfl rfl rfl (by decide +kernel) ⟨Nat.le_of_ble_eq_true rfl, Nat.le_of_ble_eq_true rfl⟩) ⟨pc_blind, fun U hU hW => ⟨rfl, by rw [hU]; exact hP.sub (ws' := []) [] rfl, hKN.warm hW⟩⟩ rfl rfl hl.1 rfl (lv_room (Nat.le_of_ble_eq_true rfl)) dX7_isPart_10 ⟨Nat.le_of_ble_eq_true rfl, Nat.le_of_ble_eq_true rfl⟩) hS hP (fun r1 H locs w1r hP hS => ?_)
  have w1 : B01 r1 ((lN 0).toInt ≤ p0.toInt64.toInt ∧ p0.toInt64.toInt ≤ (lN (n - 1)).toInt) := w1r
  clear w1r
  rw [lN_toInt (n := 0) (by omega), j2 p0, lN_toInt (n := (n - 1)) (by omega)] at w1
  rcases w1 with ⟨rfl, w1⟩ | ⟨rfl, w1⟩
  · skip
    rw [← hQ]
    exact W.zret (v := nI 1) hx hb hr (by first | decide | (rw [nar_b01])) (fun tS htS hWS => ⟨⟨(nI 1), (), rfl, Or.inl ⟨rfl, by omega⟩, trivial⟩, hS.F htS⟩) hS.2.2 dX7_isPart_13
  · skip
    rw [← hQ]
    exact W.zret (v := nI 0) hx hb hr (by first | decide | (rw [nar_b01])) (fun tS htS hWS => ⟨⟨(nI 0), (), rfl, Or.inr ⟨rfl, by omega⟩, trivial⟩, hS.F htS⟩) hS.2.2 dX7_isPart_13
def rm_c_X7_isRule : Room := { frames := 1, cells := 0, slots := 0, locals := 25 }
set_option maxHeartbeats 400000 in
set_option maxRecDepth 100000 in
theorem c_X7_isRule (l : Launch) (D : va_G) (cI cJ cZ : ClassId) (m0 : Nat) (g1 : Nat) (g2 : Nat) (g3 : Nat) (g4 : Nat) (g5 : Nat) (g6 : Nat) (g7 : Nat) (g8 : Nat) (g9 : Nat) (g10 : Nat) (g11 : Nat) (g12 : Nat) (c0 : Nat) (mp : Int32) (my : Int32) (mo : Int32) (ml : Int32) (p0 : Int32) (hc : c0 ≤ 40) : Met l yX7_isRule wsX7_isRule rm_c_X7_isRule (pc_ D cI cJ cZ [.ref m0, .int p0] [(m0, .inr (7, [.int mp, .ref g1, .ref g2, .ref g3, .int (nI c0), .ref g4, .int my, .ref g5, .int mo, .ref g6, .int ml, .ref g7, .ref g8, .ref g9, .ref g10, .ref g11, .ref g12]))]) (va_Qi (fun (r : Int32) (_ : Unit) => B01 r (0 ≤ p0.toInt ∧ p0.toInt < c0)) (fun _ _ => True) aN) 0 0 aN := by
  refine Met.ofW (cc := cX7_isRule) (maxL := 2) (ret := (some .boolean)) (by decide) rfl ?_
  intro p e s m args below meth c s₁ B hml hv
  obtain ⟨rfl, hP, hKN⟩ := hv
  have hK := hKN.1
  have hx := B.exec
  have hb := B.bytes
  have hr := B.returns
  have hts := atoms_spec (ws := wsX7_isRule) B.pre
  have hown : s.vm.findClass RX7 = some m.cls := findClass_of_methodNamed B.named
  have hlocks := B.notSynchronized
  have hiX7 : ∀ w ∈ wsX70, w ∈ wsX7_isRule := by decide +kernel
  have hf59 := hts (.fieldLink RX7 59 "LookBenchModel" "rules" "I") (by decide +kernel)
  have hS : va_S aN s.heap s.heap [] := va_S.rf
  have hl := lv_entry ([.ref m0, .int p0]) (n := 2) (Nat.le_of_ble_eq_true rfl)
  rw [lg_entry_eq]
  generalize (lg_sl ([.ref m0, .int p0]) ++ List.replicate (2 - (lg_sl ([.ref m0, .int p0])).length) Slot.unset).toArray = ls at hl ⊢
  have hl : lv_has ls 2 [(0, .ref m0), (1, .int p0)] := hl
  generalize hQ : MQ below _ _ s _ _ _ = Q
  obtain ⟨H, hH⟩ : ∃ z, z = s.heap := ⟨_, rfl⟩
  have hP : va_P D vwCl [(m0, .inr (7, [.int mp, .ref g1, .ref g2, .ref g3, .int (nI c0), .ref g4, .int my, .ref g5, .int mo, .ref g6, .int ml, .ref g7, .ref g8, .ref g9, .ref g10, .ref g11, .ref g12]))] H := by rw [hH]; exact hP
  have hS : va_S aN s.heap H [] := by rw [hH]; exact hS
  refine m_heap hH ?_
  clear hH
  refine lv_iload_n hx hb dX7_isRule_0 rfl (lv_at hl 1 rfl) ?_
  refine lv_i2l hx hb dX7_isRule_1 rfl ?_
  refine lv_lconst (v := lN 0) hx hb dX7_isRule_2 (by decide) ?_
  refine lv_aload_n hx hb dX7_isRule_3 rfl (lv_at hl 0 rfl) ?_
  refine va_get (D := D) (ci := 7) (v := .int (nI c0)) (C := RX7) (T := TX7) (N := 17) hx hb hts hiX7 hown hK hP 0 rfl rfl 4 (by decide) hf59 (fun _ h9 => h9) rfl dX7_isRule_4 ?_
  refine lv_iconst (v := nI 1) hx hb dX7_isRule_7 (by decide) ?_
  refine lv_isub hx hb dX7_isRule_8 ?_
  refine cn_i (y := nI c0 - nI 1) (rfl) ?_
  refine lv_i2l hx hb dX7_isRule_9 rfl ?_
  refine pu_i (va_runS (As := [.long p0.toInt64, .long (lN 0), .long ((nI c0 - nI 1).toInt64)]) (rest := []) ⟨hx, hb, hml, hown, hts⟩ (c_X7_in l D cI cJ cZ p0.toInt64 (lN 0) ((nI c0 - nI 1).toInt64)) (va_cwS 3 hts gX7_isRule_X7_in rfl rfl rfl (by decide +kernel) ⟨Nat.le_of_ble_eq_true rfl, Nat.le_of_ble_eq_true rfl⟩) ⟨pc_blind, fun U hU hW => ⟨rfl, by rw [hU]; exact hP.sub (ws' := []) [] rfl, hKN.warm hW⟩⟩ rfl rfl hl.1 rfl (lv_room (Nat.le_of_ble_eq_true rfl)) dX7_isRule_10 ⟨Nat.le_of_ble_eq_true rfl, Nat.le_of_ble_eq_true rfl⟩) hS hP (fun r1 H locs w1r hP hS => ?_)
  have w1 : B01 r1 ((lN 0).toInt ≤ p0.toInt64.toInt ∧ p0.toInt64.toInt ≤ ((nI c0 - nI 1).toInt64).toInt) := w1r
  clear w1r
  rw [lN_toInt (n := 0) (by omega), j2 p0, j2 (nI c0 - nI 1), pk_sub_toInt (a := c0) (b := 1) (by omega) (by omega)] at w1
  rcases w1 with ⟨rfl, w1⟩ | ⟨rfl, w1⟩
  · skip
    rw [← hQ]
    exact W.zret (v := nI 1) hx hb hr (by first | decide | (rw [nar_b01])) (fun tS htS hWS => ⟨⟨(nI 1), (), rfl, Or.inl ⟨rfl, by omega⟩, trivial⟩, hS.F htS⟩) hS.2.2 dX7_isRule_13
  · skip
    rw [← hQ]
    exact W.zret (v := nI 0) hx hb hr (by first | decide | (rw [nar_b01])) (fun tS htS hWS => ⟨⟨(nI 0), (), rfl, Or.inr ⟨rfl, by omega⟩, trivial⟩, hS.F htS⟩) hS.2.2 dX7_isRule_13
def rm_c_X7_settings : Room := { frames := 0, cells := 0, slots := 0, locals := 0 }
set_option maxHeartbeats 400000 in
set_option maxRecDepth 100000 in
theorem c_X7_settings (l : Launch) (D : va_G) (cI cJ cZ : ClassId) (m0 : Nat) (g1 : Nat) (g2 : Nat) (g3 : Nat) (g4 : Nat) (g5 : Nat) (g6 : Nat) (g7 : Nat) (g8 : Nat) (g9 : Nat) (g10 : Nat) (g11 : Nat) (g12 : Nat) (n : Nat) (mr : Int32) (my : Int32) (mo : Int32) (ml : Int32) (hn : n ≤ 9) : Met l yX7_settings wsX7_settings rm_c_X7_settings (pc_ D cI cJ cZ [.ref m0] [(m0, .inr (7, [.int (nI n), .ref g1, .ref g2, .ref g3, .int mr, .ref g4, .int my, .ref g5, .int mo, .ref g6, .int ml, .ref g7, .ref g8, .ref g9, .ref g10, .ref g11, .ref g12]))]) (va_Qi (fun (r : Int32) (_ : Unit) => r = nI (2 ^ n)) (fun _ _ => True) aN) 0 0 aN := by
  refine Met.ofW (cc := cX7_settings) (maxL := 1) (ret := (some .int)) (by decide) rfl ?_
  intro p e s m args below meth c s₁ B hml hv
  obtain ⟨rfl, hP, hKN⟩ := hv
  have hK := hKN.1
  have hx := B.exec
  have hb := B.bytes
  have hr := B.returns
  have hts := atoms_spec (ws := wsX7_settings) B.pre
  have hown : s.vm.findClass RX7 = some m.cls := findClass_of_methodNamed B.named
  have hlocks := B.notSynchronized
  have hiX7 : ∀ w ∈ wsX70, w ∈ wsX7_settings := by decide +kernel
  have hf7 := hts (.fieldLink RX7 7 "LookBenchModel" "parts" "I") (by decide +kernel)
  have hS : va_S aN s.heap s.heap [] := va_S.rf
  have hl := lv_entry ([.ref m0]) (n := 1) (Nat.le_of_ble_eq_true rfl)
  rw [lg_entry_eq]
  generalize (lg_sl ([.ref m0]) ++ List.replicate (1 - (lg_sl ([.ref m0])).length) Slot.unset).toArray = ls at hl ⊢
  have hl : lv_has ls 1 [(0, .ref m0)] := hl
  generalize hQ : MQ below _ _ s _ _ _ = Q
  obtain ⟨H, hH⟩ : ∃ z, z = s.heap := ⟨_, rfl⟩
  have hP : va_P D vwCl [(m0, .inr (7, [.int (nI n), .ref g1, .ref g2, .ref g3, .int mr, .ref g4, .int my, .ref g5, .int mo, .ref g6, .int ml, .ref g7, .ref g8, .ref g9, .ref g10, .ref g11, .ref g12]))] H := by rw [hH]; exact hP
  have hS : va_S aN s.heap H [] := by rw [hH]; exact hS
  refine m_heap hH ?_
  clear hH
  refine lv_iconst (v := nI 1) hx hb dX7_settings_0 (by decide) ?_
  refine lv_aload_n hx hb dX7_settings_1 rfl (lv_at hl 0 rfl) ?_
  refine va_get (D := D) (ci := 7) (v := .int (nI n)) (C := RX7) (T := TX7) (N := 17) hx hb hts hiX7 hown hK hP 0 rfl rfl 0 (by decide) hf7 (fun _ h9 => h9) rfl dX7_settings_2 ?_
  refine lv_ishl hx hb dX7_settings_5 ?_
  refine cn_i (y := nI (2 ^ n)) (m_shl1 (by omega)) ?_
  rw [← hQ]
  exact W.iret (v := nI (2 ^ n)) hx hb hr (fun tS htS hWS => ⟨⟨(nI (2 ^ n)), (), rfl, rfl, trivial⟩, hS.F htS⟩) hS.2.2 dX7_settings_6
def rm_c_X7_added : Room := { frames := 0, cells := 0, slots := 0, locals := 0 }
set_option maxHeartbeats 400000 in
set_option maxRecDepth 100000 in
theorem c_X7_added (l : Launch) (D : va_G) (cI cJ cZ : ClassId) (m0 : Nat) (g1 : Nat) (g2 : Nat) (g3 : Nat) (g4 : Nat) (g5 : Nat) (g6 : Nat) (g7 : Nat) (g8 : Nat) (g9 : Nat) (g10 : Nat) (g11 : Nat) (g12 : Nat) (c0 : Nat) (mp : Int32) (my : Int32) (mo : Int32) (ml : Int32) (hc : c0 ≤ 40) : Met l yX7_added wsX7_added rm_c_X7_added (pm_ D cI cJ cZ [.ref m0] [(m0, .inr (7, [.int mp, .ref g1, .ref g2, .ref g3, .int (nI c0), .ref g4, .int my, .ref g5, .int mo, .ref g6, .int ml, .ref g7, .ref g8, .ref g9, .ref g10, .ref g11, .ref g12]))]) (va_Qi (fun (r : Int32) (u : Unit) => r = nI c0) (fun (u : Unit) tS => va_P D vwCl [(m0, .inr (7, [.int mp, .ref g1, .ref g2, .ref g3, .int (nI (c0 + 1)), .ref g4, .int my, .ref g5, .int mo, .ref g6, .int ml, .ref g7, .ref g8, .ref g9, .ref g10, .ref g11, .ref g12]))] tS.heap) (aA [m0])) 0 0 (aA [m0]) := by
  refine Met.ofW (cc := cX7_added) (maxL := 1) (ret := (some .int)) (by decide) rfl ?_
  intro p e s m args below meth c s₁ B hml hv
  obtain ⟨rfl, hP, hKN, hD0⟩ := hv
  have hK := hKN.1
  have hx := B.exec
  have hb := B.bytes
  have hr := B.returns
  have hts := atoms_spec (ws := wsX7_added) B.pre
  have hown : s.vm.findClass RX7 = some m.cls := findClass_of_methodNamed B.named
  have hlocks := B.notSynchronized
  have hiX7 : ∀ w ∈ wsX70, w ∈ wsX7_added := by decide +kernel
  have hf59 := hts (.fieldLink RX7 59 "LookBenchModel" "rules" "I") (by decide +kernel)
  obtain ⟨as, has⟩ : ∃ z : List Nat, z = [m0] := ⟨_, rfl⟩
  have hD := hD0.addr (as := as) (by rw [has]; rfl)
  have hS : va_S (aA as) s.heap s.heap [] := va_S.rf
  have hl := lv_entry ([.ref m0]) (n := 1) (Nat.le_of_ble_eq_true rfl)
  rw [lg_entry_eq]
  generalize (lg_sl ([.ref m0]) ++ List.replicate (1 - (lg_sl ([.ref m0])).length) Slot.unset).toArray = ls at hl ⊢
  have hl : lv_has ls 1 [(0, .ref m0)] := hl
  generalize hQ : MQ below _ _ s _ _ _ = Q
  obtain ⟨H, hH⟩ : ∃ z, z = s.heap := ⟨_, rfl⟩
  have hP : va_P D vwCl [(m0, .inr (7, [.int mp, .ref g1, .ref g2, .ref g3, .int (nI c0), .ref g4, .int my, .ref g5, .int mo, .ref g6, .int ml, .ref g7, .ref g8, .ref g9, .ref g10, .ref g11, .ref g12]))] H := by rw [hH]; exact hP
  have hS : va_S (aA as) s.heap H [] := by rw [hH]; exact hS
  refine m_heap hH ?_
  clear hH
  refine lv_aload_n hx hb dX7_added_0 rfl (lv_at hl 0 rfl) ?_
  refine lv_dup hx hb dX7_added_1 rfl ?_
  refine va_get (D := D) (ci := 7) (v := .int (nI c0)) (C := RX7) (T := TX7) (N := 17) hx hb hts hiX7 hown hK hP 0 rfl rfl 4 (by decide) hf59 (fun _ h9 => h9) rfl dX7_added_2 ?_
  refine lv_iconst (v := nI 1) hx hb dX7_added_5 (by decide) ?_
  refine lv_iadd hx hb dX7_added_6 ?_
  refine cn_i (y := nI (c0 + 1)) (nI_add c0 1) ?_
  refine va_put (D := D) (ci := 7) (v := .int (nI (c0 + 1))) (ty := tyX7 4) (C := RX7) (T := TX7) (N := 17) hx hb hts hiX7 tyX7 tyX7_ok nmX7 hown hK hP hD hS 0 rfl rfl 4 (by decide) hf59 (fun _ h9 => h9) rfl (by decide +kernel) rfl rfl (Nat.le_of_ble_eq_true rfl) dX7_added_7 (fun H locs hP hD hS => ?_)
  have hP : va_P D vwCl [(m0, .inr (7, [.int mp, .ref g1, .ref g2, .ref g3, .int (nI (c0 + 1)), .ref g4, .int my, .ref g5, .int mo, .ref g6, .int ml, .ref g7, .ref g8, .ref g9, .ref g10, .ref g11, .ref g12]))] H := hP
  have hD : va_D (aA as) [(m0, .inr (7, [.int mp, .ref g1, .ref g2, .ref g3, .int (nI (c0 + 1)), .ref g4, .int my, .ref g5, .int mo, .ref g6, .int ml, .ref g7, .ref g8, .ref g9, .ref g10, .ref g11, .ref g12]))] := hD
  refine lv_aload_n hx hb dX7_added_10 rfl (lv_at hl 0 rfl) ?_
  refine va_get (D := D) (ci := 7) (v := .int (nI (c0 + 1))) (C := RX7) (T := TX7) (N := 17) hx hb hts hiX7 hown hK hP 0 rfl rfl 4 (by decide) hf59 (fun _ h9 => h9) rfl dX7_added_11 ?_
  refine lv_iconst (v := nI 1) hx hb dX7_added_14 (by decide) ?_
  refine lv_isub hx hb dX7_added_15 ?_
  refine cn_i (y := nI c0) ((pk_sub (a := c0 + 1) (b := 1) (by omega)).trans (congrArg nI (by omega))) ?_
  rw [← hQ]
  exact W.iret (v := nI c0) hx hb hr (fun tS htS hWS => ⟨⟨(nI c0), (), rfl, rfl, m_at htS hP⟩, by rw [← has]; exact hS.F htS⟩) (by rw [← has]; exact hS.2.2) dX7_added_16
def rm_c_X7_placeOf : Room := { frames := 0, cells := 0, slots := 0, locals := 0 }
set_option maxHeartbeats 400000 in
set_option maxRecDepth 100000 in
theorem c_X7_placeOf (l : Launch) (D : va_G) (cI cJ cZ : ClassId) (m0 : Nat) (g1 : Nat) (g2 : Nat) (g3 : Nat) (g4 : Nat) (g5 : Nat) (g6 : Nat) (g7 : Nat) (g8 : Nat) (g9 : Nat) (g10 : Nat) (g11 : Nat) (g12 : Nat) (q : Nat) (mp : Int32) (mr : Int32) (my : Int32) (ml : Int32) (p0 : Int32) (fo : Nat → Int32) (hq : q ≤ 9) : Met l yX7_placeOf wsX7_placeOf rm_c_X7_placeOf (pc_ D cI cJ cZ [.ref m0, .int p0] [(m0, .inr (7, [.int mp, .ref g1, .ref g2, .ref g3, .int mr, .ref g4, .int my, .ref g5, .int (nI q), .ref g6, .int ml, .ref g7, .ref g8, .ref g9, .ref g10, .ref g11, .ref g12])), (g6, .inl (cI, 9, .inl fo))]) (va_Qi (fun (r : Int32) (_ : Unit) => (r = -1 ∧ ∀ z, z < q → ¬ fo z = p0) ∨ (∃ z, z < q ∧ r = nI z ∧ fo z = p0)) (fun _ _ => True) aN) 0 0 aN := by
  refine Met.ofW (cc := cX7_placeOf) (maxL := 4) (ret := (some .int)) (by decide) rfl ?_
  intro p e s m args below meth c s₁ B hml hv
  obtain ⟨rfl, hP, hKN⟩ := hv
  have hK := hKN.1
  have hx := B.exec
  have hb := B.bytes
  have hr := B.returns
  have hts := atoms_spec (ws := wsX7_placeOf) B.pre
  have hown : s.vm.findClass RX7 = some m.cls := findClass_of_methodNamed B.named
  have hlocks := B.notSynchronized
  have hiX7 : ∀ w ∈ wsX70, w ∈ wsX7_placeOf := by decide +kernel
  have hf33 := hts (.fieldLink RX7 33 "LookBenchModel" "order" "[I") (by decide +kernel)
  have hf64 := hts (.fieldLink RX7 64 "LookBenchModel" "ordered" "I") (by decide +kernel)
  have hS : va_S aN s.heap s.heap [] := va_S.rf
  have hl := lv_entry ([.ref m0, .int p0]) (n := 4) (Nat.le_of_ble_eq_true rfl)
  rw [lg_entry_eq]
  generalize (lg_sl ([.ref m0, .int p0]) ++ List.replicate (4 - (lg_sl ([.ref m0, .int p0])).length) Slot.unset).toArray = ls at hl ⊢
  have hl : lv_has ls 4 [(0, .ref m0), (1, .int p0)] := hl
  generalize hQ : MQ below _ _ s _ _ _ = Q
  obtain ⟨H, hH⟩ : ∃ z, z = s.heap := ⟨_, rfl⟩
  have hP : va_P D vwCl [(m0, .inr (7, [.int mp, .ref g1, .ref g2, .ref g3, .int mr, .ref g4, .int my, .ref g5, .int (nI q), .ref g6, .int ml, .ref g7, .ref g8, .ref g9, .ref g10, .ref g11, .ref g12])), (g6, .inl (cI, 9, .inl fo))] H := by rw [hH]; exact hP
  have hS : va_S aN s.heap H [] := by rw [hH]; exact hS
  refine m_heap hH ?_
  clear hH
  refine lv_iconst (v := (-1 : Int32)) hx hb dX7_placeOf_0 (by decide) ?_
  refine lv_istore_n (lv' := [(2, .int (-1 : Int32)), (0, .ref m0), (1, .int p0)]) hx hb dX7_placeOf_1 rfl hl (by decide) rfl (fun ls hl => ?_)
  refine lv_iconst (v := nI 0) hx hb dX7_placeOf_2 (by decide) ?_
  refine lv_istore_n (lv' := [(3, .int (nI 0)), (2, .int (-1 : Int32)), (0, .ref m0), (1, .int p0)]) hx hb dX7_placeOf_3 rfl hl (by decide) rfl (fun ls hl => ?_)
  have loop1 : ∀ (fu : Nat) (k : Nat) (v : Int32) (H : Heap) (locs : List Loc) (ls : Array Slot), (k ≤ q ∧ q < k + fu) → ((v = -1 ∧ ∀ z, z < k → ¬ fo z = p0) ∨ (∃ z, z < k ∧ v = nI z ∧ fo z = p0)) → va_P D vwCl [(m0, .inr (7, [.int mp, .ref g1, .ref g2, .ref g3, .int mr, .ref g4, .int my, .ref g5, .int (nI q), .ref g6, .int ml, .ref g7, .ref g8, .ref g9, .ref g10, .ref g11, .ref g12])), (g6, .inl (cI, 9, .inl fo))] H → va_S aN s.heap H locs → lv_has ls 4 [(3, .int (nI k)), (2, .int v), (0, .ref m0), (1, .int p0)] → W p l e (headSpec wsX7_placeOf rm_c_X7_placeOf).room s m ([.ref m0, .int p0] : List Value).toArray below meth c H locs 0 0 Q (F0 m 4 ls []) := by
    intro fu
    induction fu with
    | zero => intro k v H locs ls hk hv; exact absurd hk (by omega)
    | succ fu ih1 =>
      intro k v H locs ls hk hv hP hS hl
      refine lv_iload_n hx hb dX7_placeOf_4 rfl (lv_at hl 0 rfl) ?_
      refine lv_aload_n hx hb dX7_placeOf_5 rfl (lv_at hl 2 rfl) ?_
      refine va_get (D := D) (ci := 7) (v := .int (nI q)) (C := RX7) (T := TX7) (N := 17) hx hb hts hiX7 hown hK hP 0 rfl rfl 8 (by decide) hf64 (fun _ h9 => h9) rfl dX7_placeOf_6 ?_
      refine lv_icmp_ge (tgt := 34) hx hb dX7_placeOf_9 (by decide) (fun c2 => ?_) (fun c2 => ?_)
      · skip
        have d2 := c2
        rw [nI_leI (by omega) (by omega)] at d2
        refine lv_iload_n hx hb dX7_placeOf_34 rfl (lv_at hl 1 rfl) ?_
        rw [← hQ]
        exact W.iret (v := v) hx hb hr (fun tS htS hWS => ⟨⟨v, (), rfl, by have e9 : k = q := (by omega); subst e9; exact hv, trivial⟩, hS.F htS⟩) hS.2.2 dX7_placeOf_35
      · skip
        have d2 := c2
        rw [nI_leI (by omega) (by omega)] at d2
        refine lv_aload_n hx hb dX7_placeOf_12 rfl (lv_at hl 2 rfl) ?_
        refine va_get (D := D) (ci := 7) (v := .ref g6) (C := RX7) (T := TX7) (N := 17) hx hb hts hiX7 hown hK hP 0 rfl rfl 9 (by decide) hf33 (fun _ h9 => h9) rfl dX7_placeOf_13 ?_
        refine lv_iload_n hx hb dX7_placeOf_16 rfl (lv_at hl 0 rfl) ?_
        refine va_iald hx hb hK hP 1 0 rfl rfl (i := nI k) (vp_in_nI (by omega) (by omega)) dX7_placeOf_17 ?_
        refine cn_i (y := fo k) (congrArg fo (nI_clamp (by omega))) ?_
        refine lv_iload_n hx hb dX7_placeOf_18 rfl (lv_at hl 3 rfl) ?_
        refine lv_icmp_ne (tgt := 26) hx hb dX7_placeOf_19 (by decide) (fun c3 => ?_) (fun c3 => ?_)
        · skip
          refine lv_iload_n hx hb dX7_placeOf_26 rfl (lv_at hl 1 rfl) ?_
          refine lv_istore_n (lv' := [(2, .int v), (3, .int (nI k)), (0, .ref m0), (1, .int p0)]) hx hb dX7_placeOf_27 rfl hl (by decide) rfl (fun ls hl => ?_)
          refine lv_iinc (v := nI (k + 1)) (lv' := [(3, .int (nI (k + 1))), (2, .int v), (0, .ref m0), (1, .int p0)]) hx hb dX7_placeOf_28 hl (k := 1) rfl (nI_1 k) (by decide) rfl (fun ls hl => ?_)
          refine lv_goto (tgt := 4) hx hb dX7_placeOf_31 (by decide) ?_
          exact ih1 (k + 1) v _ _ _ (by omega) (by first | exact Or.inr ⟨k, by omega, rfl, c3⟩ | exact (hv.elim (fun h => Or.inl ⟨h.1, fun z hz => by rcases Nat.lt_or_ge z k with g | g; exact h.2 z g; exact (by have e9 : z = k := (by omega); subst e9; exact c3)⟩) (fun ⟨z, g1, g2, g3⟩ => Or.inr ⟨z, by omega, g2, g3⟩))) hP hS (lv_sub hl [0, 1, 2, 3] rfl)
        · skip
          refine lv_iload_n hx hb dX7_placeOf_22 rfl (lv_at hl 0 rfl) ?_
          refine lv_goto (tgt := 27) hx hb dX7_placeOf_23 (by decide) ?_
          refine lv_istore_n (lv' := [(2, .int (nI k)), (3, .int (nI k)), (0, .ref m0), (1, .int p0)]) hx hb dX7_placeOf_27 rfl hl (by decide) rfl (fun ls hl => ?_)
          refine lv_iinc (v := nI (k + 1)) (lv' := [(3, .int (nI (k + 1))), (2, .int (nI k)), (0, .ref m0), (1, .int p0)]) hx hb dX7_placeOf_28 hl (k := 1) rfl (nI_1 k) (by decide) rfl (fun ls hl => ?_)
          refine lv_goto (tgt := 4) hx hb dX7_placeOf_31 (by decide) ?_
          exact ih1 (k + 1) (nI k) _ _ _ (by omega) (by first | exact Or.inr ⟨k, by omega, rfl, c3⟩ | exact (hv.elim (fun h => Or.inl ⟨h.1, fun z hz => by rcases Nat.lt_or_ge z k with g | g; exact h.2 z g; exact (by have e9 : z = k := (by omega); subst e9; exact c3)⟩) (fun ⟨z, g1, g2, g3⟩ => Or.inr ⟨z, by omega, g2, g3⟩))) hP hS (lv_sub hl [0, 1, 2, 3] rfl)
  exact loop1 (q + 1) 0 (-1 : Int32) _ _ _ (by omega) (Or.inl ⟨rfl, fun z hz => absurd hz (by omega)⟩) hP hS (lv_sub hl [0, 1, 2, 3] rfl)
def rm_c_X7_ratioUp : Room := { frames := 0, cells := 0, slots := 0, locals := 0 }
set_option maxHeartbeats 400000 in
set_option maxRecDepth 100000 in
theorem c_X7_ratioUp (l : Launch) (D : va_G) (cI cJ cZ : ClassId) (m0 : Nat) (g1 : Nat) (g2 : Nat) (g3 : Nat) (g4 : Nat) (g5 : Nat) (g6 : Nat) (g7 : Nat) (g8 : Nat) (g9 : Nat) (g10 : Nat) (g11 : Nat) (g12 : Nat) (j : Nat) (mp : Int32) (mr : Int32) (my : Int32) (mo : Int32) (ml : Int32) (fg : Nat → Int32) (fb : Nat → Int32) (fp : Nat → Int32) (hj : j < 9) : Met l yX7_ratioUp wsX7_ratioUp rm_c_X7_ratioUp (pc_ D cI cJ cZ [.ref m0, .int (nI j)] [(m0, .inr (7, [.int mp, .ref g1, .ref g2, .ref g3, .int mr, .ref g4, .int my, .ref g5, .int mo, .ref g6, .int ml, .ref g7, .ref g8, .ref g9, .ref g10, .ref g11, .ref g12])), (g1, .inl (cI, 9, .inl fg)), (g2, .inl (cI, 9, .inl fb)), (g3, .inl (cI, 9, .inl fp))]) (va_Qi (fun (r : Int32) (_ : Unit) => r = fp j * (fg j + fb j)) (fun _ _ => True) aN) 0 0 aN := by
  refine Met.ofW (cc := cX7_ratioUp) (maxL := 2) (ret := (some .int)) (by decide) rfl ?_
  intro p e s m args below meth c s₁ B hml hv
  obtain ⟨rfl, hP, hKN⟩ := hv
  have hK := hKN.1
  have hx := B.exec
  have hb := B.bytes
  have hr := B.returns
  have hts := atoms_spec (ws := wsX7_ratioUp) B.pre
  have hown : s.vm.findClass RX7 = some m.cls := findClass_of_methodNamed B.named
  have hlocks := B.notSynchronized
  have hiX7 : ∀ w ∈ wsX70, w ∈ wsX7_ratioUp := by decide +kernel
  have hf13 := hts (.fieldLink RX7 13 "LookBenchModel" "good" "[I") (by decide +kernel)
  have hf17 := hts (.fieldLink RX7 17 "LookBenchModel" "bad" "[I") (by decide +kernel)
  have hf20 := hts (.fieldLink RX7 20 "LookBenchModel" "price" "[I") (by decide +kernel)
  have hS : va_S aN s.heap s.heap [] := va_S.rf
  have hl := lv_entry ([.ref m0, .int (nI j)]) (n := 2) (Nat.le_of_ble_eq_true rfl)
  rw [lg_entry_eq]
  generalize (lg_sl ([.ref m0, .int (nI j)]) ++ List.replicate (2 - (lg_sl ([.ref m0, .int (nI j)])).length) Slot.unset).toArray = ls at hl ⊢
  have hl : lv_has ls 2 [(0, .ref m0), (1, .int (nI j))] := hl
  generalize hQ : MQ below _ _ s _ _ _ = Q
  obtain ⟨H, hH⟩ : ∃ z, z = s.heap := ⟨_, rfl⟩
  have hP : va_P D vwCl [(m0, .inr (7, [.int mp, .ref g1, .ref g2, .ref g3, .int mr, .ref g4, .int my, .ref g5, .int mo, .ref g6, .int ml, .ref g7, .ref g8, .ref g9, .ref g10, .ref g11, .ref g12])), (g1, .inl (cI, 9, .inl fg)), (g2, .inl (cI, 9, .inl fb)), (g3, .inl (cI, 9, .inl fp))] H := by rw [hH]; exact hP
  have hS : va_S aN s.heap H [] := by rw [hH]; exact hS
  refine m_heap hH ?_
  clear hH
  refine lv_aload_n hx hb dX7_ratioUp_0 rfl (lv_at hl 0 rfl) ?_
  refine va_get (D := D) (ci := 7) (v := .ref g3) (C := RX7) (T := TX7) (N := 17) hx hb hts hiX7 hown hK hP 0 rfl rfl 3 (by decide) hf20 (fun _ h9 => h9) rfl dX7_ratioUp_1 ?_
  refine lv_iload_n hx hb dX7_ratioUp_4 rfl (lv_at hl 1 rfl) ?_
  refine va_iald hx hb hK hP 3 0 rfl rfl (i := nI j) (vp_in_nI (by omega) (by omega)) dX7_ratioUp_5 ?_
  refine cn_i (y := fp j) (congrArg fp (nI_clamp (by omega))) ?_
  refine lv_aload_n hx hb dX7_ratioUp_6 rfl (lv_at hl 0 rfl) ?_
  refine va_get (D := D) (ci := 7) (v := .ref g1) (C := RX7) (T := TX7) (N := 17) hx hb hts hiX7 hown hK hP 0 rfl rfl 1 (by decide) hf13 (fun _ h9 => h9) rfl dX7_ratioUp_7 ?_
  refine lv_iload_n hx hb dX7_ratioUp_10 rfl (lv_at hl 1 rfl) ?_
  refine va_iald hx hb hK hP 1 0 rfl rfl (i := nI j) (vp_in_nI (by omega) (by omega)) dX7_ratioUp_11 ?_
  refine cn_i (y := fg j) (congrArg fg (nI_clamp (by omega))) ?_
  refine lv_aload_n hx hb dX7_ratioUp_12 rfl (lv_at hl 0 rfl) ?_
  refine va_get (D := D) (ci := 7) (v := .ref g2) (C := RX7) (T := TX7) (N := 17) hx hb hts hiX7 hown hK hP 0 rfl rfl 2 (by decide) hf17 (fun _ h9 => h9) rfl dX7_ratioUp_13 ?_
  refine lv_iload_n hx hb dX7_ratioUp_16 rfl (lv_at hl 1 rfl) ?_
  refine va_iald hx hb hK hP 2 0 rfl rfl (i := nI j) (vp_in_nI (by omega) (by omega)) dX7_ratioUp_17 ?_
  refine cn_i (y := fb j) (congrArg fb (nI_clamp (by omega))) ?_
  refine lv_iadd hx hb dX7_ratioUp_18 ?_
  refine lv_imul hx hb dX7_ratioUp_19 ?_
  rw [← hQ]
  exact W.iret (v := (fp j) * ((fg j) + (fb j))) hx hb hr (fun tS htS hWS => ⟨⟨((fp j) * ((fg j) + (fb j))), (), rfl, rfl, trivial⟩, hS.F htS⟩) hS.2.2 dX7_ratioUp_20
def rm_c_X7_down : Room := { frames := 0, cells := 0, slots := 0, locals := 0 }
set_option maxHeartbeats 400000 in
set_option maxRecDepth 100000 in
theorem c_X7_down (l : Launch) (D : va_G) (cI cJ cZ : ClassId) (m0 : Nat) (g1 : Nat) (g2 : Nat) (g3 : Nat) (g4 : Nat) (g5 : Nat) (g6 : Nat) (g7 : Nat) (g8 : Nat) (g9 : Nat) (g10 : Nat) (g11 : Nat) (g12 : Nat) (j : Nat) (mp : Int32) (mr : Int32) (my : Int32) (mo : Int32) (ml : Int32) (sd : Int32) (fg : Nat → Int32) (fb : Nat → Int32) (hj : j < 9) : Met l yX7_down wsX7_down rm_c_X7_down (pc_ D cI cJ cZ [.ref m0, .int (nI j), .int sd] [(m0, .inr (7, [.int mp, .ref g1, .ref g2, .ref g3, .int mr, .ref g4, .int my, .ref g5, .int mo, .ref g6, .int ml, .ref g7, .ref g8, .ref g9, .ref g10, .ref g11, .ref g12])), (g1, .inl (cI, 9, .inl fg)), (g2, .inl (cI, 9, .inl fb))]) (va_Qi (fun (r : Int32) (_ : Unit) => r = if sd = 0 then fb j else fg j) (fun _ _ => True) aN) 0 0 aN := by
  refine Met.ofW (cc := cX7_down) (maxL := 3) (ret := (some .int)) (by decide) rfl ?_
  intro p e s m args below meth c s₁ B hml hv
  obtain ⟨rfl, hP, hKN⟩ := hv
  have hK := hKN.1
  have hx := B.exec
  have hb := B.bytes
  have hr := B.returns
  have hts := atoms_spec (ws := wsX7_down) B.pre
  have hown : s.vm.findClass RX7 = some m.cls := findClass_of_methodNamed B.named
  have hlocks := B.notSynchronized
  have hiX7 : ∀ w ∈ wsX70, w ∈ wsX7_down := by decide +kernel
  have hf13 := hts (.fieldLink RX7 13 "LookBenchModel" "good" "[I") (by decide +kernel)
  have hf17 := hts (.fieldLink RX7 17 "LookBenchModel" "bad" "[I") (by decide +kernel)
  have hS : va_S aN s.heap s.heap [] := va_S.rf
  have hl := lv_entry ([.ref m0, .int (nI j), .int sd]) (n := 3) (Nat.le_of_ble_eq_true rfl)
  rw [lg_entry_eq]
  generalize (lg_sl ([.ref m0, .int (nI j), .int sd]) ++ List.replicate (3 - (lg_sl ([.ref m0, .int (nI j), .int sd])).length) Slot.unset).toArray = ls at hl ⊢
  have hl : lv_has ls 3 [(0, .ref m0), (1, .int (nI j)), (2, .int sd)] := hl
  generalize hQ : MQ below _ _ s _ _ _ = Q
  obtain ⟨H, hH⟩ : ∃ z, z = s.heap := ⟨_, rfl⟩
  have hP : va_P D vwCl [(m0, .inr (7, [.int mp, .ref g1, .ref g2, .ref g3, .int mr, .ref g4, .int my, .ref g5, .int mo, .ref g6, .int ml, .ref g7, .ref g8, .ref g9, .ref g10, .ref g11, .ref g12])), (g1, .inl (cI, 9, .inl fg)), (g2, .inl (cI, 9, .inl fb))] H := by rw [hH]; exact hP
  have hS : va_S aN s.heap H [] := by rw [hH]; exact hS
  refine m_heap hH ?_
  clear hH
  refine lv_iload_n hx hb dX7_down_0 rfl (lv_at hl 2 rfl) ?_
  refine lv_if_eq (tgt := 13) hx hb dX7_down_1 (by decide) (fun c1 => ?_) (fun c1 => ?_)
  · skip
    refine lv_aload_n hx hb dX7_down_13 rfl (lv_at hl 0 rfl) ?_
    refine va_get (D := D) (ci := 7) (v := .ref g2) (C := RX7) (T := TX7) (N := 17) hx hb hts hiX7 hown hK hP 0 rfl rfl 2 (by decide) hf17 (fun _ h9 => h9) rfl dX7_down_14 ?_
    refine lv_iload_n hx hb dX7_down_17 rfl (lv_at hl 1 rfl) ?_
    refine va_iald hx hb hK hP 2 0 rfl rfl (i := nI j) (vp_in_nI (by omega) (by omega)) dX7_down_18 ?_
    refine cn_i (y := fb j) (congrArg fb (nI_clamp (by omega))) ?_
    rw [← hQ]
    exact W.iret (v := fb j) hx hb hr (fun tS htS hWS => ⟨⟨(fb j), (), rfl, by first | rw [if_pos c1] | rw [if_neg c1], trivial⟩, hS.F htS⟩) hS.2.2 dX7_down_19
  · skip
    refine lv_aload_n hx hb dX7_down_4 rfl (lv_at hl 0 rfl) ?_
    refine va_get (D := D) (ci := 7) (v := .ref g1) (C := RX7) (T := TX7) (N := 17) hx hb hts hiX7 hown hK hP 0 rfl rfl 1 (by decide) hf13 (fun _ h9 => h9) rfl dX7_down_5 ?_
    refine lv_iload_n hx hb dX7_down_8 rfl (lv_at hl 1 rfl) ?_
    refine va_iald hx hb hK hP 1 0 rfl rfl (i := nI j) (vp_in_nI (by omega) (by omega)) dX7_down_9 ?_
    refine cn_i (y := fg j) (congrArg fg (nI_clamp (by omega))) ?_
    refine lv_goto (tgt := 19) hx hb dX7_down_10 (by decide) ?_
    rw [← hQ]
    exact W.iret (v := fg j) hx hb hr (fun tS htS hWS => ⟨⟨(fg j), (), rfl, by first | rw [if_pos c1] | rw [if_neg c1], trivial⟩, hS.F htS⟩) hS.2.2 dX7_down_19
