
def Sg (fs : Nat → Int32) (y t : Nat) : Prop := fs (512 * y + t) = nI 1
def enq (fs : Nat → Int32) (y n : Nat) (wh : Int32) (t : Nat) : Prop := (wh = 0 → Sg fs y t) ∧ (¬ wh = 0 → ¬ Sg fs y (2 ^ n - 1 - t))
def lsq (fs : Nat → Int32) (y n : Nat) (wh : Int32) (t : Nat) : Prop := enq fs y n wh t ∧ ∀ z, z < n → t / 2 ^ z % 2 = 1 → ¬ enq fs y n wh (t - 2 ^ z)
theorem m_bitle {t k : Nat} (h : t / 2 ^ k % 2 = 1) : 2 ^ k ≤ t := by
  rcases Nat.lt_or_ge t (2 ^ k) with g | g
  · rw [Nat.div_eq_of_lt g] at h; omega
  · exact g
theorem m_p3 {n : Nat} (h : n ≤ 9) : 3 ^ n ≤ 19683 := by
  have : 3 ^ n ≤ 3 ^ 9 := Nat.pow_le_pow_right (by decide) h
  omega
theorem m_p3p (n : Nat) : 0 < 3 ^ n := Nat.pow_pos (by decide)
theorem m_dgt {th : Nat → Int32} {cv j : Nat} (h : th j = nI (3 ^ j)) (hc : cv < 2 ^ 31) (hj : j < 9) : dgt th (nI cv) j = nI (cv / 3 ^ j % 3) := by
  have h1 := m_p3 (n := j) (by omega)
  have h2 := m_p3p j
  have h3 := Nat.div_le_self cv (3 ^ j)
  unfold dgt
  rw [h, pk_div hc h2 (by omega), pk_rem (by omega) (by decide) (by decide)]
theorem m_th0 {th : Nat → Int32} {j : Nat} (h : th j = nI (3 ^ j)) (hj : j < 9) : ¬ th j = 0 := by
  have h1 := m_p3 (n := j) (by omega)
  have h2 := m_p3p j
  rw [h, nz_eq (by omega)]
  omega
/-- the state's number of what was seen -/
def nowN (fn : Nat → Int32) : Nat → Nat
  | 0 => 0
  | k + 1 => nowN fn k + 3 ^ k * (if fn k = nI 1 then 1 else if fn k = 0 then 2 else 0)
theorem nowN_lt (fn : Nat → Int32) : ∀ k, nowN fn k < 3 ^ k
  | 0 => Nat.zero_lt_one
  | k + 1 => by
    have h := nowN_lt fn k
    have h2 : (if fn k = nI 1 then 1 else if fn k = 0 then 2 else 0) ≤ 2 := by split <;> (try split) <;> omega
    have h3 : 3 ^ k * (if fn k = nI 1 then 1 else if fn k = 0 then 2 else 0) ≤ 3 ^ k * 2 := Nat.mul_le_mul_left _ h2
    show nowN fn k + 3 ^ k * _ < 3 ^ (k + 1)
    rw [Nat.pow_succ]
    omega
theorem mnowN {th fn : Nat → Int32} (h : ∀ z, z < 9 → th z = nI (3 ^ z)) : ∀ k, k ≤ 9 → mnow th fn k = nI (nowN fn k)
  | 0, _ => rfl
  | k + 1, hk => by
    show mnow th fn k + th k * _ = nI (nowN fn k + 3 ^ k * _)
    rw [mnowN h k (by omega), h k (by omega), ← nI_add, ← pk_mul]
    congr 2
    split
    · rfl
    · split <;> rfl
/-- the parts whose digit is h -/
def setN (cv h : Nat) : Nat → Nat
  | 0 => 0
  | k + 1 => setN cv h k + (if cv / 3 ^ k % 3 = h then 2 ^ k else 0)
theorem setN_lt (cv h : Nat) : ∀ k, setN cv h k < 2 ^ k
  | 0 => Nat.zero_lt_one
  | k + 1 => by
    have g := setN_lt cv h k
    have g2 : (if cv / 3 ^ k % 3 = h then 2 ^ k else 0) ≤ 2 ^ k := by split <;> omega
    show setN cv h k + _ < 2 ^ (k + 1)
    rw [Nat.pow_succ]
    omega
theorem setN_two {cv h h' : Nat} (hne : h ≠ h') : ∀ k, setN cv h k + setN cv h' k < 2 ^ k
  | 0 => Nat.zero_lt_one
  | k + 1 => by
    have g := setN_two (cv := cv) hne k
    have g2 : (if cv / 3 ^ k % 3 = h then 2 ^ k else 0) + (if cv / 3 ^ k % 3 = h' then 2 ^ k else 0) ≤ 2 ^ k := by
      split <;> split <;> omega
    show setN cv h k + _ + (setN cv h' k + _) < 2 ^ (k + 1)
    rw [Nat.pow_succ]
    omega
def rm_c_X7_isGood : Room := { frames := 0, cells := 0, slots := 0, locals := 0 }
set_option maxHeartbeats 400000 in
set_option maxRecDepth 100000 in
theorem c_X7_isGood (l : Launch) (D : va_G) (cI cJ cZ : ClassId) (m0 : Nat) (g1 : Nat) (g2 : Nat) (g3 : Nat) (g4 : Nat) (g5 : Nat) (g6 : Nat) (g7 : Nat) (g8 : Nat) (g9 : Nat) (g10 : Nat) (g11 : Nat) (g12 : Nat) (y : Nat) (t : Nat) (mp : Int32) (mr : Int32) (mo : Int32) (ml : Int32) (fs : Nat → Int32) (hy : y < 40) (ht : t < 512) (h01 : ∀ z, fs z = nI 0 ∨ fs z = nI 1) : Met l yX7_isGood wsX7_isGood rm_c_X7_isGood (pc_ D cI cJ cZ [.ref m0, .int (nI t)] [(m0, .inr (7, [.int mp, .ref g1, .ref g2, .ref g3, .int mr, .ref g4, .int (nI y), .ref g5, .int mo, .ref g6, .int ml, .ref g7, .ref g8, .ref g9, .ref g10, .ref g11, .ref g12])), (g4, .inl (cZ, 20480, .inl fs))]) (va_Qi (fun (r : Int32) (_ : Unit) => B01 r (Sg fs y t)) (fun _ _ => True) aN) 0 0 aN := by
  refine Met.ofW (cc := cX7_isGood) (maxL := 2) (ret := (some .boolean)) (by decide) rfl ?_
  intro p e s m args below meth c s₁ B hml hv
  obtain ⟨rfl, hP, hKN⟩ := hv
  have hK := hKN.1
  have hx := B.exec
  have hb := B.bytes
  have hr := B.returns
  have hts := atoms_spec (ws := wsX7_isGood) B.pre
  have hown : s.vm.findClass RX7 = some m.cls := findClass_of_methodNamed B.named
  have hlocks := B.notSynchronized
  have hiX7 : ∀ w ∈ wsX70, w ∈ wsX7_isGood := by decide +kernel
  have hf23 := hts (.fieldLink RX7 23 "LookBenchModel" "says" "[Z") (by decide +kernel)
  have hf27 := hts (.fieldLink RX7 27 "LookBenchModel" "system" "I") (by decide +kernel)
  have hS : va_S aN s.heap s.heap [] := va_S.rf
  have hl := lv_entry ([.ref m0, .int (nI t)]) (n := 2) (Nat.le_of_ble_eq_true rfl)
  rw [lg_entry_eq]
  generalize (lg_sl ([.ref m0, .int (nI t)]) ++ List.replicate (2 - (lg_sl ([.ref m0, .int (nI t)])).length) Slot.unset).toArray = ls at hl ⊢
  have hl : lv_has ls 2 [(0, .ref m0), (1, .int (nI t))] := hl
  generalize hQ : MQ below _ _ s _ _ _ = Q
  obtain ⟨H, hH⟩ : ∃ z, z = s.heap := ⟨_, rfl⟩
  have hP : va_P D vwCl [(m0, .inr (7, [.int mp, .ref g1, .ref g2, .ref g3, .int mr, .ref g4, .int (nI y), .ref g5, .int mo, .ref g6, .int ml, .ref g7, .ref g8, .ref g9, .ref g10, .ref g11, .ref g12])), (g4, .inl (cZ, 20480, .inl fs))] H := by rw [hH]; exact hP
  have hS : va_S aN s.heap H [] := by rw [hH]; exact hS
  refine m_heap hH ?_
  clear hH
  refine lv_aload_n hx hb dX7_isGood_0 rfl (lv_at hl 0 rfl) ?_
  refine va_get (D := D) (ci := 7) (v := .ref g4) (C := RX7) (T := TX7) (N := 17) hx hb hts hiX7 hown hK hP 0 rfl rfl 5 (by decide) hf23 (fun _ h9 => h9) rfl dX7_isGood_1 ?_
  refine lv_sipush (v := nI 512) hx hb dX7_isGood_4 (by decide) ?_
  refine lv_aload_n hx hb dX7_isGood_7 rfl (lv_at hl 0 rfl) ?_
  refine va_get (D := D) (ci := 7) (v := .int (nI y)) (C := RX7) (T := TX7) (N := 17) hx hb hts hiX7 hown hK hP 0 rfl rfl 6 (by decide) hf27 (fun _ h9 => h9) rfl dX7_isGood_8 ?_
  refine lv_imul hx hb dX7_isGood_11 ?_
  refine cn_i (y := nI (512 * y)) (pk_mul 512 y) ?_
  refine lv_iload_n hx hb dX7_isGood_12 rfl (lv_at hl 1 rfl) ?_
  refine lv_iadd hx hb dX7_isGood_13 ?_
  refine cn_i (y := nI ((512 * y) + t)) (nI_add (512 * y) t) ?_
  refine va_zald hx hb hK hP 1 2 rfl rfl (i := nI ((512 * y) + t)) (vp_in_nI (by omega) (by omega)) dX7_isGood_14 ?_
  refine cn_i (y := fs ((512 * y) + t)) (congrArg fs (nI_clamp (by omega))) ?_
  rcases h01 ((512 * y) + t) with e9 | e9
  · refine cn_i (y := nI 0) e9 ?_
    rw [← hQ]
    exact W.zret (v := nI 0) hx hb hr (by first | decide | (rw [nar_b01])) (fun tS htS hWS => ⟨⟨(nI 0), (), rfl, Or.inr ⟨rfl, by first | exact e9 | exact fun h => absurd (e9.symm.trans h) (by decide)⟩, trivial⟩, hS.F htS⟩) hS.2.2 dX7_isGood_15
  · refine cn_i (y := nI 1) e9 ?_
    rw [← hQ]
    exact W.zret (v := nI 1) hx hb hr (by first | decide | (rw [nar_b01])) (fun tS htS hWS => ⟨⟨(nI 1), (), rfl, Or.inl ⟨rfl, by first | exact e9 | exact fun h => absurd (e9.symm.trans h) (by decide)⟩, trivial⟩, hS.F htS⟩) hS.2.2 dX7_isGood_15
def rm_c_X7_isEnough : Room := { frames := 1, cells := 0, slots := 0, locals := 21 }
set_option maxHeartbeats 400000 in
set_option maxRecDepth 100000 in
theorem c_X7_isEnough (l : Launch) (D : va_G) (cI cJ cZ : ClassId) (m0 : Nat) (g1 : Nat) (g2 : Nat) (g3 : Nat) (g4 : Nat) (g5 : Nat) (g6 : Nat) (g7 : Nat) (g8 : Nat) (g9 : Nat) (g10 : Nat) (g11 : Nat) (g12 : Nat) (n : Nat) (y : Nat) (t : Nat) (mr : Int32) (mo : Int32) (ml : Int32) (wh : Int32) (fs : Nat → Int32) (hn : n ≤ 9) (hy : y < 40) (ht : t < 2 ^ n) (h01 : ∀ z, fs z = nI 0 ∨ fs z = nI 1) : Met l yX7_isEnough wsX7_isEnough rm_c_X7_isEnough (pc_ D cI cJ cZ [.ref m0, .int wh, .int (nI t)] [(m0, .inr (7, [.int (nI n), .ref g1, .ref g2, .ref g3, .int mr, .ref g4, .int (nI y), .ref g5, .int mo, .ref g6, .int ml, .ref g7, .ref g8, .ref g9, .ref g10, .ref g11, .ref g12])), (g4, .inl (cZ, 20480, .inl fs))]) (va_Qi (fun (r : Int32) (_ : Unit) => B01 r (enq fs y n wh t)) (fun _ _ => True) aN) 0 0 aN := by
  refine Met.ofW (cc := cX7_isEnough) (maxL := 3) (ret := (some .boolean)) (by decide) rfl ?_
  intro p e s m args below meth c s₁ B hml hv
  obtain ⟨rfl, hP, hKN⟩ := hv
  have hK := hKN.1
  have hx := B.exec
  have hb := B.bytes
  have hr := B.returns
  have hts := atoms_spec (ws := wsX7_isEnough) B.pre
  have hown : s.vm.findClass RX7 = some m.cls := findClass_of_methodNamed B.named
  have hlocks := B.notSynchronized
  have hS : va_S aN s.heap s.heap [] := va_S.rf
  have hl := lv_entry ([.ref m0, .int wh, .int (nI t)]) (n := 3) (Nat.le_of_ble_eq_true rfl)
  rw [lg_entry_eq]
  generalize (lg_sl ([.ref m0, .int wh, .int (nI t)]) ++ List.replicate (3 - (lg_sl ([.ref m0, .int wh, .int (nI t)])).length) Slot.unset).toArray = ls at hl ⊢
  have hl : lv_has ls 3 [(0, .ref m0), (1, .int wh), (2, .int (nI t))] := hl
  generalize hQ : MQ below _ _ s _ _ _ = Q
  obtain ⟨H, hH⟩ : ∃ z, z = s.heap := ⟨_, rfl⟩
  have hP : va_P D vwCl [(m0, .inr (7, [.int (nI n), .ref g1, .ref g2, .ref g3, .int mr, .ref g4, .int (nI y), .ref g5, .int mo, .ref g6, .int ml, .ref g7, .ref g8, .ref g9, .ref g10, .ref g11, .ref g12])), (g4, .inl (cZ, 20480, .inl fs))] H := by rw [hH]; exact hP
  have hS : va_S aN s.heap H [] := by rw [hH]; exact hS
  refine m_heap hH ?_
  clear hH
  have h2n := m_pow hn
  have h2p := m_powp n
  refine lv_iload_n hx hb dX7_isEnough_0 rfl (lv_at hl 1 rfl) ?_
  refine lv_if_ne (tgt := 12) hx hb dX7_isEnough_1 (by decide) (fun c1 => ?_) (fun c1 => ?_)
  · skip
    refine lv_aload_n hx hb dX7_isEnough_12 rfl (lv_at hl 0 rfl) ?_
    refine lv_aload_n hx hb dX7_isEnough_13 rfl (lv_at hl 0 rfl) ?_
    refine pu_i (va_runV (As := []) (rest := [.ref m0]) ⟨hx, hb, hml, hown, hts⟩ (c_X7_settings l D cI cJ cZ m0 g1 g2 g3 g4 g5 g6 g7 g8 g9 g10 g11 g12 n mr (nI y) mo ml (by first | assumption | omega)) (cwV 0 hts gX7_isEnough_X7_settings rfl rfl rfl (by decide +kernel) ⟨Nat.le_of_ble_eq_true rfl, Nat.le_of_ble_eq_true rfl⟩) ⟨pc_blind, va_recv hK hP (ci := 7) (q0 := 0) rfl rfl, fun U hU hW => ⟨rfl, by rw [hU]; exact hP.sub (ws' := [(m0, .inr (7, [.int (nI n), .ref g1, .ref g2, .ref g3, .int mr, .ref g4, .int (nI y), .ref g5, .int mo, .ref g6, .int ml, .ref g7, .ref g8, .ref g9, .ref g10, .ref g11, .ref g12]))]) [0] rfl, hKN.warm hW⟩⟩ rfl rfl hl.1 rfl (lv_room (Nat.le_of_ble_eq_true rfl)) dX7_isEnough_14 ⟨Nat.le_of_ble_eq_true rfl, Nat.le_of_ble_eq_true rfl⟩) hS hP (fun r2 H locs w2r hP hS => ?_)
    have w2 : r2 = nI (2 ^ n) := w2r
    clear w2r
    obtain rfl : r2 = nI (2 ^ n) := w2
    refine lv_iconst (v := nI 1) hx hb dX7_isEnough_17 (by decide) ?_
    refine lv_isub hx hb dX7_isEnough_18 ?_
    refine cn_i (y := nI ((2 ^ n) - 1)) (pk_sub (a := (2 ^ n)) (b := 1) (by omega)) ?_
    refine lv_iload_n hx hb dX7_isEnough_19 rfl (lv_at hl 2 rfl) ?_
    refine lv_isub hx hb dX7_isEnough_20 ?_
    refine cn_i (y := nI (((2 ^ n) - 1) - t)) (pk_sub (a := ((2 ^ n) - 1)) (b := t) (by omega)) ?_
    refine pu_i (va_runV (As := [.int (nI (((2 ^ n) - 1) - t))]) (rest := []) ⟨hx, hb, hml, hown, hts⟩ (c_X7_isGood l D cI cJ cZ m0 g1 g2 g3 g4 g5 g6 g7 g8 g9 g10 g11 g12 y (((2 ^ n) - 1) - t) (nI n) mr mo ml fs (by first | assumption | omega) (by first | assumption | omega) (by first | assumption | omega)) (cwV 1 hts gX7_isEnough_X7_isGood rfl rfl rfl (by decide +kernel) ⟨Nat.le_of_ble_eq_true rfl, Nat.le_of_ble_eq_true rfl⟩) ⟨pc_blind, va_recv hK hP (ci := 7) (q0 := 0) rfl rfl, fun U hU hW => ⟨rfl, by rw [hU]; exact hP.sub (ws' := [(m0, .inr (7, [.int (nI n), .ref g1, .ref g2, .ref g3, .int mr, .ref g4, .int (nI y), .ref g5, .int mo, .ref g6, .int ml, .ref g7, .ref g8, .ref g9, .ref g10, .ref g11, .ref g12])), (g4, .inl (cZ, 20480, .inl fs))]) [0, 1] rfl, hKN.warm hW⟩⟩ rfl rfl hl.1 rfl (lv_room (Nat.le_of_ble_eq_true rfl)) dX7_isEnough_21 ⟨Nat.le_of_ble_eq_true rfl, Nat.le_of_ble_eq_true rfl⟩) hS hP (fun r3 H locs w3r hP hS => ?_)
    have w3 : B01 r3 (Sg fs y (((2 ^ n) - 1) - t)) := w3r
    clear w3r
    rcases w3 with ⟨rfl, w3⟩ | ⟨rfl, w3⟩
    · skip
      refine lv_if_ne (tgt := 31) hx hb dX7_isEnough_24 (by decide) (fun c4 => ?_) (fun c4 => ?_)
      · skip
        refine lv_iconst (v := nI 0) hx hb dX7_isEnough_31 (by decide) ?_
        rw [← hQ]
        exact W.zret (v := nI 0) hx hb hr (by first | decide | (rw [nar_b01])) (fun tS htS hWS => ⟨⟨(nI 0), (), rfl, Or.inr ⟨rfl, by first | exact ⟨fun h => absurd h c1, fun _ => by assumption⟩ | exact ⟨fun _ => by assumption, fun h => absurd c1 h⟩ | exact fun h => absurd (h.1 c1) (by assumption) | exact fun h => h.2 c1 (by assumption)⟩, trivial⟩, hS.F htS⟩) hS.2.2 dX7_isEnough_32
      · exact absurd c4 (by first | decide | exact nz_lt (by omega) | exact fun h => h (nz_ge (by omega)))
    · skip
      refine lv_if_ne (tgt := 31) hx hb dX7_isEnough_24 (by decide) (fun c5 => ?_) (fun c5 => ?_)
      · exact absurd c5 (by first | decide | exact nz_lt (by omega) | exact fun h => h (nz_ge (by omega)))
      · skip
        refine lv_iconst (v := nI 1) hx hb dX7_isEnough_27 (by decide) ?_
        refine lv_goto (tgt := 32) hx hb dX7_isEnough_28 (by decide) ?_
        rw [← hQ]
        exact W.zret (v := nI 1) hx hb hr (by first | decide | (rw [nar_b01])) (fun tS htS hWS => ⟨⟨(nI 1), (), rfl, Or.inl ⟨rfl, by first | exact ⟨fun h => absurd h c1, fun _ => by assumption⟩ | exact ⟨fun _ => by assumption, fun h => absurd c1 h⟩ | exact fun h => absurd (h.1 c1) (by assumption) | exact fun h => h.2 c1 (by assumption)⟩, trivial⟩, hS.F htS⟩) hS.2.2 dX7_isEnough_32
  · skip
    refine lv_aload_n hx hb dX7_isEnough_4 rfl (lv_at hl 0 rfl) ?_
    refine lv_iload_n hx hb dX7_isEnough_5 rfl (lv_at hl 2 rfl) ?_
    refine pu_i (va_runV (As := [.int (nI t)]) (rest := []) ⟨hx, hb, hml, hown, hts⟩ (c_X7_isGood l D cI cJ cZ m0 g1 g2 g3 g4 g5 g6 g7 g8 g9 g10 g11 g12 y t (nI n) mr mo ml fs (by first | assumption | omega) (by first | assumption | omega) (by first | assumption | omega)) (cwV 1 hts gX7_isEnough_X7_isGood rfl rfl rfl (by decide +kernel) ⟨Nat.le_of_ble_eq_true rfl, Nat.le_of_ble_eq_true rfl⟩) ⟨pc_blind, va_recv hK hP (ci := 7) (q0 := 0) rfl rfl, fun U hU hW => ⟨rfl, by rw [hU]; exact hP.sub (ws' := [(m0, .inr (7, [.int (nI n), .ref g1, .ref g2, .ref g3, .int mr, .ref g4, .int (nI y), .ref g5, .int mo, .ref g6, .int ml, .ref g7, .ref g8, .ref g9, .ref g10, .ref g11, .ref g12])), (g4, .inl (cZ, 20480, .inl fs))]) [0, 1] rfl, hKN.warm hW⟩⟩ rfl rfl hl.1 rfl (lv_room (Nat.le_of_ble_eq_true rfl)) dX7_isEnough_6 ⟨Nat.le_of_ble_eq_true rfl, Nat.le_of_ble_eq_true rfl⟩) hS hP (fun r6 H locs w6r hP hS => ?_)
    have w6 : B01 r6 (Sg fs y t) := w6r
    clear w6r
    rcases w6 with ⟨rfl, w6⟩ | ⟨rfl, w6⟩
    · skip
      refine lv_goto (tgt := 32) hx hb dX7_isEnough_9 (by decide) ?_
      rw [← hQ]
      exact W.zret (v := nI 1) hx hb hr (by first | decide | (rw [nar_b01])) (fun tS htS hWS => ⟨⟨(nI 1), (), rfl, Or.inl ⟨rfl, by first | exact ⟨fun h => absurd h c1, fun _ => by assumption⟩ | exact ⟨fun _ => by assumption, fun h => absurd c1 h⟩ | exact fun h => absurd (h.1 c1) (by assumption) | exact fun h => h.2 c1 (by assumption)⟩, trivial⟩, hS.F htS⟩) hS.2.2 dX7_isEnough_32
    · skip
      refine lv_goto (tgt := 32) hx hb dX7_isEnough_9 (by decide) ?_
      rw [← hQ]
      exact W.zret (v := nI 0) hx hb hr (by first | decide | (rw [nar_b01])) (fun tS htS hWS => ⟨⟨(nI 0), (), rfl, Or.inr ⟨rfl, by first | exact ⟨fun h => absurd h c1, fun _ => by assumption⟩ | exact ⟨fun _ => by assumption, fun h => absurd c1 h⟩ | exact fun h => absurd (h.1 c1) (by assumption) | exact fun h => h.2 c1 (by assumption)⟩, trivial⟩, hS.F htS⟩) hS.2.2 dX7_isEnough_32
def rm_c_X7_isLeast : Room := { frames := 2, cells := 0, slots := 0, locals := 43 }
set_option maxHeartbeats 400000 in
set_option maxRecDepth 100000 in
theorem c_X7_isLeast (l : Launch) (D : va_G) (cI cJ cZ : ClassId) (m0 : Nat) (g1 : Nat) (g2 : Nat) (g3 : Nat) (g4 : Nat) (g5 : Nat) (g6 : Nat) (g7 : Nat) (g8 : Nat) (g9 : Nat) (g10 : Nat) (g11 : Nat) (g12 : Nat) (n : Nat) (y : Nat) (t : Nat) (mr : Int32) (mo : Int32) (ml : Int32) (wh : Int32) (fs : Nat → Int32) (hn : n ≤ 9) (hy : y < 40) (ht : t < 2 ^ n) (h01 : ∀ z, fs z = nI 0 ∨ fs z = nI 1) : Met l yX7_isLeast wsX7_isLeast rm_c_X7_isLeast (pc_ D cI cJ cZ [.ref m0, .int wh, .int (nI t)] [(m0, .inr (7, [.int (nI n), .ref g1, .ref g2, .ref g3, .int mr, .ref g4, .int (nI y), .ref g5, .int mo, .ref g6, .int ml, .ref g7, .ref g8, .ref g9, .ref g10, .ref g11, .ref g12])), (g4, .inl (cZ, 20480, .inl fs))]) (va_Qi (fun (r : Int32) (_ : Unit) => B01 r (lsq fs y n wh t)) (fun _ _ => True) aN) 0 0 aN := by
  refine Met.ofW (cc := cX7_isLeast) (maxL := 5) (ret := (some .boolean)) (by decide) rfl ?_
  intro p e s m args below meth c s₁ B hml hv
  obtain ⟨rfl, hP, hKN⟩ := hv
  have hK := hKN.1
  have hx := B.exec
  have hb := B.bytes
  have hr := B.returns
  have hts := atoms_spec (ws := wsX7_isLeast) B.pre
  have hown : s.vm.findClass RX7 = some m.cls := findClass_of_methodNamed B.named
  have hlocks := B.notSynchronized
  have hiX7 : ∀ w ∈ wsX70, w ∈ wsX7_isLeast := by decide +kernel
  have hf7 := hts (.fieldLink RX7 7 "LookBenchModel" "parts" "I") (by decide +kernel)
  have hS : va_S aN s.heap s.heap [] := va_S.rf
  have hl := lv_entry ([.ref m0, .int wh, .int (nI t)]) (n := 5) (Nat.le_of_ble_eq_true rfl)
  rw [lg_entry_eq]
  generalize (lg_sl ([.ref m0, .int wh, .int (nI t)]) ++ List.replicate (5 - (lg_sl ([.ref m0, .int wh, .int (nI t)])).length) Slot.unset).toArray = ls at hl ⊢
  have hl : lv_has ls 5 [(0, .ref m0), (1, .int wh), (2, .int (nI t))] := hl
  generalize hQ : MQ below _ _ s _ _ _ = Q
  obtain ⟨H, hH⟩ : ∃ z, z = s.heap := ⟨_, rfl⟩
  have hP : va_P D vwCl [(m0, .inr (7, [.int (nI n), .ref g1, .ref g2, .ref g3, .int mr, .ref g4, .int (nI y), .ref g5, .int mo, .ref g6, .int ml, .ref g7, .ref g8, .ref g9, .ref g10, .ref g11, .ref g12])), (g4, .inl (cZ, 20480, .inl fs))] H := by rw [hH]; exact hP
  have hS : va_S aN s.heap H [] := by rw [hH]; exact hS
  refine m_heap hH ?_
  clear hH
  have h2n := m_pow hn
  have h2p := m_powp n
  refine lv_aload_n hx hb dX7_isLeast_0 rfl (lv_at hl 0 rfl) ?_
  refine lv_iload_n hx hb dX7_isLeast_1 rfl (lv_at hl 1 rfl) ?_
  refine lv_iload_n hx hb dX7_isLeast_2 rfl (lv_at hl 2 rfl) ?_
  refine pu_i (va_runV (As := [.int wh, .int (nI t)]) (rest := []) ⟨hx, hb, hml, hown, hts⟩ (c_X7_isEnough l D cI cJ cZ m0 g1 g2 g3 g4 g5 g6 g7 g8 g9 g10 g11 g12 n y t mr mo ml wh fs (by first | assumption | omega) (by first | assumption | omega) (by first | assumption | omega) (by first | assumption | omega)) (cwV 2 hts gX7_isLeast_X7_isEnough rfl rfl rfl (by decide +kernel) ⟨Nat.le_of_ble_eq_true rfl, Nat.le_of_ble_eq_true rfl⟩) ⟨pc_blind, va_recv hK hP (ci := 7) (q0 := 0) rfl rfl, fun U hU hW => ⟨rfl, by rw [hU]; exact hP.sub (ws' := [(m0, .inr (7, [.int (nI n), .ref g1, .ref g2, .ref g3, .int mr, .ref g4, .int (nI y), .ref g5, .int mo, .ref g6, .int ml, .ref g7, .ref g8, .ref g9, .ref g10, .ref g11, .ref g12])), (g4, .inl (cZ, 20480, .inl fs))]) [0, 1] rfl, hKN.warm hW⟩⟩ rfl rfl hl.1 rfl (lv_room (Nat.le_of_ble_eq_true rfl)) dX7_isLeast_3 ⟨Nat.le_of_ble_eq_true rfl, Nat.le_of_ble_eq_true rfl⟩) hS hP (fun r1 H locs w1r hP hS => ?_)
  have w1 : B01 r1 (enq fs y n wh t) := w1r
  clear w1r
  rcases w1 with ⟨rfl, w1⟩ | ⟨rfl, w1⟩
  · skip
    refine lv_istore_n (lv' := [(3, .int (nI 1)), (0, .ref m0), (1, .int wh), (2, .int (nI t))]) hx hb dX7_isLeast_6 rfl hl (by decide) rfl (fun ls hl => ?_)
    refine lv_iconst (v := nI 0) hx hb dX7_isLeast_7 (by decide) ?_
    refine lv_istore (lv' := [(4, .int (nI 0)), (3, .int (nI 1)), (0, .ref m0), (1, .int wh), (2, .int (nI t))]) hx hb dX7_isLeast_8 hl (by decide) rfl (fun ls hl => ?_)
    have loop2 : ∀ (fu : Nat) (k : Nat) (v : Int32) (H : Heap) (locs : List Loc) (ls : Array Slot), (k ≤ n ∧ n < k + fu) → ((v = nI 1 ∧ enq fs y n wh t ∧ ∀ z, z < k → t / 2 ^ z % 2 = 1 → ¬ enq fs y n wh (t - 2 ^ z)) ∨ (v = nI 0 ∧ ¬ lsq fs y n wh t)) → va_P D vwCl [(m0, .inr (7, [.int (nI n), .ref g1, .ref g2, .ref g3, .int mr, .ref g4, .int (nI y), .ref g5, .int mo, .ref g6, .int ml, .ref g7, .ref g8, .ref g9, .ref g10, .ref g11, .ref g12])), (g4, .inl (cZ, 20480, .inl fs))] H → va_S aN s.heap H locs → lv_has ls 5 [(4, .int (nI k)), (3, .int v), (0, .ref m0), (1, .int wh), (2, .int (nI t))] → W p l e (headSpec wsX7_isLeast rm_c_X7_isLeast).room s m ([.ref m0, .int wh, .int (nI t)] : List Value).toArray below meth c H locs 0 0 Q (F0 m 10 ls []) := by
      intro fu
      induction fu with
      | zero => intro k v H locs ls hk hv; exact absurd hk (by omega)
      | succ fu ih2 =>
        intro k v H locs ls hk hv hP hS hl
        rcases hv with ⟨rfl, hq⟩ | ⟨rfl, hq⟩
        · skip
          refine lv_iload hx hb dX7_isLeast_10 (lv_at hl 0 rfl) ?_
          refine lv_aload_n hx hb dX7_isLeast_12 rfl (lv_at hl 2 rfl) ?_
          refine va_get (D := D) (ci := 7) (v := .int (nI n)) (C := RX7) (T := TX7) (N := 17) hx hb hts hiX7 hown hK hP 0 rfl rfl 0 (by decide) hf7 (fun _ h9 => h9) rfl dX7_isLeast_13 ?_
          refine lv_icmp_ge (tgt := 58) hx hb dX7_isLeast_16 (by decide) (fun c3 => ?_) (fun c3 => ?_)
          · skip
            have d3 := c3
            rw [nI_leI (by omega) (by omega)] at d3
            refine lv_iload_n hx hb dX7_isLeast_58 rfl (lv_at hl 1 rfl) ?_
            rw [← hQ]
            exact W.zret (v := nI 1) hx hb hr (by first | decide | (rw [nar_b01])) (fun tS htS hWS => ⟨⟨(nI 1), (), rfl, by first | exact Or.inl ⟨rfl, hq.1, fun z hz => hq.2 z (by omega)⟩ | exact Or.inr ⟨rfl, hq⟩, trivial⟩, hS.F htS⟩) hS.2.2 dX7_isLeast_59
          · skip
            have d3 := c3
            rw [nI_leI (by omega) (by omega)] at d3
            refine lv_iload_n hx hb dX7_isLeast_19 rfl (lv_at hl 1 rfl) ?_
            refine lv_if_eq (tgt := 58) hx hb dX7_isLeast_20 (by decide) (fun c4 => ?_) (fun c4 => ?_)
            · exact absurd c4 (by first | decide | exact nz_lt (by omega) | exact fun h => h (nz_ge (by omega)))
            · skip
              refine lv_iload_n hx hb dX7_isLeast_23 rfl (lv_at hl 4 rfl) ?_
              refine lv_iload hx hb dX7_isLeast_24 (lv_at hl 0 rfl) ?_
              refine lv_ishr hx hb dX7_isLeast_26 ?_
              refine cn_i (y := nI (t / 2 ^ k)) (m_shr (by omega) (by omega)) ?_
              refine lv_iconst (v := nI 1) hx hb dX7_isLeast_27 (by decide) ?_
              refine lv_iand hx hb dX7_isLeast_28 ?_
              refine cn_i (y := nI ((t / 2 ^ k) % 2)) (m_andn1 (by first | omega | exact Nat.lt_of_le_of_lt (Nat.div_le_self _ _) (by omega))) ?_
              refine lv_if_eq (tgt := 46) hx hb dX7_isLeast_29 (by decide) (fun c5 => ?_) (fun c5 => ?_)
              · skip
                have d5 := c5
                rw [nz_eq (by omega)] at d5
                refine lv_iconst (v := nI 1) hx hb dX7_isLeast_46 (by decide) ?_
                refine lv_goto (tgt := 51) hx hb dX7_isLeast_47 (by decide) ?_
                refine lv_istore_n (lv' := [(3, .int (nI 1)), (4, .int (nI k)), (0, .ref m0), (1, .int wh), (2, .int (nI t))]) hx hb dX7_isLeast_51 rfl hl (by decide) rfl (fun ls hl => ?_)
                refine lv_iinc (v := nI (k + 1)) (lv' := [(4, .int (nI (k + 1))), (3, .int (nI 1)), (0, .ref m0), (1, .int wh), (2, .int (nI t))]) hx hb dX7_isLeast_52 hl (k := 1) rfl (nI_1 k) (by decide) rfl (fun ls hl => ?_)
                refine lv_goto (tgt := 10) hx hb dX7_isLeast_55 (by decide) ?_
                exact ih2 (k + 1) (nI 1) _ _ _ (by omega) (by first | exact Or.inl ⟨rfl, hq.1, fun z hz h9 => by rcases Nat.lt_or_ge z k with h | h; exact hq.2 z h h9; exact (by have e9 : z = k := (by omega); subst e9; first | assumption | (exfalso; omega))⟩ | exact Or.inr ⟨rfl, fun h => absurd (by assumption) (h.2 k (by omega) (by omega))⟩) hP hS (lv_sub hl [0, 1, 2, 3, 4] rfl)
              · skip
                have d5 := c5
                rw [nz_eq (by omega)] at d5
                refine lv_aload_n hx hb dX7_isLeast_32 rfl (lv_at hl 2 rfl) ?_
                refine lv_iload_n hx hb dX7_isLeast_33 rfl (lv_at hl 3 rfl) ?_
                refine lv_iload_n hx hb dX7_isLeast_34 rfl (lv_at hl 4 rfl) ?_
                refine lv_iconst (v := nI 1) hx hb dX7_isLeast_35 (by decide) ?_
                refine lv_iload hx hb dX7_isLeast_36 (lv_at hl 0 rfl) ?_
                refine lv_ishl hx hb dX7_isLeast_38 ?_
                refine cn_i (y := nI (2 ^ k)) (m_shl1 (by omega)) ?_
                have hb9 : 2 ^ k ≤ t := m_bitle (by omega)
                have hkp := m_powp k
                refine lv_isub hx hb dX7_isLeast_39 ?_
                refine cn_i (y := nI (t - (2 ^ k))) (pk_sub (a := t) (b := (2 ^ k)) (by omega)) ?_
                refine pu_i (va_runV (As := [.int wh, .int (nI (t - (2 ^ k)))]) (rest := []) ⟨hx, hb, hml, hown, hts⟩ (c_X7_isEnough l D cI cJ cZ m0 g1 g2 g3 g4 g5 g6 g7 g8 g9 g10 g11 g12 n y (t - (2 ^ k)) mr mo ml wh fs (by first | assumption | omega) (by first | assumption | omega) (by first | assumption | omega) (by first | assumption | omega)) (cwV 2 hts gX7_isLeast_X7_isEnough rfl rfl rfl (by decide +kernel) ⟨Nat.le_of_ble_eq_true rfl, Nat.le_of_ble_eq_true rfl⟩) ⟨pc_blind, va_recv hK hP (ci := 7) (q0 := 0) rfl rfl, fun U hU hW => ⟨rfl, by rw [hU]; exact hP.sub (ws' := [(m0, .inr (7, [.int (nI n), .ref g1, .ref g2, .ref g3, .int mr, .ref g4, .int (nI y), .ref g5, .int mo, .ref g6, .int ml, .ref g7, .ref g8, .ref g9, .ref g10, .ref g11, .ref g12])), (g4, .inl (cZ, 20480, .inl fs))]) [0, 1] rfl, hKN.warm hW⟩⟩ rfl rfl hl.1 rfl (lv_room (Nat.le_of_ble_eq_true rfl)) dX7_isLeast_40 ⟨Nat.le_of_ble_eq_true rfl, Nat.le_of_ble_eq_true rfl⟩) hS hP (fun r6 H locs w6r hP hS => ?_)
                have w6 : B01 r6 (enq fs y n wh (t - (2 ^ k))) := w6r
                clear w6r
                rcases w6 with ⟨rfl, w6⟩ | ⟨rfl, w6⟩
                · skip
                  refine lv_if_ne (tgt := 50) hx hb dX7_isLeast_43 (by decide) (fun c7 => ?_) (fun c7 => ?_)
                  · skip
                    refine lv_iconst (v := nI 0) hx hb dX7_isLeast_50 (by decide) ?_
                    refine lv_istore_n (lv' := [(3, .int (nI 0)), (4, .int (nI k)), (0, .ref m0), (1, .int wh), (2, .int (nI t))]) hx hb dX7_isLeast_51 rfl hl (by decide) rfl (fun ls hl => ?_)
                    refine lv_iinc (v := nI (k + 1)) (lv' := [(4, .int (nI (k + 1))), (3, .int (nI 0)), (0, .ref m0), (1, .int wh), (2, .int (nI t))]) hx hb dX7_isLeast_52 hl (k := 1) rfl (nI_1 k) (by decide) rfl (fun ls hl => ?_)
                    refine lv_goto (tgt := 10) hx hb dX7_isLeast_55 (by decide) ?_
                    exact ih2 (k + 1) (nI 0) _ _ _ (by omega) (by first | exact Or.inl ⟨rfl, hq.1, fun z hz h9 => by rcases Nat.lt_or_ge z k with h | h; exact hq.2 z h h9; exact (by have e9 : z = k := (by omega); subst e9; first | assumption | (exfalso; omega))⟩ | exact Or.inr ⟨rfl, fun h => absurd (by assumption) (h.2 k (by omega) (by omega))⟩) hP hS (lv_sub hl [0, 1, 2, 3, 4] rfl)
                  · exact absurd c7 (by first | decide | exact nz_lt (by omega) | exact fun h => h (nz_ge (by omega)))
                · skip
                  refine lv_if_ne (tgt := 50) hx hb dX7_isLeast_43 (by decide) (fun c8 => ?_) (fun c8 => ?_)
                  · exact absurd c8 (by first | decide | exact nz_lt (by omega) | exact fun h => h (nz_ge (by omega)))
                  · skip
                    refine lv_iconst (v := nI 1) hx hb dX7_isLeast_46 (by decide) ?_
                    refine lv_goto (tgt := 51) hx hb dX7_isLeast_47 (by decide) ?_
                    refine lv_istore_n (lv' := [(3, .int (nI 1)), (4, .int (nI k)), (0, .ref m0), (1, .int wh), (2, .int (nI t))]) hx hb dX7_isLeast_51 rfl hl (by decide) rfl (fun ls hl => ?_)
                    refine lv_iinc (v := nI (k + 1)) (lv' := [(4, .int (nI (k + 1))), (3, .int (nI 1)), (0, .ref m0), (1, .int wh), (2, .int (nI t))]) hx hb dX7_isLeast_52 hl (k := 1) rfl (nI_1 k) (by decide) rfl (fun ls hl => ?_)
                    refine lv_goto (tgt := 10) hx hb dX7_isLeast_55 (by decide) ?_
                    exact ih2 (k + 1) (nI 1) _ _ _ (by omega) (by first | exact Or.inl ⟨rfl, hq.1, fun z hz h9 => by rcases Nat.lt_or_ge z k with h | h; exact hq.2 z h h9; exact (by have e9 : z = k := (by omega); subst e9; first | assumption | (exfalso; omega))⟩ | exact Or.inr ⟨rfl, fun h => absurd (by assumption) (h.2 k (by omega) (by omega))⟩) hP hS (lv_sub hl [0, 1, 2, 3, 4] rfl)
        · skip
          refine lv_iload hx hb dX7_isLeast_10 (lv_at hl 0 rfl) ?_
          refine lv_aload_n hx hb dX7_isLeast_12 rfl (lv_at hl 2 rfl) ?_
          refine va_get (D := D) (ci := 7) (v := .int (nI n)) (C := RX7) (T := TX7) (N := 17) hx hb hts hiX7 hown hK hP 0 rfl rfl 0 (by decide) hf7 (fun _ h9 => h9) rfl dX7_isLeast_13 ?_
          refine lv_icmp_ge (tgt := 58) hx hb dX7_isLeast_16 (by decide) (fun c9 => ?_) (fun c9 => ?_)
          · skip
            have d9 := c9
            rw [nI_leI (by omega) (by omega)] at d9
            refine lv_iload_n hx hb dX7_isLeast_58 rfl (lv_at hl 1 rfl) ?_
            rw [← hQ]
            exact W.zret (v := nI 0) hx hb hr (by first | decide | (rw [nar_b01])) (fun tS htS hWS => ⟨⟨(nI 0), (), rfl, by first | exact Or.inl ⟨rfl, hq.1, fun z hz => hq.2 z (by omega)⟩ | exact Or.inr ⟨rfl, hq⟩, trivial⟩, hS.F htS⟩) hS.2.2 dX7_isLeast_59
          · skip
            have d9 := c9
            rw [nI_leI (by omega) (by omega)] at d9
            refine lv_iload_n hx hb dX7_isLeast_19 rfl (lv_at hl 1 rfl) ?_
            refine lv_if_eq (tgt := 58) hx hb dX7_isLeast_20 (by decide) (fun c10 => ?_) (fun c10 => ?_)
            · skip
              refine lv_iload_n hx hb dX7_isLeast_58 rfl (lv_at hl 1 rfl) ?_
              rw [← hQ]
              exact W.zret (v := nI 0) hx hb hr (by first | decide | (rw [nar_b01])) (fun tS htS hWS => ⟨⟨(nI 0), (), rfl, by first | exact Or.inl ⟨rfl, hq.1, fun z hz => hq.2 z (by omega)⟩ | exact Or.inr ⟨rfl, hq⟩, trivial⟩, hS.F htS⟩) hS.2.2 dX7_isLeast_59
            · exact absurd c10 (by first | decide | exact nz_lt (by omega) | exact fun h => h (nz_ge (by omega)))
    exact loop2 (n + 1) 0 (nI 1) _ _ _ (by omega) (by first | exact Or.inl ⟨rfl, by assumption, fun z hz => absurd hz (by omega)⟩ | exact Or.inr ⟨rfl, fun h => absurd h.1 (by assumption)⟩) hP hS (lv_sub hl [0, 1, 2, 3, 4] rfl)
  · skip
    refine lv_istore_n (lv' := [(3, .int (nI 0)), (0, .ref m0), (1, .int wh), (2, .int (nI t))]) hx hb dX7_isLeast_6 rfl hl (by decide) rfl (fun ls hl => ?_)
    refine lv_iconst (v := nI 0) hx hb dX7_isLeast_7 (by decide) ?_
    refine lv_istore (lv' := [(4, .int (nI 0)), (3, .int (nI 0)), (0, .ref m0), (1, .int wh), (2, .int (nI t))]) hx hb dX7_isLeast_8 hl (by decide) rfl (fun ls hl => ?_)
    have loop11 : ∀ (fu : Nat) (k : Nat) (v : Int32) (H : Heap) (locs : List Loc) (ls : Array Slot), (k ≤ n ∧ n < k + fu) → ((v = nI 1 ∧ enq fs y n wh t ∧ ∀ z, z < k → t / 2 ^ z % 2 = 1 → ¬ enq fs y n wh (t - 2 ^ z)) ∨ (v = nI 0 ∧ ¬ lsq fs y n wh t)) → va_P D vwCl [(m0, .inr (7, [.int (nI n), .ref g1, .ref g2, .ref g3, .int mr, .ref g4, .int (nI y), .ref g5, .int mo, .ref g6, .int ml, .ref g7, .ref g8, .ref g9, .ref g10, .ref g11, .ref g12])), (g4, .inl (cZ, 20480, .inl fs))] H → va_S aN s.heap H locs → lv_has ls 5 [(4, .int (nI k)), (3, .int v), (0, .ref m0), (1, .int wh), (2, .int (nI t))] → W p l e (headSpec wsX7_isLeast rm_c_X7_isLeast).room s m ([.ref m0, .int wh, .int (nI t)] : List Value).toArray below meth c H locs 0 0 Q (F0 m 10 ls []) := by
      intro fu
      induction fu with
      | zero => intro k v H locs ls hk hv; exact absurd hk (by omega)
      | succ fu ih11 =>
        intro k v H locs ls hk hv hP hS hl
        rcases hv with ⟨rfl, hq⟩ | ⟨rfl, hq⟩
        · skip
          refine lv_iload hx hb dX7_isLeast_10 (lv_at hl 0 rfl) ?_
          refine lv_aload_n hx hb dX7_isLeast_12 rfl (lv_at hl 2 rfl) ?_
          refine va_get (D := D) (ci := 7) (v := .int (nI n)) (C := RX7) (T := TX7) (N := 17) hx hb hts hiX7 hown hK hP 0 rfl rfl 0 (by decide) hf7 (fun _ h9 => h9) rfl dX7_isLeast_13 ?_
          refine lv_icmp_ge (tgt := 58) hx hb dX7_isLeast_16 (by decide) (fun c12 => ?_) (fun c12 => ?_)
          · skip
            have d12 := c12
            rw [nI_leI (by omega) (by omega)] at d12
            refine lv_iload_n hx hb dX7_isLeast_58 rfl (lv_at hl 1 rfl) ?_
            rw [← hQ]
            exact W.zret (v := nI 1) hx hb hr (by first | decide | (rw [nar_b01])) (fun tS htS hWS => ⟨⟨(nI 1), (), rfl, by first | exact Or.inl ⟨rfl, hq.1, fun z hz => hq.2 z (by omega)⟩ | exact Or.inr ⟨rfl, hq⟩, trivial⟩, hS.F htS⟩) hS.2.2 dX7_isLeast_59
          · skip
            have d12 := c12
            rw [nI_leI (by omega) (by omega)] at d12
            refine lv_iload_n hx hb dX7_isLeast_19 rfl (lv_at hl 1 rfl) ?_
            refine lv_if_eq (tgt := 58) hx hb dX7_isLeast_20 (by decide) (fun c13 => ?_) (fun c13 => ?_)
            · exact absurd c13 (by first | decide | exact nz_lt (by omega) | exact fun h => h (nz_ge (by omega)))
            · skip
              refine lv_iload_n hx hb dX7_isLeast_23 rfl (lv_at hl 4 rfl) ?_
              refine lv_iload hx hb dX7_isLeast_24 (lv_at hl 0 rfl) ?_
              refine lv_ishr hx hb dX7_isLeast_26 ?_
              refine cn_i (y := nI (t / 2 ^ k)) (m_shr (by omega) (by omega)) ?_
              refine lv_iconst (v := nI 1) hx hb dX7_isLeast_27 (by decide) ?_
              refine lv_iand hx hb dX7_isLeast_28 ?_
              refine cn_i (y := nI ((t / 2 ^ k) % 2)) (m_andn1 (by first | omega | exact Nat.lt_of_le_of_lt (Nat.div_le_self _ _) (by omega))) ?_
              refine lv_if_eq (tgt := 46) hx hb dX7_isLeast_29 (by decide) (fun c14 => ?_) (fun c14 => ?_)
              · skip
                have d14 := c14
                rw [nz_eq (by omega)] at d14
                refine lv_iconst (v := nI 1) hx hb dX7_isLeast_46 (by decide) ?_
                refine lv_goto (tgt := 51) hx hb dX7_isLeast_47 (by decide) ?_
                refine lv_istore_n (lv' := [(3, .int (nI 1)), (4, .int (nI k)), (0, .ref m0), (1, .int wh), (2, .int (nI t))]) hx hb dX7_isLeast_51 rfl hl (by decide) rfl (fun ls hl => ?_)
                refine lv_iinc (v := nI (k + 1)) (lv' := [(4, .int (nI (k + 1))), (3, .int (nI 1)), (0, .ref m0), (1, .int wh), (2, .int (nI t))]) hx hb dX7_isLeast_52 hl (k := 1) rfl (nI_1 k) (by decide) rfl (fun ls hl => ?_)
                refine lv_goto (tgt := 10) hx hb dX7_isLeast_55 (by decide) ?_
                exact ih11 (k + 1) (nI 1) _ _ _ (by omega) (by first | exact Or.inl ⟨rfl, hq.1, fun z hz h9 => by rcases Nat.lt_or_ge z k with h | h; exact hq.2 z h h9; exact (by have e9 : z = k := (by omega); subst e9; first | assumption | (exfalso; omega))⟩ | exact Or.inr ⟨rfl, fun h => absurd (by assumption) (h.2 k (by omega) (by omega))⟩) hP hS (lv_sub hl [0, 1, 2, 3, 4] rfl)
              · skip
                have d14 := c14
                rw [nz_eq (by omega)] at d14
                refine lv_aload_n hx hb dX7_isLeast_32 rfl (lv_at hl 2 rfl) ?_
                refine lv_iload_n hx hb dX7_isLeast_33 rfl (lv_at hl 3 rfl) ?_
                refine lv_iload_n hx hb dX7_isLeast_34 rfl (lv_at hl 4 rfl) ?_
                refine lv_iconst (v := nI 1) hx hb dX7_isLeast_35 (by decide) ?_
                refine lv_iload hx hb dX7_isLeast_36 (lv_at hl 0 rfl) ?_
                refine lv_ishl hx hb dX7_isLeast_38 ?_
                refine cn_i (y := nI (2 ^ k)) (m_shl1 (by omega)) ?_
                have hb9 : 2 ^ k ≤ t := m_bitle (by omega)
                have hkp := m_powp k
                refine lv_isub hx hb dX7_isLeast_39 ?_
                refine cn_i (y := nI (t - (2 ^ k))) (pk_sub (a := t) (b := (2 ^ k)) (by omega)) ?_
                refine pu_i (va_runV (As := [.int wh, .int (nI (t - (2 ^ k)))]) (rest := []) ⟨hx, hb, hml, hown, hts⟩ (c_X7_isEnough l D cI cJ cZ m0 g1 g2 g3 g4 g5 g6 g7 g8 g9 g10 g11 g12 n y (t - (2 ^ k)) mr mo ml wh fs (by first | assumption | omega) (by first | assumption | omega) (by first | assumption | omega) (by first | assumption | omega)) (cwV 2 hts gX7_isLeast_X7_isEnough rfl rfl rfl (by decide +kernel) ⟨Nat.le_of_ble_eq_true rfl, Nat.le_of_ble_eq_true rfl⟩) ⟨pc_blind, va_recv hK hP (ci := 7) (q0 := 0) rfl rfl, fun U hU hW => ⟨rfl, by rw [hU]; exact hP.sub (ws' := [(m0, .inr (7, [.int (nI n), .ref g1, .ref g2, .ref g3, .int mr, .ref g4, .int (nI y), .ref g5, .int mo, .ref g6, .int ml, .ref g7, .ref g8, .ref g9, .ref g10, .ref g11, .ref g12])), (g4, .inl (cZ, 20480, .inl fs))]) [0, 1] rfl, hKN.warm hW⟩⟩ rfl rfl hl.1 rfl (lv_room (Nat.le_of_ble_eq_true rfl)) dX7_isLeast_40 ⟨Nat.le_of_ble_eq_true rfl, Nat.le_of_ble_eq_true rfl⟩) hS hP (fun r15 H locs w15r hP hS => ?_)
                have w15 : B01 r15 (enq fs y n wh (t - (2 ^ k))) := w15r
                clear w15r
                rcases w15 with ⟨rfl, w15⟩ | ⟨rfl, w15⟩
                · skip
                  refine lv_if_ne (tgt := 50) hx hb dX7_isLeast_43 (by decide) (fun c16 => ?_) (fun c16 => ?_)
                  · skip
                    refine lv_iconst (v := nI 0) hx hb dX7_isLeast_50 (by decide) ?_
                    refine lv_istore_n (lv' := [(3, .int (nI 0)), (4, .int (nI k)), (0, .ref m0), (1, .int wh), (2, .int (nI t))]) hx hb dX7_isLeast_51 rfl hl (by decide) rfl (fun ls hl => ?_)
                    refine lv_iinc (v := nI (k + 1)) (lv' := [(4, .int (nI (k + 1))), (3, .int (nI 0)), (0, .ref m0), (1, .int wh), (2, .int (nI t))]) hx hb dX7_isLeast_52 hl (k := 1) rfl (nI_1 k) (by decide) rfl (fun ls hl => ?_)
                    refine lv_goto (tgt := 10) hx hb dX7_isLeast_55 (by decide) ?_
                    exact ih11 (k + 1) (nI 0) _ _ _ (by omega) (by first | exact Or.inl ⟨rfl, hq.1, fun z hz h9 => by rcases Nat.lt_or_ge z k with h | h; exact hq.2 z h h9; exact (by have e9 : z = k := (by omega); subst e9; first | assumption | (exfalso; omega))⟩ | exact Or.inr ⟨rfl, fun h => absurd (by assumption) (h.2 k (by omega) (by omega))⟩) hP hS (lv_sub hl [0, 1, 2, 3, 4] rfl)
                  · exact absurd c16 (by first | decide | exact nz_lt (by omega) | exact fun h => h (nz_ge (by omega)))
                · skip
                  refine lv_if_ne (tgt := 50) hx hb dX7_isLeast_43 (by decide) (fun c17 => ?_) (fun c17 => ?_)
                  · exact absurd c17 (by first | decide | exact nz_lt (by omega) | exact fun h => h (nz_ge (by omega)))
                  · skip
                    refine lv_iconst (v := nI 1) hx hb dX7_isLeast_46 (by decide) ?_
                    refine lv_goto (tgt := 51) hx hb dX7_isLeast_47 (by decide) ?_
                    refine lv_istore_n (lv' := [(3, .int (nI 1)), (4, .int (nI k)), (0, .ref m0), (1, .int wh), (2, .int (nI t))]) hx hb dX7_isLeast_51 rfl hl (by decide) rfl (fun ls hl => ?_)
                    refine lv_iinc (v := nI (k + 1)) (lv' := [(4, .int (nI (k + 1))), (3, .int (nI 1)), (0, .ref m0), (1, .int wh), (2, .int (nI t))]) hx hb dX7_isLeast_52 hl (k := 1) rfl (nI_1 k) (by decide) rfl (fun ls hl => ?_)
                    refine lv_goto (tgt := 10) hx hb dX7_isLeast_55 (by decide) ?_
                    exact ih11 (k + 1) (nI 1) _ _ _ (by omega) (by first | exact Or.inl ⟨rfl, hq.1, fun z hz h9 => by rcases Nat.lt_or_ge z k with h | h; exact hq.2 z h h9; exact (by have e9 : z = k := (by omega); subst e9; first | assumption | (exfalso; omega))⟩ | exact Or.inr ⟨rfl, fun h => absurd (by assumption) (h.2 k (by omega) (by omega))⟩) hP hS (lv_sub hl [0, 1, 2, 3, 4] rfl)
        · skip
          refine lv_iload hx hb dX7_isLeast_10 (lv_at hl 0 rfl) ?_
          refine lv_aload_n hx hb dX7_isLeast_12 rfl (lv_at hl 2 rfl) ?_
          refine va_get (D := D) (ci := 7) (v := .int (nI n)) (C := RX7) (T := TX7) (N := 17) hx hb hts hiX7 hown hK hP 0 rfl rfl 0 (by decide) hf7 (fun _ h9 => h9) rfl dX7_isLeast_13 ?_
          refine lv_icmp_ge (tgt := 58) hx hb dX7_isLeast_16 (by decide) (fun c18 => ?_) (fun c18 => ?_)
          · skip
            have d18 := c18
            rw [nI_leI (by omega) (by omega)] at d18
            refine lv_iload_n hx hb dX7_isLeast_58 rfl (lv_at hl 1 rfl) ?_
            rw [← hQ]
            exact W.zret (v := nI 0) hx hb hr (by first | decide | (rw [nar_b01])) (fun tS htS hWS => ⟨⟨(nI 0), (), rfl, by first | exact Or.inl ⟨rfl, hq.1, fun z hz => hq.2 z (by omega)⟩ | exact Or.inr ⟨rfl, hq⟩, trivial⟩, hS.F htS⟩) hS.2.2 dX7_isLeast_59
          · skip
            have d18 := c18
            rw [nI_leI (by omega) (by omega)] at d18
            refine lv_iload_n hx hb dX7_isLeast_19 rfl (lv_at hl 1 rfl) ?_
            refine lv_if_eq (tgt := 58) hx hb dX7_isLeast_20 (by decide) (fun c19 => ?_) (fun c19 => ?_)
            · skip
              refine lv_iload_n hx hb dX7_isLeast_58 rfl (lv_at hl 1 rfl) ?_
              rw [← hQ]
              exact W.zret (v := nI 0) hx hb hr (by first | decide | (rw [nar_b01])) (fun tS htS hWS => ⟨⟨(nI 0), (), rfl, by first | exact Or.inl ⟨rfl, hq.1, fun z hz => hq.2 z (by omega)⟩ | exact Or.inr ⟨rfl, hq⟩, trivial⟩, hS.F htS⟩) hS.2.2 dX7_isLeast_59
            · exact absurd c19 (by first | decide | exact nz_lt (by omega) | exact fun h => h (nz_ge (by omega)))
    exact loop11 (n + 1) 0 (nI 0) _ _ _ (by omega) (by first | exact Or.inl ⟨rfl, by assumption, fun z hz => absurd hz (by omega)⟩ | exact Or.inr ⟨rfl, fun h => absurd h.1 (by assumption)⟩) hP hS (lv_sub hl [0, 1, 2, 3, 4] rfl)
def rm_c_X7_sets_g : Room := { frames := 3, cells := 0, slots := 0, locals := 67 }
set_option maxHeartbeats 400000 in
set_option maxRecDepth 100000 in
theorem c_X7_sets_g (l : Launch) (D : va_G) (cI cJ cZ : ClassId) (m0 : Nat) (g1 : Nat) (g2 : Nat) (g3 : Nat) (g4 : Nat) (g5 : Nat) (g6 : Nat) (g7 : Nat) (g8 : Nat) (g9 : Nat) (g10 : Nat) (g11 : Nat) (g12 : Nat) (n : Nat) (y : Nat) (mr : Int32) (mo : Int32) (ml : Int32) (p0 : Int32) (fs : Nat → Int32) (hn : n ≤ 9) (hy : y < 40) (h01 : ∀ z, fs z = nI 0 ∨ fs z = nI 1) : Met l yX7_sets wsX7_sets rm_c_X7_sets_g (pc_ D cI cJ cZ [.ref m0, .int p0] [(m0, .inr (7, [.int (nI n), .ref g1, .ref g2, .ref g3, .int mr, .ref g4, .int (nI y), .ref g5, .int mo, .ref g6, .int ml, .ref g7, .ref g8, .ref g9, .ref g10, .ref g11, .ref g12])), (g4, .inl (cZ, 20480, .inl fs))]) (va_Qi (fun (r : Int32) (_ : Unit) => True) (fun _ _ => True) aN) 0 0 aN := by
  refine Met.ofW (cc := cX7_sets) (maxL := 4) (ret := (some .int)) (by decide) rfl ?_
  intro p e s m args below meth c s₁ B hml hv
  obtain ⟨rfl, hP, hKN⟩ := hv
  have hK := hKN.1
  have hx := B.exec
  have hb := B.bytes
  have hr := B.returns
  have hts := atoms_spec (ws := wsX7_sets) B.pre
  have hown : s.vm.findClass RX7 = some m.cls := findClass_of_methodNamed B.named
  have hlocks := B.notSynchronized
  have hiX7 : ∀ w ∈ wsX70, w ∈ wsX7_sets := by decide +kernel
  have hf27 := hts (.fieldLink RX7 27 "LookBenchModel" "system" "I") (by decide +kernel)
  have hS : va_S aN s.heap s.heap [] := va_S.rf
  have hl := lv_entry ([.ref m0, .int p0]) (n := 4) (Nat.le_of_ble_eq_true rfl)
  rw [lg_entry_eq]
  generalize (lg_sl ([.ref m0, .int p0]) ++ List.replicate (4 - (lg_sl ([.ref m0, .int p0])).length) Slot.unset).toArray = ls at hl ⊢
  have hl : lv_has ls 4 [(0, .ref m0), (1, .int p0)] := hl
  generalize hQ : MQ below _ _ s _ _ _ = Q
  obtain ⟨H, hH⟩ : ∃ z, z = s.heap := ⟨_, rfl⟩
  have hP : va_P D vwCl [(m0, .inr (7, [.int (nI n), .ref g1, .ref g2, .ref g3, .int mr, .ref g4, .int (nI y), .ref g5, .int mo, .ref g6, .int ml, .ref g7, .ref g8, .ref g9, .ref g10, .ref g11, .ref g12])), (g4, .inl (cZ, 20480, .inl fs))] H := by rw [hH]; exact hP
  have hS : va_S aN s.heap H [] := by rw [hH]; exact hS
  refine m_heap hH ?_
  clear hH
  have h2n := m_pow hn
  have h2p := m_powp n
  refine lv_iload_n hx hb dX7_sets_0 rfl (lv_at hl 1 rfl) ?_
  refine lv_i2l hx hb dX7_sets_1 rfl ?_
  refine lv_lconst (v := lN 0) hx hb dX7_sets_2 (by decide) ?_
  refine lv_lconst (v := lN 1) hx hb dX7_sets_3 (by decide) ?_
  refine pu_i (va_runS (As := [.long p0.toInt64, .long (lN 0), .long (lN 1)]) (rest := []) ⟨hx, hb, hml, hown, hts⟩ (c_X7_in l D cI cJ cZ p0.toInt64 (lN 0) (lN 1)) (va_cwS 3 hts gX7_sets_X7_in rfl rfl rfl (by decide +kernel) ⟨Nat.le_of_ble_eq_true rfl, Nat.le_of_ble_eq_true rfl⟩) ⟨pc_blind, fun U hU hW => ⟨rfl, by rw [hU]; exact hP.sub (ws' := []) [] rfl, hKN.warm hW⟩⟩ rfl rfl hl.1 rfl (lv_room (Nat.le_of_ble_eq_true rfl)) dX7_sets_4 ⟨Nat.le_of_ble_eq_true rfl, Nat.le_of_ble_eq_true rfl⟩) hS hP (fun r1 H locs w1r hP hS => ?_)
  have w1 : B01 r1 ((lN 0).toInt ≤ p0.toInt64.toInt ∧ p0.toInt64.toInt ≤ (lN 1).toInt) := w1r
  clear w1r
  rw [lN_toInt (n := 0) (by omega), j2 p0, lN_toInt (n := 1) (by omega)] at w1
  rcases w1 with ⟨rfl, w1⟩ | ⟨rfl, w1⟩
  · skip
    refine lv_if_eq (tgt := 17) hx hb dX7_sets_7 (by decide) (fun c2 => ?_) (fun c2 => ?_)
    · exact absurd c2 (by first | decide | exact nz_lt (by omega) | exact fun h => h (nz_ge (by omega)))
    · skip
      refine lv_aload_n hx hb dX7_sets_10 rfl (lv_at hl 0 rfl) ?_
      refine va_get (D := D) (ci := 7) (v := .int (nI y)) (C := RX7) (T := TX7) (N := 17) hx hb hts hiX7 hown hK hP 0 rfl rfl 6 (by decide) hf27 (fun _ h9 => h9) rfl dX7_sets_11 ?_
      refine lv_if_ge (tgt := 19) hx hb dX7_sets_14 (by decide) (fun c3 => ?_) (fun c3 => ?_)
      · skip
        refine lv_iconst (v := nI 0) hx hb dX7_sets_19 (by decide) ?_
        refine lv_istore_n (lv' := [(2, .int (nI 0)), (0, .ref m0), (1, .int p0)]) hx hb dX7_sets_20 rfl hl (by decide) rfl (fun ls hl => ?_)
        refine lv_iconst (v := nI 0) hx hb dX7_sets_21 (by decide) ?_
        refine lv_istore_n (lv' := [(3, .int (nI 0)), (2, .int (nI 0)), (0, .ref m0), (1, .int p0)]) hx hb dX7_sets_22 rfl hl (by decide) rfl (fun ls hl => ?_)
        have loop4 : ∀ (fu : Nat) (k : Nat) (v : Int32) (H : Heap) (locs : List Loc) (ls : Array Slot), (k ≤ 2 ^ n ∧ 2 ^ n < k + fu) → va_P D vwCl [(m0, .inr (7, [.int (nI n), .ref g1, .ref g2, .ref g3, .int mr, .ref g4, .int (nI y), .ref g5, .int mo, .ref g6, .int ml, .ref g7, .ref g8, .ref g9, .ref g10, .ref g11, .ref g12])), (g4, .inl (cZ, 20480, .inl fs))] H → va_S aN s.heap H locs → lv_has ls 4 [(3, .int (nI k)), (2, .int v), (0, .ref m0), (1, .int p0)] → W p l e (headSpec wsX7_sets rm_c_X7_sets_g).room s m ([.ref m0, .int p0] : List Value).toArray below meth c H locs 0 0 Q (F0 m 23 ls []) := by
          intro fu
          induction fu with
          | zero => intro k v H locs ls hk; exact absurd hk (by omega)
          | succ fu ih4 =>
            intro k v H locs ls hk hP hS hl
            refine lv_iload_n hx hb dX7_sets_23 rfl (lv_at hl 0 rfl) ?_
            refine lv_aload_n hx hb dX7_sets_24 rfl (lv_at hl 2 rfl) ?_
            refine pu_i (va_runV (As := []) (rest := [.int (nI k)]) ⟨hx, hb, hml, hown, hts⟩ (c_X7_settings l D cI cJ cZ m0 g1 g2 g3 g4 g5 g6 g7 g8 g9 g10 g11 g12 n mr (nI y) mo ml (by first | assumption | omega)) (cwV 0 hts gX7_sets_X7_settings rfl rfl rfl (by decide +kernel) ⟨Nat.le_of_ble_eq_true rfl, Nat.le_of_ble_eq_true rfl⟩) ⟨pc_blind, va_recv hK hP (ci := 7) (q0 := 0) rfl rfl, fun U hU hW => ⟨rfl, by rw [hU]; exact hP.sub (ws' := [(m0, .inr (7, [.int (nI n), .ref g1, .ref g2, .ref g3, .int mr, .ref g4, .int (nI y), .ref g5, .int mo, .ref g6, .int ml, .ref g7, .ref g8, .ref g9, .ref g10, .ref g11, .ref g12]))]) [0] rfl, hKN.warm hW⟩⟩ rfl rfl hl.1 rfl (lv_room (Nat.le_of_ble_eq_true rfl)) dX7_sets_25 ⟨Nat.le_of_ble_eq_true rfl, Nat.le_of_ble_eq_true rfl⟩) hS hP (fun r5 H locs w5r hP hS => ?_)
            have w5 : r5 = nI (2 ^ n) := w5r
            clear w5r
            obtain rfl : r5 = nI (2 ^ n) := w5
            refine lv_icmp_ge (tgt := 54) hx hb dX7_sets_28 (by decide) (fun c6 => ?_) (fun c6 => ?_)
            · skip
              have d6 := c6
              rw [nI_leI (by omega) (by omega)] at d6
              refine lv_iload_n hx hb dX7_sets_54 rfl (lv_at hl 1 rfl) ?_
              rw [← hQ]
              exact W.iret (v := v) hx hb hr (fun tS htS hWS => ⟨⟨v, (), rfl, trivial, trivial⟩, hS.F htS⟩) hS.2.2 dX7_sets_55
            · skip
              have d6 := c6
              rw [nI_leI (by omega) (by omega)] at d6
              refine lv_iload_n hx hb dX7_sets_31 rfl (lv_at hl 1 rfl) ?_
              refine lv_aload_n hx hb dX7_sets_32 rfl (lv_at hl 2 rfl) ?_
              refine lv_iload_n hx hb dX7_sets_33 rfl (lv_at hl 3 rfl) ?_
              refine lv_iload_n hx hb dX7_sets_34 rfl (lv_at hl 0 rfl) ?_
              refine pu_i (va_runV (As := [.int p0, .int (nI k)]) (rest := [.int v]) ⟨hx, hb, hml, hown, hts⟩ (c_X7_isLeast l D cI cJ cZ m0 g1 g2 g3 g4 g5 g6 g7 g8 g9 g10 g11 g12 n y k mr mo ml p0 fs (by first | assumption | omega) (by first | assumption | omega) (by first | assumption | omega) (by first | assumption | omega)) (cwV 2 hts gX7_sets_X7_isLeast rfl rfl rfl (by decide +kernel) ⟨Nat.le_of_ble_eq_true rfl, Nat.le_of_ble_eq_true rfl⟩) ⟨pc_blind, va_recv hK hP (ci := 7) (q0 := 0) rfl rfl, fun U hU hW => ⟨rfl, by rw [hU]; exact hP.sub (ws' := [(m0, .inr (7, [.int (nI n), .ref g1, .ref g2, .ref g3, .int mr, .ref g4, .int (nI y), .ref g5, .int mo, .ref g6, .int ml, .ref g7, .ref g8, .ref g9, .ref g10, .ref g11, .ref g12])), (g4, .inl (cZ, 20480, .inl fs))]) [0, 1] rfl, hKN.warm hW⟩⟩ rfl rfl hl.1 rfl (lv_room (Nat.le_of_ble_eq_true rfl)) dX7_sets_35 ⟨Nat.le_of_ble_eq_true rfl, Nat.le_of_ble_eq_true rfl⟩) hS hP (fun r7 H locs w7r hP hS => ?_)
              have w7 : B01 r7 (lsq fs y n p0 k) := w7r
              clear w7r
              rcases w7 with ⟨rfl, w7⟩ | ⟨rfl, w7⟩
              · skip
                refine lv_if_eq (tgt := 45) hx hb dX7_sets_38 (by decide) (fun c8 => ?_) (fun c8 => ?_)
                · exact absurd c8 (by first | decide | exact nz_lt (by omega) | exact fun h => h (nz_ge (by omega)))
                · skip
                  refine lv_iconst (v := nI 1) hx hb dX7_sets_41 (by decide) ?_
                  refine lv_goto (tgt := 46) hx hb dX7_sets_42 (by decide) ?_
                  refine lv_iadd hx hb dX7_sets_46 ?_
                  refine lv_istore_n (lv' := [(2, .int (v + (nI 1))), (3, .int (nI k)), (0, .ref m0), (1, .int p0)]) hx hb dX7_sets_47 rfl hl (by decide) rfl (fun ls hl => ?_)
                  refine lv_iinc (v := nI (k + 1)) (lv' := [(3, .int (nI (k + 1))), (2, .int (v + (nI 1))), (0, .ref m0), (1, .int p0)]) hx hb dX7_sets_48 hl (k := 1) rfl (nI_1 k) (by decide) rfl (fun ls hl => ?_)
                  refine lv_goto (tgt := 23) hx hb dX7_sets_51 (by decide) ?_
                  exact ih4 (k + 1) (v + (nI 1)) _ _ _ (by omega) hP hS (lv_sub hl [0, 1, 2, 3] rfl)
              · skip
                refine lv_if_eq (tgt := 45) hx hb dX7_sets_38 (by decide) (fun c9 => ?_) (fun c9 => ?_)
                · skip
                  refine lv_iconst (v := nI 0) hx hb dX7_sets_45 (by decide) ?_
                  refine lv_iadd hx hb dX7_sets_46 ?_
                  refine lv_istore_n (lv' := [(2, .int (v + (nI 0))), (3, .int (nI k)), (0, .ref m0), (1, .int p0)]) hx hb dX7_sets_47 rfl hl (by decide) rfl (fun ls hl => ?_)
                  refine lv_iinc (v := nI (k + 1)) (lv' := [(3, .int (nI (k + 1))), (2, .int (v + (nI 0))), (0, .ref m0), (1, .int p0)]) hx hb dX7_sets_48 hl (k := 1) rfl (nI_1 k) (by decide) rfl (fun ls hl => ?_)
                  refine lv_goto (tgt := 23) hx hb dX7_sets_51 (by decide) ?_
                  exact ih4 (k + 1) (v + (nI 0)) _ _ _ (by omega) hP hS (lv_sub hl [0, 1, 2, 3] rfl)
                · exact absurd c9 (by first | decide | exact nz_lt (by omega) | exact fun h => h (nz_ge (by omega)))
        exact loop4 (2 ^ n + 1) 0 (nI 0) _ _ _ (by omega) hP hS (lv_sub hl [0, 1, 2, 3] rfl)
      · exact absurd c3 (by first | decide | exact nz_lt (by omega) | exact fun h => h (nz_ge (by omega)))
  · skip
    refine lv_if_eq (tgt := 17) hx hb dX7_sets_7 (by decide) (fun c10 => ?_) (fun c10 => ?_)
    · skip
      refine lv_iconst (v := (-1 : Int32)) hx hb dX7_sets_17 (by decide) ?_
      rw [← hQ]
      exact W.iret (v := (-1 : Int32)) hx hb hr (fun tS htS hWS => ⟨⟨(-1 : Int32), (), rfl, trivial, trivial⟩, hS.F htS⟩) hS.2.2 dX7_sets_18
    · exact absurd c10 (by first | decide | exact nz_lt (by omega) | exact fun h => h (nz_ge (by omega)))
def rm_c_X7_set_g : Room := { frames := 3, cells := 0, slots := 0, locals := 67 }
set_option maxHeartbeats 400000 in
set_option maxRecDepth 100000 in
theorem c_X7_set_g (l : Launch) (D : va_G) (cI cJ cZ : ClassId) (m0 : Nat) (g1 : Nat) (g2 : Nat) (g3 : Nat) (g4 : Nat) (g5 : Nat) (g6 : Nat) (g7 : Nat) (g8 : Nat) (g9 : Nat) (g10 : Nat) (g11 : Nat) (g12 : Nat) (n : Nat) (y : Nat) (mr : Int32) (mo : Int32) (ml : Int32) (p0 : Int32) (p1 : Int32) (fs : Nat → Int32) (hn : n ≤ 9) (hy : y < 40) (h01 : ∀ z, fs z = nI 0 ∨ fs z = nI 1) : Met l yX7_set wsX7_set rm_c_X7_set_g (pc_ D cI cJ cZ [.ref m0, .int p0, .int p1] [(m0, .inr (7, [.int (nI n), .ref g1, .ref g2, .ref g3, .int mr, .ref g4, .int (nI y), .ref g5, .int mo, .ref g6, .int ml, .ref g7, .ref g8, .ref g9, .ref g10, .ref g11, .ref g12])), (g4, .inl (cZ, 20480, .inl fs))]) (va_Qi (fun (r : Int32) (_ : Unit) => True) (fun _ _ => True) aN) 0 0 aN := by
  refine Met.ofW (cc := cX7_set) (maxL := 5) (ret := (some .int)) (by decide) rfl ?_
  intro p e s m args below meth c s₁ B hml hv
  obtain ⟨rfl, hP, hKN⟩ := hv
  have hK := hKN.1
  have hx := B.exec
  have hb := B.bytes
  have hr := B.returns
  have hts := atoms_spec (ws := wsX7_set) B.pre
  have hown : s.vm.findClass RX7 = some m.cls := findClass_of_methodNamed B.named
  have hlocks := B.notSynchronized
  have hiX7 : ∀ w ∈ wsX70, w ∈ wsX7_set := by decide +kernel
  have hf27 := hts (.fieldLink RX7 27 "LookBenchModel" "system" "I") (by decide +kernel)
  have hS : va_S aN s.heap s.heap [] := va_S.rf
  have hl := lv_entry ([.ref m0, .int p0, .int p1]) (n := 5) (Nat.le_of_ble_eq_true rfl)
  rw [lg_entry_eq]
  generalize (lg_sl ([.ref m0, .int p0, .int p1]) ++ List.replicate (5 - (lg_sl ([.ref m0, .int p0, .int p1])).length) Slot.unset).toArray = ls at hl ⊢
  have hl : lv_has ls 5 [(0, .ref m0), (1, .int p0), (2, .int p1)] := hl
  generalize hQ : MQ below _ _ s _ _ _ = Q
  obtain ⟨H, hH⟩ : ∃ z, z = s.heap := ⟨_, rfl⟩
  have hP : va_P D vwCl [(m0, .inr (7, [.int (nI n), .ref g1, .ref g2, .ref g3, .int mr, .ref g4, .int (nI y), .ref g5, .int mo, .ref g6, .int ml, .ref g7, .ref g8, .ref g9, .ref g10, .ref g11, .ref g12])), (g4, .inl (cZ, 20480, .inl fs))] H := by rw [hH]; exact hP
  have hS : va_S aN s.heap H [] := by rw [hH]; exact hS
  refine m_heap hH ?_
  clear hH
  have h2n := m_pow hn
  have h2p := m_powp n
  refine lv_iload_n hx hb dX7_set_0 rfl (lv_at hl 1 rfl) ?_
  refine lv_i2l hx hb dX7_set_1 rfl ?_
  refine lv_lconst (v := lN 0) hx hb dX7_set_2 (by decide) ?_
  refine lv_lconst (v := lN 1) hx hb dX7_set_3 (by decide) ?_
  refine pu_i (va_runS (As := [.long p0.toInt64, .long (lN 0), .long (lN 1)]) (rest := []) ⟨hx, hb, hml, hown, hts⟩ (c_X7_in l D cI cJ cZ p0.toInt64 (lN 0) (lN 1)) (va_cwS 3 hts gX7_set_X7_in rfl rfl rfl (by decide +kernel) ⟨Nat.le_of_ble_eq_true rfl, Nat.le_of_ble_eq_true rfl⟩) ⟨pc_blind, fun U hU hW => ⟨rfl, by rw [hU]; exact hP.sub (ws' := []) [] rfl, hKN.warm hW⟩⟩ rfl rfl hl.1 rfl (lv_room (Nat.le_of_ble_eq_true rfl)) dX7_set_4 ⟨Nat.le_of_ble_eq_true rfl, Nat.le_of_ble_eq_true rfl⟩) hS hP (fun r1 H locs w1r hP hS => ?_)
  have w1 : B01 r1 ((lN 0).toInt ≤ p0.toInt64.toInt ∧ p0.toInt64.toInt ≤ (lN 1).toInt) := w1r
  clear w1r
  rw [lN_toInt (n := 0) (by omega), j2 p0, lN_toInt (n := 1) (by omega)] at w1
  rcases w1 with ⟨rfl, w1⟩ | ⟨rfl, w1⟩
  · skip
    refine lv_if_eq (tgt := 17) hx hb dX7_set_7 (by decide) (fun c2 => ?_) (fun c2 => ?_)
    · exact absurd c2 (by first | decide | exact nz_lt (by omega) | exact fun h => h (nz_ge (by omega)))
    · skip
      refine lv_aload_n hx hb dX7_set_10 rfl (lv_at hl 0 rfl) ?_
      refine va_get (D := D) (ci := 7) (v := .int (nI y)) (C := RX7) (T := TX7) (N := 17) hx hb hts hiX7 hown hK hP 0 rfl rfl 6 (by decide) hf27 (fun _ h9 => h9) rfl dX7_set_11 ?_
      refine lv_if_ge (tgt := 19) hx hb dX7_set_14 (by decide) (fun c3 => ?_) (fun c3 => ?_)
      · skip
        refine lv_iconst (v := nI 0) hx hb dX7_set_19 (by decide) ?_
        refine lv_istore_n (lv' := [(3, .int (nI 0)), (0, .ref m0), (1, .int p0), (2, .int p1)]) hx hb dX7_set_20 rfl hl (by decide) rfl (fun ls hl => ?_)
        refine lv_iconst (v := nI 0) hx hb dX7_set_21 (by decide) ?_
        refine lv_istore (lv' := [(4, .int (nI 0)), (3, .int (nI 0)), (0, .ref m0), (1, .int p0), (2, .int p1)]) hx hb dX7_set_22 hl (by decide) rfl (fun ls hl => ?_)
        have loop4 : ∀ (fu : Nat) (k : Nat) (v : Int32) (H : Heap) (locs : List Loc) (ls : Array Slot), (k ≤ 2 ^ n ∧ 2 ^ n < k + fu) → va_P D vwCl [(m0, .inr (7, [.int (nI n), .ref g1, .ref g2, .ref g3, .int mr, .ref g4, .int (nI y), .ref g5, .int mo, .ref g6, .int ml, .ref g7, .ref g8, .ref g9, .ref g10, .ref g11, .ref g12])), (g4, .inl (cZ, 20480, .inl fs))] H → va_S aN s.heap H locs → lv_has ls 5 [(4, .int (nI k)), (3, .int v), (0, .ref m0), (1, .int p0), (2, .int p1)] → W p l e (headSpec wsX7_set rm_c_X7_set_g).room s m ([.ref m0, .int p0, .int p1] : List Value).toArray below meth c H locs 0 0 Q (F0 m 24 ls []) := by
          intro fu
          induction fu with
          | zero => intro k v H locs ls hk; exact absurd hk (by omega)
          | succ fu ih4 =>
            intro k v H locs ls hk hP hS hl
            refine lv_iload hx hb dX7_set_24 (lv_at hl 0 rfl) ?_
            refine lv_aload_n hx hb dX7_set_26 rfl (lv_at hl 2 rfl) ?_
            refine pu_i (va_runV (As := []) (rest := [.int (nI k)]) ⟨hx, hb, hml, hown, hts⟩ (c_X7_settings l D cI cJ cZ m0 g1 g2 g3 g4 g5 g6 g7 g8 g9 g10 g11 g12 n mr (nI y) mo ml (by first | assumption | omega)) (cwV 0 hts gX7_set_X7_settings rfl rfl rfl (by decide +kernel) ⟨Nat.le_of_ble_eq_true rfl, Nat.le_of_ble_eq_true rfl⟩) ⟨pc_blind, va_recv hK hP (ci := 7) (q0 := 0) rfl rfl, fun U hU hW => ⟨rfl, by rw [hU]; exact hP.sub (ws' := [(m0, .inr (7, [.int (nI n), .ref g1, .ref g2, .ref g3, .int mr, .ref g4, .int (nI y), .ref g5, .int mo, .ref g6, .int ml, .ref g7, .ref g8, .ref g9, .ref g10, .ref g11, .ref g12]))]) [0] rfl, hKN.warm hW⟩⟩ rfl rfl hl.1 rfl (lv_room (Nat.le_of_ble_eq_true rfl)) dX7_set_27 ⟨Nat.le_of_ble_eq_true rfl, Nat.le_of_ble_eq_true rfl⟩) hS hP (fun r5 H locs w5r hP hS => ?_)
            have w5 : r5 = nI (2 ^ n) := w5r
            clear w5r
            obtain rfl : r5 = nI (2 ^ n) := w5
            refine lv_icmp_ge (tgt := 60) hx hb dX7_set_30 (by decide) (fun c6 => ?_) (fun c6 => ?_)
            · skip
              have d6 := c6
              rw [nI_leI (by omega) (by omega)] at d6
              refine lv_iconst (v := (-1 : Int32)) hx hb dX7_set_60 (by decide) ?_
              rw [← hQ]
              exact W.iret (v := (-1 : Int32)) hx hb hr (fun tS htS hWS => ⟨⟨(-1 : Int32), (), rfl, trivial, trivial⟩, hS.F htS⟩) hS.2.2 dX7_set_61
            · skip
              have d6 := c6
              rw [nI_leI (by omega) (by omega)] at d6
              refine lv_aload_n hx hb dX7_set_33 rfl (lv_at hl 2 rfl) ?_
              refine lv_iload_n hx hb dX7_set_34 rfl (lv_at hl 3 rfl) ?_
              refine lv_iload hx hb dX7_set_35 (lv_at hl 0 rfl) ?_
              refine pu_i (va_runV (As := [.int p0, .int (nI k)]) (rest := []) ⟨hx, hb, hml, hown, hts⟩ (c_X7_isLeast l D cI cJ cZ m0 g1 g2 g3 g4 g5 g6 g7 g8 g9 g10 g11 g12 n y k mr mo ml p0 fs (by first | assumption | omega) (by first | assumption | omega) (by first | assumption | omega) (by first | assumption | omega)) (cwV 2 hts gX7_set_X7_isLeast rfl rfl rfl (by decide +kernel) ⟨Nat.le_of_ble_eq_true rfl, Nat.le_of_ble_eq_true rfl⟩) ⟨pc_blind, va_recv hK hP (ci := 7) (q0 := 0) rfl rfl, fun U hU hW => ⟨rfl, by rw [hU]; exact hP.sub (ws' := [(m0, .inr (7, [.int (nI n), .ref g1, .ref g2, .ref g3, .int mr, .ref g4, .int (nI y), .ref g5, .int mo, .ref g6, .int ml, .ref g7, .ref g8, .ref g9, .ref g10, .ref g11, .ref g12])), (g4, .inl (cZ, 20480, .inl fs))]) [0, 1] rfl, hKN.warm hW⟩⟩ rfl rfl hl.1 rfl (lv_room (Nat.le_of_ble_eq_true rfl)) dX7_set_37 ⟨Nat.le_of_ble_eq_true rfl, Nat.le_of_ble_eq_true rfl⟩) hS hP (fun r7 H locs w7r hP hS => ?_)
              have w7 : B01 r7 (lsq fs y n p0 k) := w7r
              clear w7r
              rcases w7 with ⟨rfl, w7⟩ | ⟨rfl, w7⟩
              · skip
                refine lv_if_eq (tgt := 54) hx hb dX7_set_40 (by decide) (fun c8 => ?_) (fun c8 => ?_)
                · exact absurd c8 (by first | decide | exact nz_lt (by omega) | exact fun h => h (nz_ge (by omega)))
                · skip
                  refine lv_iload_n hx hb dX7_set_43 rfl (lv_at hl 1 rfl) ?_
                  refine lv_iload_n hx hb dX7_set_44 rfl (lv_at hl 4 rfl) ?_
                  refine lv_icmp_ne (tgt := 51) hx hb dX7_set_45 (by decide) (fun c9 => ?_) (fun c9 => ?_)
                  · skip
                    refine lv_iinc (v := (v + 1)) (lv' := [(3, .int (v + 1)), (4, .int (nI k)), (0, .ref m0), (1, .int p0), (2, .int p1)]) hx hb dX7_set_51 hl (k := 1) rfl (rfl) (by decide) rfl (fun ls hl => ?_)
                    refine lv_iinc (v := nI (k + 1)) (lv' := [(4, .int (nI (k + 1))), (3, .int (v + 1)), (0, .ref m0), (1, .int p0), (2, .int p1)]) hx hb dX7_set_54 hl (k := 1) rfl (nI_1 k) (by decide) rfl (fun ls hl => ?_)
                    refine lv_goto (tgt := 24) hx hb dX7_set_57 (by decide) ?_
                    exact ih4 (k + 1) (v + 1) _ _ _ (by omega) hP hS (lv_sub hl [0, 1, 2, 3, 4] rfl)
                  · skip
                    refine lv_iload hx hb dX7_set_48 (lv_at hl 0 rfl) ?_
                    rw [← hQ]
                    exact W.iret (v := nI k) hx hb hr (fun tS htS hWS => ⟨⟨(nI k), (), rfl, trivial, trivial⟩, hS.F htS⟩) hS.2.2 dX7_set_50
              · skip
                refine lv_if_eq (tgt := 54) hx hb dX7_set_40 (by decide) (fun c10 => ?_) (fun c10 => ?_)
                · skip
                  refine lv_iinc (v := nI (k + 1)) (lv' := [(4, .int (nI (k + 1))), (3, .int v), (0, .ref m0), (1, .int p0), (2, .int p1)]) hx hb dX7_set_54 hl (k := 0) rfl (nI_1 k) (by decide) rfl (fun ls hl => ?_)
                  refine lv_goto (tgt := 24) hx hb dX7_set_57 (by decide) ?_
                  exact ih4 (k + 1) v _ _ _ (by omega) hP hS (lv_sub hl [0, 1, 2, 3, 4] rfl)
                · exact absurd c10 (by first | decide | exact nz_lt (by omega) | exact fun h => h (nz_ge (by omega)))
        exact loop4 (2 ^ n + 1) 0 (nI 0) _ _ _ (by omega) hP hS (lv_sub hl [0, 1, 2, 3, 4] rfl)
      · exact absurd c3 (by first | decide | exact nz_lt (by omega) | exact fun h => h (nz_ge (by omega)))
  · skip
    refine lv_if_eq (tgt := 17) hx hb dX7_set_7 (by decide) (fun c11 => ?_) (fun c11 => ?_)
    · skip
      refine lv_iconst (v := (-1 : Int32)) hx hb dX7_set_17 (by decide) ?_
      rw [← hQ]
      exact W.iret (v := (-1 : Int32)) hx hb hr (fun tS htS hWS => ⟨⟨(-1 : Int32), (), rfl, trivial, trivial⟩, hS.F htS⟩) hS.2.2 dX7_set_18
    · exact absurd c11 (by first | decide | exact nz_lt (by omega) | exact fun h => h (nz_ge (by omega)))
def rm_c_X7_digit_g : Room := { frames := 0, cells := 0, slots := 0, locals := 0 }
set_option maxHeartbeats 400000 in
set_option maxRecDepth 100000 in
theorem c_X7_digit_g (l : Launch) (D : va_G) (cI cJ cZ : ClassId) (m0 : Nat) (g1 : Nat) (g2 : Nat) (g3 : Nat) (g4 : Nat) (g5 : Nat) (g6 : Nat) (g7 : Nat) (g8 : Nat) (g9 : Nat) (g10 : Nat) (g11 : Nat) (g12 : Nat) (j : Nat) (cv : Nat) (mp : Int32) (mr : Int32) (my : Int32) (mo : Int32) (ml : Int32) (th : Nat → Int32) (hj : j < 9) (hcv : cv < 2 ^ 31) (hth : ∀ z, z < 9 → th z = nI (3 ^ z)) : Met l yX7_digit wsX7_digit rm_c_X7_digit_g (pc_ D cI cJ cZ [.ref m0, .int (nI cv), .int (nI j)] [(m0, .inr (7, [.int mp, .ref g1, .ref g2, .ref g3, .int mr, .ref g4, .int my, .ref g5, .int mo, .ref g6, .int ml, .ref g7, .ref g8, .ref g9, .ref g10, .ref g11, .ref g12])), (g12, .inl (cI, 9, .inl th))]) (va_Qi (fun (r : Int32) (_ : Unit) => r = nI (cv / 3 ^ j % 3)) (fun _ _ => True) aN) 0 0 aN := by
  refine Met.ofW (cc := cX7_digit) (maxL := 3) (ret := (some .int)) (by decide) rfl ?_
  intro p e s m args below meth c s₁ B hml hv
  obtain ⟨rfl, hP, hKN⟩ := hv
  have hK := hKN.1
  have hx := B.exec
  have hb := B.bytes
  have hr := B.returns
  have hts := atoms_spec (ws := wsX7_digit) B.pre
  have hown : s.vm.findClass RX7 = some m.cls := findClass_of_methodNamed B.named
  have hlocks := B.notSynchronized
  have hiX7 : ∀ w ∈ wsX70, w ∈ wsX7_digit := by decide +kernel
  have hf52 := hts (.fieldLink RX7 52 "LookBenchModel" "three" "[I") (by decide +kernel)
  have hS : va_S aN s.heap s.heap [] := va_S.rf
  have hl := lv_entry ([.ref m0, .int (nI cv), .int (nI j)]) (n := 3) (Nat.le_of_ble_eq_true rfl)
  rw [lg_entry_eq]
  generalize (lg_sl ([.ref m0, .int (nI cv), .int (nI j)]) ++ List.replicate (3 - (lg_sl ([.ref m0, .int (nI cv), .int (nI j)])).length) Slot.unset).toArray = ls at hl ⊢
  have hl : lv_has ls 3 [(0, .ref m0), (1, .int (nI cv)), (2, .int (nI j))] := hl
  generalize hQ : MQ below _ _ s _ _ _ = Q
  obtain ⟨H, hH⟩ : ∃ z, z = s.heap := ⟨_, rfl⟩
  have hP : va_P D vwCl [(m0, .inr (7, [.int mp, .ref g1, .ref g2, .ref g3, .int mr, .ref g4, .int my, .ref g5, .int mo, .ref g6, .int ml, .ref g7, .ref g8, .ref g9, .ref g10, .ref g11, .ref g12])), (g12, .inl (cI, 9, .inl th))] H := by rw [hH]; exact hP
  have hS : va_S aN s.heap H [] := by rw [hH]; exact hS
  refine m_heap hH ?_
  clear hH
  refine lv_iload_n hx hb dX7_digit_0 rfl (lv_at hl 1 rfl) ?_
  refine lv_aload_n hx hb dX7_digit_1 rfl (lv_at hl 0 rfl) ?_
  refine va_get (D := D) (ci := 7) (v := .ref g12) (C := RX7) (T := TX7) (N := 17) hx hb hts hiX7 hown hK hP 0 rfl rfl 16 (by decide) hf52 (fun _ h9 => h9) rfl dX7_digit_2 ?_
  refine lv_iload_n hx hb dX7_digit_5 rfl (lv_at hl 2 rfl) ?_
  refine va_iald hx hb hK hP 1 0 rfl rfl (i := nI j) (vp_in_nI (by omega) (by omega)) dX7_digit_6 ?_
  refine cn_i (y := th j) (congrArg th (nI_clamp (by omega))) ?_
  refine lv_idiv hx hb dX7_digit_7 (m_th0 (hth j hj) hj) ?_
  refine lv_iconst (v := nI 3) hx hb dX7_digit_8 (by decide) ?_
  refine lv_irem hx hb dX7_digit_9 (by decide) ?_
  rw [← hQ]
  exact W.iret (v := ((nI cv) / (th j)) - ((nI cv) / (th j)) / (nI 3) * (nI 3)) hx hb hr (fun tS htS hWS => ⟨⟨(((nI cv) / (th j)) - ((nI cv) / (th j)) / (nI 3) * (nI 3)), (), rfl, m_dgt (hth j hj) hcv hj, trivial⟩, hS.F htS⟩) hS.2.2 dX7_digit_10
def rm_c_X7_now_g : Room := { frames := 0, cells := 0, slots := 0, locals := 0 }
set_option maxHeartbeats 400000 in
set_option maxRecDepth 100000 in
theorem c_X7_now_g (l : Launch) (D : va_G) (cI cJ cZ : ClassId) (m0 : Nat) (g1 : Nat) (g2 : Nat) (g3 : Nat) (g4 : Nat) (g5 : Nat) (g6 : Nat) (g7 : Nat) (g8 : Nat) (g9 : Nat) (g10 : Nat) (g11 : Nat) (g12 : Nat) (n : Nat) (mr : Int32) (my : Int32) (mo : Int32) (ml : Int32) (fn : Nat → Int32) (th : Nat → Int32) (hn : n ≤ 9) (hth : ∀ z, z < 9 → th z = nI (3 ^ z)) : Met l yX7_now wsX7_now rm_c_X7_now_g (pc_ D cI cJ cZ [.ref m0] [(m0, .inr (7, [.int (nI n), .ref g1, .ref g2, .ref g3, .int mr, .ref g4, .int my, .ref g5, .int mo, .ref g6, .int ml, .ref g7, .ref g8, .ref g9, .ref g10, .ref g11, .ref g12])), (g5, .inl (cI, 9, .inl fn)), (g12, .inl (cI, 9, .inl th))]) (va_Qi (fun (r : Int32) (_ : Unit) => r = nI (nowN fn n)) (fun _ _ => True) aN) 0 0 aN := by
  refine Met.ofW (cc := cX7_now) (maxL := 3) (ret := (some .int)) (by decide) rfl ?_
  intro p e s m args below meth c s₁ B hml hv
  obtain ⟨rfl, hP, hKN⟩ := hv
  have hK := hKN.1
  have hx := B.exec
  have hb := B.bytes
  have hr := B.returns
  have hts := atoms_spec (ws := wsX7_now) B.pre
  have hown : s.vm.findClass RX7 = some m.cls := findClass_of_methodNamed B.named
  have hlocks := B.notSynchronized
  have hiX7 : ∀ w ∈ wsX70, w ∈ wsX7_now := by decide +kernel
  have hf7 := hts (.fieldLink RX7 7 "LookBenchModel" "parts" "I") (by decide +kernel)
  have hf30 := hts (.fieldLink RX7 30 "LookBenchModel" "seen" "[I") (by decide +kernel)
  have hf52 := hts (.fieldLink RX7 52 "LookBenchModel" "three" "[I") (by decide +kernel)
  have hS : va_S aN s.heap s.heap [] := va_S.rf
  have hl := lv_entry ([.ref m0]) (n := 3) (Nat.le_of_ble_eq_true rfl)
  rw [lg_entry_eq]
  generalize (lg_sl ([.ref m0]) ++ List.replicate (3 - (lg_sl ([.ref m0])).length) Slot.unset).toArray = ls at hl ⊢
  have hl : lv_has ls 3 [(0, .ref m0)] := hl
  generalize hQ : MQ below _ _ s _ _ _ = Q
  obtain ⟨H, hH⟩ : ∃ z, z = s.heap := ⟨_, rfl⟩
  have hP : va_P D vwCl [(m0, .inr (7, [.int (nI n), .ref g1, .ref g2, .ref g3, .int mr, .ref g4, .int my, .ref g5, .int mo, .ref g6, .int ml, .ref g7, .ref g8, .ref g9, .ref g10, .ref g11, .ref g12])), (g5, .inl (cI, 9, .inl fn)), (g12, .inl (cI, 9, .inl th))] H := by rw [hH]; exact hP
  have hS : va_S aN s.heap H [] := by rw [hH]; exact hS
  refine m_heap hH ?_
  clear hH
  refine lv_iconst (v := nI 0) hx hb dX7_now_0 (by decide) ?_
  refine lv_istore_n (lv' := [(1, .int (nI 0)), (0, .ref m0)]) hx hb dX7_now_1 rfl hl (by decide) rfl (fun ls hl => ?_)
  refine lv_iconst (v := nI 0) hx hb dX7_now_2 (by decide) ?_
  refine lv_istore_n (lv' := [(2, .int (nI 0)), (1, .int (nI 0)), (0, .ref m0)]) hx hb dX7_now_3 rfl hl (by decide) rfl (fun ls hl => ?_)
  have loop1 : ∀ (fu : Nat) (k : Nat) (v : Int32) (H : Heap) (locs : List Loc) (ls : Array Slot), (k ≤ n ∧ n < k + fu) → (v = mnow th fn k) → va_P D vwCl [(m0, .inr (7, [.int (nI n), .ref g1, .ref g2, .ref g3, .int mr, .ref g4, .int my, .ref g5, .int mo, .ref g6, .int ml, .ref g7, .ref g8, .ref g9, .ref g10, .ref g11, .ref g12])), (g5, .inl (cI, 9, .inl fn)), (g12, .inl (cI, 9, .inl th))] H → va_S aN s.heap H locs → lv_has ls 3 [(2, .int (nI k)), (1, .int v), (0, .ref m0)] → W p l e (headSpec wsX7_now rm_c_X7_now_g).room s m ([.ref m0] : List Value).toArray below meth c H locs 0 0 Q (F0 m 4 ls []) := by
    intro fu
    induction fu with
    | zero => intro k v H locs ls hk hv; exact absurd hk (by omega)
    | succ fu ih1 =>
      intro k v H locs ls hk hv hP hS hl
      refine lv_iload_n hx hb dX7_now_4 rfl (lv_at hl 0 rfl) ?_
      refine lv_aload_n hx hb dX7_now_5 rfl (lv_at hl 2 rfl) ?_
      refine va_get (D := D) (ci := 7) (v := .int (nI n)) (C := RX7) (T := TX7) (N := 17) hx hb hts hiX7 hown hK hP 0 rfl rfl 0 (by decide) hf7 (fun _ h9 => h9) rfl dX7_now_6 ?_
      refine lv_icmp_ge (tgt := 56) hx hb dX7_now_9 (by decide) (fun c2 => ?_) (fun c2 => ?_)
      · skip
        have d2 := c2
        rw [nI_leI (by omega) (by omega)] at d2
        refine lv_iload_n hx hb dX7_now_56 rfl (lv_at hl 1 rfl) ?_
        rw [← hQ]
        exact W.iret (v := v) hx hb hr (fun tS htS hWS => ⟨⟨v, (), rfl, by rw [hv, show k = n by omega]; exact mnowN hth n hn, trivial⟩, hS.F htS⟩) hS.2.2 dX7_now_57
      · skip
        have d2 := c2
        rw [nI_leI (by omega) (by omega)] at d2
        refine lv_iload_n hx hb dX7_now_12 rfl (lv_at hl 1 rfl) ?_
        refine lv_aload_n hx hb dX7_now_13 rfl (lv_at hl 2 rfl) ?_
        refine va_get (D := D) (ci := 7) (v := .ref g12) (C := RX7) (T := TX7) (N := 17) hx hb hts hiX7 hown hK hP 0 rfl rfl 16 (by decide) hf52 (fun _ h9 => h9) rfl dX7_now_14 ?_
        refine lv_iload_n hx hb dX7_now_17 rfl (lv_at hl 0 rfl) ?_
        refine va_iald hx hb hK hP 2 0 rfl rfl (i := nI k) (vp_in_nI (by omega) (by omega)) dX7_now_18 ?_
        refine cn_i (y := th k) (congrArg th (nI_clamp (by omega))) ?_
        refine lv_aload_n hx hb dX7_now_19 rfl (lv_at hl 2 rfl) ?_
        refine va_get (D := D) (ci := 7) (v := .ref g5) (C := RX7) (T := TX7) (N := 17) hx hb hts hiX7 hown hK hP 0 rfl rfl 7 (by decide) hf30 (fun _ h9 => h9) rfl dX7_now_20 ?_
        refine lv_iload_n hx hb dX7_now_23 rfl (lv_at hl 0 rfl) ?_
        refine va_iald hx hb hK hP 1 0 rfl rfl (i := nI k) (vp_in_nI (by omega) (by omega)) dX7_now_24 ?_
        refine cn_i (y := fn k) (congrArg fn (nI_clamp (by omega))) ?_
        refine lv_iconst (v := nI 1) hx hb dX7_now_25 (by decide) ?_
        refine lv_icmp_ne (tgt := 33) hx hb dX7_now_26 (by decide) (fun c3 => ?_) (fun c3 => ?_)
        · skip
          refine lv_aload_n hx hb dX7_now_33 rfl (lv_at hl 2 rfl) ?_
          refine va_get (D := D) (ci := 7) (v := .ref g5) (C := RX7) (T := TX7) (N := 17) hx hb hts hiX7 hown hK hP 0 rfl rfl 7 (by decide) hf30 (fun _ h9 => h9) rfl dX7_now_34 ?_
          refine lv_iload_n hx hb dX7_now_37 rfl (lv_at hl 0 rfl) ?_
          refine va_iald hx hb hK hP 1 0 rfl rfl (i := nI k) (vp_in_nI (by omega) (by omega)) dX7_now_38 ?_
          refine cn_i (y := fn k) (congrArg fn (nI_clamp (by omega))) ?_
          refine lv_if_ne (tgt := 46) hx hb dX7_now_39 (by decide) (fun c4 => ?_) (fun c4 => ?_)
          · skip
            refine lv_iconst (v := nI 0) hx hb dX7_now_46 (by decide) ?_
            refine lv_imul hx hb dX7_now_47 ?_
            refine lv_iadd hx hb dX7_now_48 ?_
            refine lv_istore_n (lv' := [(1, .int (v + ((th k) * (nI 0)))), (2, .int (nI k)), (0, .ref m0)]) hx hb dX7_now_49 rfl hl (by decide) rfl (fun ls hl => ?_)
            refine lv_iinc (v := nI (k + 1)) (lv' := [(2, .int (nI (k + 1))), (1, .int (v + ((th k) * (nI 0)))), (0, .ref m0)]) hx hb dX7_now_50 hl (k := 1) rfl (nI_1 k) (by decide) rfl (fun ls hl => ?_)
            refine lv_goto (tgt := 4) hx hb dX7_now_53 (by decide) ?_
            exact ih1 (k + 1) (v + ((th k) * (nI 0))) _ _ _ (by omega) (by rw [hv]; simp only [mnow]; first | rw [if_pos c3] | rw [if_neg c3, if_pos c4] | rw [if_neg c3, if_neg c4]) hP hS (lv_sub hl [0, 1, 2] rfl)
          · skip
            refine lv_iconst (v := nI 2) hx hb dX7_now_42 (by decide) ?_
            refine lv_goto (tgt := 47) hx hb dX7_now_43 (by decide) ?_
            refine lv_imul hx hb dX7_now_47 ?_
            refine lv_iadd hx hb dX7_now_48 ?_
            refine lv_istore_n (lv' := [(1, .int (v + ((th k) * (nI 2)))), (2, .int (nI k)), (0, .ref m0)]) hx hb dX7_now_49 rfl hl (by decide) rfl (fun ls hl => ?_)
            refine lv_iinc (v := nI (k + 1)) (lv' := [(2, .int (nI (k + 1))), (1, .int (v + ((th k) * (nI 2)))), (0, .ref m0)]) hx hb dX7_now_50 hl (k := 1) rfl (nI_1 k) (by decide) rfl (fun ls hl => ?_)
            refine lv_goto (tgt := 4) hx hb dX7_now_53 (by decide) ?_
            exact ih1 (k + 1) (v + ((th k) * (nI 2))) _ _ _ (by omega) (by rw [hv]; simp only [mnow]; first | rw [if_pos c3] | rw [if_neg c3, if_pos c4] | rw [if_neg c3, if_neg c4]) hP hS (lv_sub hl [0, 1, 2] rfl)
        · skip
          refine lv_iconst (v := nI 1) hx hb dX7_now_29 (by decide) ?_
          refine lv_goto (tgt := 47) hx hb dX7_now_30 (by decide) ?_
          refine lv_imul hx hb dX7_now_47 ?_
          refine lv_iadd hx hb dX7_now_48 ?_
          refine lv_istore_n (lv' := [(1, .int (v + ((th k) * (nI 1)))), (2, .int (nI k)), (0, .ref m0)]) hx hb dX7_now_49 rfl hl (by decide) rfl (fun ls hl => ?_)
          refine lv_iinc (v := nI (k + 1)) (lv' := [(2, .int (nI (k + 1))), (1, .int (v + ((th k) * (nI 1)))), (0, .ref m0)]) hx hb dX7_now_50 hl (k := 1) rfl (nI_1 k) (by decide) rfl (fun ls hl => ?_)
          refine lv_goto (tgt := 4) hx hb dX7_now_53 (by decide) ?_
          exact ih1 (k + 1) (v + ((th k) * (nI 1))) _ _ _ (by omega) (by rw [hv]; simp only [mnow]; first | rw [if_pos c3] | rw [if_neg c3, if_pos c4] | rw [if_neg c3, if_neg c4]) hP hS (lv_sub hl [0, 1, 2] rfl)
  exact loop1 (n + 1) 0 (nI 0) _ _ _ (by omega) rfl hP hS (lv_sub hl [0, 1, 2] rfl)
def rm_c_X7_setOf : Room := { frames := 1, cells := 0, slots := 0, locals := 22 }
set_option maxHeartbeats 400000 in
set_option maxRecDepth 100000 in
theorem c_X7_setOf (l : Launch) (D : va_G) (cI cJ cZ : ClassId) (m0 : Nat) (g1 : Nat) (g2 : Nat) (g3 : Nat) (g4 : Nat) (g5 : Nat) (g6 : Nat) (g7 : Nat) (g8 : Nat) (g9 : Nat) (g10 : Nat) (g11 : Nat) (g12 : Nat) (n : Nat) (cv : Nat) (ho : Nat) (mr : Int32) (my : Int32) (mo : Int32) (ml : Int32) (th : Nat → Int32) (hn : n ≤ 9) (hcv : cv < 3 ^ n) (hho : ho ≤ 2) (hth : ∀ z, z < 9 → th z = nI (3 ^ z)) : Met l yX7_setOf wsX7_setOf rm_c_X7_setOf (pc_ D cI cJ cZ [.ref m0, .int (nI cv), .int (nI ho)] [(m0, .inr (7, [.int (nI n), .ref g1, .ref g2, .ref g3, .int mr, .ref g4, .int my, .ref g5, .int mo, .ref g6, .int ml, .ref g7, .ref g8, .ref g9, .ref g10, .ref g11, .ref g12])), (g12, .inl (cI, 9, .inl th))]) (va_Qi (fun (r : Int32) (_ : Unit) => r = nI (setN cv ho n)) (fun _ _ => True) aN) 0 0 aN := by
  refine Met.ofW (cc := cX7_setOf) (maxL := 5) (ret := (some .int)) (by decide) rfl ?_
  intro p e s m args below meth c s₁ B hml hv
  obtain ⟨rfl, hP, hKN⟩ := hv
  have hK := hKN.1
  have hx := B.exec
  have hb := B.bytes
  have hr := B.returns
  have hts := atoms_spec (ws := wsX7_setOf) B.pre
  have hown : s.vm.findClass RX7 = some m.cls := findClass_of_methodNamed B.named
  have hlocks := B.notSynchronized
  have hiX7 : ∀ w ∈ wsX70, w ∈ wsX7_setOf := by decide +kernel
  have hf7 := hts (.fieldLink RX7 7 "LookBenchModel" "parts" "I") (by decide +kernel)
  have hS : va_S aN s.heap s.heap [] := va_S.rf
  have hl := lv_entry ([.ref m0, .int (nI cv), .int (nI ho)]) (n := 5) (Nat.le_of_ble_eq_true rfl)
  rw [lg_entry_eq]
  generalize (lg_sl ([.ref m0, .int (nI cv), .int (nI ho)]) ++ List.replicate (5 - (lg_sl ([.ref m0, .int (nI cv), .int (nI ho)])).length) Slot.unset).toArray = ls at hl ⊢
  have hl : lv_has ls 5 [(0, .ref m0), (1, .int (nI cv)), (2, .int (nI ho))] := hl
  generalize hQ : MQ below _ _ s _ _ _ = Q
  obtain ⟨H, hH⟩ : ∃ z, z = s.heap := ⟨_, rfl⟩
  have hP : va_P D vwCl [(m0, .inr (7, [.int (nI n), .ref g1, .ref g2, .ref g3, .int mr, .ref g4, .int my, .ref g5, .int mo, .ref g6, .int ml, .ref g7, .ref g8, .ref g9, .ref g10, .ref g11, .ref g12])), (g12, .inl (cI, 9, .inl th))] H := by rw [hH]; exact hP
  have hS : va_S aN s.heap H [] := by rw [hH]; exact hS
  refine m_heap hH ?_
  clear hH
  have h3n := m_p3 hn
  refine lv_iconst (v := nI 0) hx hb dX7_setOf_0 (by decide) ?_
  refine lv_istore_n (lv' := [(3, .int (nI 0)), (0, .ref m0), (1, .int (nI cv)), (2, .int (nI ho))]) hx hb dX7_setOf_1 rfl hl (by decide) rfl (fun ls hl => ?_)
  refine lv_iconst (v := nI 0) hx hb dX7_setOf_2 (by decide) ?_
  refine lv_istore (lv' := [(4, .int (nI 0)), (3, .int (nI 0)), (0, .ref m0), (1, .int (nI cv)), (2, .int (nI ho))]) hx hb dX7_setOf_3 hl (by decide) rfl (fun ls hl => ?_)
  have loop1 : ∀ (fu : Nat) (k : Nat) (v : Nat) (H : Heap) (locs : List Loc) (ls : Array Slot), (k ≤ n ∧ n < k + fu) → (v = setN cv ho k) → va_P D vwCl [(m0, .inr (7, [.int (nI n), .ref g1, .ref g2, .ref g3, .int mr, .ref g4, .int my, .ref g5, .int mo, .ref g6, .int ml, .ref g7, .ref g8, .ref g9, .ref g10, .ref g11, .ref g12])), (g12, .inl (cI, 9, .inl th))] H → va_S aN s.heap H locs → lv_has ls 5 [(4, .int (nI k)), (3, .int (nI v)), (0, .ref m0), (1, .int (nI cv)), (2, .int (nI ho))] → W p l e (headSpec wsX7_setOf rm_c_X7_setOf).room s m ([.ref m0, .int (nI cv), .int (nI ho)] : List Value).toArray below meth c H locs 0 0 Q (F0 m 5 ls []) := by
    intro fu
    induction fu with
    | zero => intro k v H locs ls hk hv; exact absurd hk (by omega)
    | succ fu ih1 =>
      intro k v H locs ls hk hv hP hS hl
      refine lv_iload hx hb dX7_setOf_5 (lv_at hl 0 rfl) ?_
      refine lv_aload_n hx hb dX7_setOf_7 rfl (lv_at hl 2 rfl) ?_
      refine va_get (D := D) (ci := 7) (v := .int (nI n)) (C := RX7) (T := TX7) (N := 17) hx hb hts hiX7 hown hK hP 0 rfl rfl 0 (by decide) hf7 (fun _ h9 => h9) rfl dX7_setOf_8 ?_
      refine lv_icmp_ge (tgt := 42) hx hb dX7_setOf_11 (by decide) (fun c2 => ?_) (fun c2 => ?_)
      · skip
        have d2 := c2
        rw [nI_leI (by omega) (by omega)] at d2
        refine lv_iload_n hx hb dX7_setOf_42 rfl (lv_at hl 1 rfl) ?_
        rw [← hQ]
        exact W.iret (v := nI v) hx hb hr (fun tS htS hWS => ⟨⟨(nI v), (), rfl, by rw [hv, show k = n by omega], trivial⟩, hS.F htS⟩) hS.2.2 dX7_setOf_43
      · skip
        have d2 := c2
        rw [nI_leI (by omega) (by omega)] at d2
        refine lv_iload_n hx hb dX7_setOf_14 rfl (lv_at hl 1 rfl) ?_
        refine lv_aload_n hx hb dX7_setOf_15 rfl (lv_at hl 2 rfl) ?_
        refine lv_iload_n hx hb dX7_setOf_16 rfl (lv_at hl 3 rfl) ?_
        refine lv_iload hx hb dX7_setOf_17 (lv_at hl 0 rfl) ?_
        refine pu_i (va_runV (As := [.int (nI cv), .int (nI k)]) (rest := [.int (nI v)]) ⟨hx, hb, hml, hown, hts⟩ (c_X7_digit_g l D cI cJ cZ m0 g1 g2 g3 g4 g5 g6 g7 g8 g9 g10 g11 g12 k cv (nI n) mr my mo ml th (by first | assumption | omega) (by first | assumption | omega) (by first | assumption | omega)) (cwV 2 hts gX7_setOf_X7_digit rfl rfl rfl (by decide +kernel) ⟨Nat.le_of_ble_eq_true rfl, Nat.le_of_ble_eq_true rfl⟩) ⟨pc_blind, va_recv hK hP (ci := 7) (q0 := 0) rfl rfl, fun U hU hW => ⟨rfl, by rw [hU]; exact hP.sub (ws' := [(m0, .inr (7, [.int (nI n), .ref g1, .ref g2, .ref g3, .int mr, .ref g4, .int my, .ref g5, .int mo, .ref g6, .int ml, .ref g7, .ref g8, .ref g9, .ref g10, .ref g11, .ref g12])), (g12, .inl (cI, 9, .inl th))]) [0, 1] rfl, hKN.warm hW⟩⟩ rfl rfl hl.1 rfl (lv_room (Nat.le_of_ble_eq_true rfl)) dX7_setOf_19 ⟨Nat.le_of_ble_eq_true rfl, Nat.le_of_ble_eq_true rfl⟩) hS hP (fun r3 H locs w3r hP hS => ?_)
        have w3 : r3 = nI (cv / 3 ^ k % 3) := w3r
        clear w3r
        obtain rfl : r3 = nI (cv / 3 ^ k % 3) := w3
        refine lv_iload_n hx hb dX7_setOf_22 rfl (lv_at hl 4 rfl) ?_
        refine lv_icmp_ne (tgt := 33) hx hb dX7_setOf_23 (by decide) (fun c4 => ?_) (fun c4 => ?_)
        · skip
          have d4 := c4
          rw [nI_eq (by omega) (by omega)] at d4
          refine lv_iconst (v := nI 0) hx hb dX7_setOf_33 (by decide) ?_
          refine lv_iadd hx hb dX7_setOf_34 ?_
          refine cn_i (y := nI (v + 0)) (nI_add v 0) ?_
          refine lv_istore_n (lv' := [(3, .int (nI (v + 0))), (4, .int (nI k)), (0, .ref m0), (1, .int (nI cv)), (2, .int (nI ho))]) hx hb dX7_setOf_35 rfl hl (by decide) rfl (fun ls hl => ?_)
          refine lv_iinc (v := nI (k + 1)) (lv' := [(4, .int (nI (k + 1))), (3, .int (nI (v + 0))), (0, .ref m0), (1, .int (nI cv)), (2, .int (nI ho))]) hx hb dX7_setOf_36 hl (k := 1) rfl (nI_1 k) (by decide) rfl (fun ls hl => ?_)
          refine lv_goto (tgt := 5) hx hb dX7_setOf_39 (by decide) ?_
          exact ih1 (k + 1) (v + 0) _ _ _ (by omega) (by rw [hv]; simp only [setN]; first | rw [if_pos (by omega)] | rw [if_neg (by omega)]) hP hS (lv_sub hl [0, 1, 2, 3, 4] rfl)
        · skip
          have d4 := c4
          rw [nI_eq (by omega) (by omega)] at d4
          refine lv_iconst (v := nI 1) hx hb dX7_setOf_26 (by decide) ?_
          refine lv_iload hx hb dX7_setOf_27 (lv_at hl 0 rfl) ?_
          refine lv_ishl hx hb dX7_setOf_29 ?_
          refine cn_i (y := nI (2 ^ k)) (m_shl1 (by omega)) ?_
          refine lv_goto (tgt := 34) hx hb dX7_setOf_30 (by decide) ?_
          refine lv_iadd hx hb dX7_setOf_34 ?_
          refine cn_i (y := nI (v + (2 ^ k))) (nI_add v (2 ^ k)) ?_
          refine lv_istore_n (lv' := [(3, .int (nI (v + (2 ^ k)))), (4, .int (nI k)), (0, .ref m0), (1, .int (nI cv)), (2, .int (nI ho))]) hx hb dX7_setOf_35 rfl hl (by decide) rfl (fun ls hl => ?_)
          refine lv_iinc (v := nI (k + 1)) (lv' := [(4, .int (nI (k + 1))), (3, .int (nI (v + (2 ^ k)))), (0, .ref m0), (1, .int (nI cv)), (2, .int (nI ho))]) hx hb dX7_setOf_36 hl (k := 1) rfl (nI_1 k) (by decide) rfl (fun ls hl => ?_)
          refine lv_goto (tgt := 5) hx hb dX7_setOf_39 (by decide) ?_
          exact ih1 (k + 1) (v + (2 ^ k)) _ _ _ (by omega) (by rw [hv]; simp only [setN]; first | rw [if_pos (by omega)] | rw [if_neg (by omega)]) hP hS (lv_sub hl [0, 1, 2, 3, 4] rfl)
  exact loop1 (n + 1) 0 0 _ _ _ (by omega) rfl hP hS (lv_sub hl [0, 1, 2, 3, 4] rfl)
def rm_c_X7_sureAt : Room := { frames := 2, cells := 0, slots := 0, locals := 46 }
set_option maxHeartbeats 400000 in
set_option maxRecDepth 100000 in
theorem c_X7_sureAt (l : Launch) (D : va_G) (cI cJ cZ : ClassId) (m0 : Nat) (g1 : Nat) (g2 : Nat) (g3 : Nat) (g4 : Nat) (g5 : Nat) (g6 : Nat) (g7 : Nat) (g8 : Nat) (g9 : Nat) (g10 : Nat) (g11 : Nat) (g12 : Nat) (n : Nat) (cv : Nat) (y : Nat) (mr : Int32) (mo : Int32) (ml : Int32) (fs : Nat → Int32) (th : Nat → Int32) (hn : n ≤ 9) (hy : y < 40) (hcv : cv < 3 ^ n) (hth : ∀ z, z < 9 → th z = nI (3 ^ z)) (h01 : ∀ z, fs z = nI 0 ∨ fs z = nI 1) : Met l yX7_sureAt wsX7_sureAt rm_c_X7_sureAt (pc_ D cI cJ cZ [.ref m0, .int (nI cv)] [(m0, .inr (7, [.int (nI n), .ref g1, .ref g2, .ref g3, .int mr, .ref g4, .int (nI y), .ref g5, .int mo, .ref g6, .int ml, .ref g7, .ref g8, .ref g9, .ref g10, .ref g11, .ref g12])), (g4, .inl (cZ, 20480, .inl fs)), (g12, .inl (cI, 9, .inl th))]) (va_Qi (fun (r : Int32) (_ : Unit) => (r = nI 1 ∧ Sg fs y (setN cv 1 n)) ∨ (r = -1 ∧ ¬ Sg fs y (setN cv 1 n) ∧ Sg fs y (2 ^ n - 1 - setN cv 2 n)) ∨ (r = nI 0 ∧ ¬ Sg fs y (setN cv 1 n) ∧ ¬ Sg fs y (2 ^ n - 1 - setN cv 2 n))) (fun _ _ => True) aN) 0 0 aN := by
  refine Met.ofW (cc := cX7_sureAt) (maxL := 2) (ret := (some .int)) (by decide) rfl ?_
  intro p e s m args below meth c s₁ B hml hv
  obtain ⟨rfl, hP, hKN⟩ := hv
  have hK := hKN.1
  have hx := B.exec
  have hb := B.bytes
  have hr := B.returns
  have hts := atoms_spec (ws := wsX7_sureAt) B.pre
  have hown : s.vm.findClass RX7 = some m.cls := findClass_of_methodNamed B.named
  have hlocks := B.notSynchronized
  have hS : va_S aN s.heap s.heap [] := va_S.rf
  have hl := lv_entry ([.ref m0, .int (nI cv)]) (n := 2) (Nat.le_of_ble_eq_true rfl)
  rw [lg_entry_eq]
  generalize (lg_sl ([.ref m0, .int (nI cv)]) ++ List.replicate (2 - (lg_sl ([.ref m0, .int (nI cv)])).length) Slot.unset).toArray = ls at hl ⊢
  have hl : lv_has ls 2 [(0, .ref m0), (1, .int (nI cv))] := hl
  generalize hQ : MQ below _ _ s _ _ _ = Q
  obtain ⟨H, hH⟩ : ∃ z, z = s.heap := ⟨_, rfl⟩
  have hP : va_P D vwCl [(m0, .inr (7, [.int (nI n), .ref g1, .ref g2, .ref g3, .int mr, .ref g4, .int (nI y), .ref g5, .int mo, .ref g6, .int ml, .ref g7, .ref g8, .ref g9, .ref g10, .ref g11, .ref g12])), (g4, .inl (cZ, 20480, .inl fs)), (g12, .inl (cI, 9, .inl th))] H := by rw [hH]; exact hP
  have hS : va_S aN s.heap H [] := by rw [hH]; exact hS
  refine m_heap hH ?_
  clear hH
  have h2n := m_pow hn
  have h2p := m_powp n
  have hs1 := setN_lt cv 1 n
  have hs2 := setN_lt cv 2 n
  refine lv_aload_n hx hb dX7_sureAt_0 rfl (lv_at hl 0 rfl) ?_
  refine lv_aload_n hx hb dX7_sureAt_1 rfl (lv_at hl 0 rfl) ?_
  refine lv_iload_n hx hb dX7_sureAt_2 rfl (lv_at hl 1 rfl) ?_
  refine lv_iconst (v := nI 1) hx hb dX7_sureAt_3 (by decide) ?_
  refine pu_i (va_runV (As := [.int (nI cv), .int (nI 1)]) (rest := [.ref m0]) ⟨hx, hb, hml, hown, hts⟩ (c_X7_setOf l D cI cJ cZ m0 g1 g2 g3 g4 g5 g6 g7 g8 g9 g10 g11 g12 n cv 1 mr (nI y) mo ml th (by first | assumption | omega) (by first | assumption | omega) (by first | assumption | omega) (by first | assumption | omega)) (cwV 2 hts gX7_sureAt_X7_setOf rfl rfl rfl (by decide +kernel) ⟨Nat.le_of_ble_eq_true rfl, Nat.le_of_ble_eq_true rfl⟩) ⟨pc_blind, va_recv hK hP (ci := 7) (q0 := 0) rfl rfl, fun U hU hW => ⟨rfl, by rw [hU]; exact hP.sub (ws' := [(m0, .inr (7, [.int (nI n), .ref g1, .ref g2, .ref g3, .int mr, .ref g4, .int (nI y), .ref g5, .int mo, .ref g6, .int ml, .ref g7, .ref g8, .ref g9, .ref g10, .ref g11, .ref g12])), (g12, .inl (cI, 9, .inl th))]) [0, 2] rfl, hKN.warm hW⟩⟩ rfl rfl hl.1 rfl (lv_room (Nat.le_of_ble_eq_true rfl)) dX7_sureAt_4 ⟨Nat.le_of_ble_eq_true rfl, Nat.le_of_ble_eq_true rfl⟩) hS hP (fun r1 H locs w1r hP hS => ?_)
  have w1 : r1 = nI (setN cv 1 n) := w1r
  clear w1r
  obtain rfl : r1 = nI (setN cv 1 n) := w1
  refine pu_i (va_runV (As := [.int (nI (setN cv 1 n))]) (rest := []) ⟨hx, hb, hml, hown, hts⟩ (c_X7_isGood l D cI cJ cZ m0 g1 g2 g3 g4 g5 g6 g7 g8 g9 g10 g11 g12 y (setN cv 1 n) (nI n) mr mo ml fs (by first | assumption | omega) (by first | assumption | omega) (by first | assumption | omega)) (cwV 1 hts gX7_sureAt_X7_isGood rfl rfl rfl (by decide +kernel) ⟨Nat.le_of_ble_eq_true rfl, Nat.le_of_ble_eq_true rfl⟩) ⟨pc_blind, va_recv hK hP (ci := 7) (q0 := 0) rfl rfl, fun U hU hW => ⟨rfl, by rw [hU]; exact hP.sub (ws' := [(m0, .inr (7, [.int (nI n), .ref g1, .ref g2, .ref g3, .int mr, .ref g4, .int (nI y), .ref g5, .int mo, .ref g6, .int ml, .ref g7, .ref g8, .ref g9, .ref g10, .ref g11, .ref g12])), (g4, .inl (cZ, 20480, .inl fs))]) [0, 1] rfl, hKN.warm hW⟩⟩ rfl rfl hl.1 rfl (lv_room (Nat.le_of_ble_eq_true rfl)) dX7_sureAt_7 ⟨Nat.le_of_ble_eq_true rfl, Nat.le_of_ble_eq_true rfl⟩) hS hP (fun r2 H locs w2r hP hS => ?_)
  have w2 : B01 r2 (Sg fs y (setN cv 1 n)) := w2r
  clear w2r
  rcases w2 with ⟨rfl, w2⟩ | ⟨rfl, w2⟩
  · skip
    refine lv_if_eq (tgt := 15) hx hb dX7_sureAt_10 (by decide) (fun c3 => ?_) (fun c3 => ?_)
    · exact absurd c3 (by first | decide | exact nz_lt (by omega) | exact fun h => h (nz_ge (by omega)))
    · skip
      refine lv_iconst (v := nI 1) hx hb dX7_sureAt_13 (by decide) ?_
      rw [← hQ]
      exact W.iret (v := nI 1) hx hb hr (fun tS htS hWS => ⟨⟨(nI 1), (), rfl, Or.inl ⟨rfl, by assumption⟩, trivial⟩, hS.F htS⟩) hS.2.2 dX7_sureAt_14
  · skip
    refine lv_if_eq (tgt := 15) hx hb dX7_sureAt_10 (by decide) (fun c4 => ?_) (fun c4 => ?_)
    · skip
      refine lv_aload_n hx hb dX7_sureAt_15 rfl (lv_at hl 0 rfl) ?_
      refine lv_aload_n hx hb dX7_sureAt_16 rfl (lv_at hl 0 rfl) ?_
      refine pu_i (va_runV (As := []) (rest := [.ref m0]) ⟨hx, hb, hml, hown, hts⟩ (c_X7_settings l D cI cJ cZ m0 g1 g2 g3 g4 g5 g6 g7 g8 g9 g10 g11 g12 n mr (nI y) mo ml (by first | assumption | omega)) (cwV 0 hts gX7_sureAt_X7_settings rfl rfl rfl (by decide +kernel) ⟨Nat.le_of_ble_eq_true rfl, Nat.le_of_ble_eq_true rfl⟩) ⟨pc_blind, va_recv hK hP (ci := 7) (q0 := 0) rfl rfl, fun U hU hW => ⟨rfl, by rw [hU]; exact hP.sub (ws' := [(m0, .inr (7, [.int (nI n), .ref g1, .ref g2, .ref g3, .int mr, .ref g4, .int (nI y), .ref g5, .int mo, .ref g6, .int ml, .ref g7, .ref g8, .ref g9, .ref g10, .ref g11, .ref g12]))]) [0] rfl, hKN.warm hW⟩⟩ rfl rfl hl.1 rfl (lv_room (Nat.le_of_ble_eq_true rfl)) dX7_sureAt_17 ⟨Nat.le_of_ble_eq_true rfl, Nat.le_of_ble_eq_true rfl⟩) hS hP (fun r5 H locs w5r hP hS => ?_)
      have w5 : r5 = nI (2 ^ n) := w5r
      clear w5r
      obtain rfl : r5 = nI (2 ^ n) := w5
      refine lv_iconst (v := nI 1) hx hb dX7_sureAt_20 (by decide) ?_
      refine lv_isub hx hb dX7_sureAt_21 ?_
      refine cn_i (y := nI ((2 ^ n) - 1)) (pk_sub (a := (2 ^ n)) (b := 1) (by omega)) ?_
      refine lv_aload_n hx hb dX7_sureAt_22 rfl (lv_at hl 0 rfl) ?_
      refine lv_iload_n hx hb dX7_sureAt_23 rfl (lv_at hl 1 rfl) ?_
      refine lv_iconst (v := nI 2) hx hb dX7_sureAt_24 (by decide) ?_
      refine pu_i (va_runV (As := [.int (nI cv), .int (nI 2)]) (rest := [.int (nI ((2 ^ n) - 1)), .ref m0]) ⟨hx, hb, hml, hown, hts⟩ (c_X7_setOf l D cI cJ cZ m0 g1 g2 g3 g4 g5 g6 g7 g8 g9 g10 g11 g12 n cv 2 mr (nI y) mo ml th (by first | assumption | omega) (by first | assumption | omega) (by first | assumption | omega) (by first | assumption | omega)) (cwV 2 hts gX7_sureAt_X7_setOf rfl rfl rfl (by decide +kernel) ⟨Nat.le_of_ble_eq_true rfl, Nat.le_of_ble_eq_true rfl⟩) ⟨pc_blind, va_recv hK hP (ci := 7) (q0 := 0) rfl rfl, fun U hU hW => ⟨rfl, by rw [hU]; exact hP.sub (ws' := [(m0, .inr (7, [.int (nI n), .ref g1, .ref g2, .ref g3, .int mr, .ref g4, .int (nI y), .ref g5, .int mo, .ref g6, .int ml, .ref g7, .ref g8, .ref g9, .ref g10, .ref g11, .ref g12])), (g12, .inl (cI, 9, .inl th))]) [0, 2] rfl, hKN.warm hW⟩⟩ rfl rfl hl.1 rfl (lv_room (Nat.le_of_ble_eq_true rfl)) dX7_sureAt_25 ⟨Nat.le_of_ble_eq_true rfl, Nat.le_of_ble_eq_true rfl⟩) hS hP (fun r6 H locs w6r hP hS => ?_)
      have w6 : r6 = nI (setN cv 2 n) := w6r
      clear w6r
      obtain rfl : r6 = nI (setN cv 2 n) := w6
      refine lv_isub hx hb dX7_sureAt_28 ?_
      refine cn_i (y := nI (((2 ^ n) - 1) - (setN cv 2 n))) (pk_sub (a := ((2 ^ n) - 1)) (b := (setN cv 2 n)) (by omega)) ?_
      refine pu_i (va_runV (As := [.int (nI (((2 ^ n) - 1) - (setN cv 2 n)))]) (rest := []) ⟨hx, hb, hml, hown, hts⟩ (c_X7_isGood l D cI cJ cZ m0 g1 g2 g3 g4 g5 g6 g7 g8 g9 g10 g11 g12 y (((2 ^ n) - 1) - (setN cv 2 n)) (nI n) mr mo ml fs (by first | assumption | omega) (by first | assumption | omega) (by first | assumption | omega)) (cwV 1 hts gX7_sureAt_X7_isGood rfl rfl rfl (by decide +kernel) ⟨Nat.le_of_ble_eq_true rfl, Nat.le_of_ble_eq_true rfl⟩) ⟨pc_blind, va_recv hK hP (ci := 7) (q0 := 0) rfl rfl, fun U hU hW => ⟨rfl, by rw [hU]; exact hP.sub (ws' := [(m0, .inr (7, [.int (nI n), .ref g1, .ref g2, .ref g3, .int mr, .ref g4, .int (nI y), .ref g5, .int mo, .ref g6, .int ml, .ref g7, .ref g8, .ref g9, .ref g10, .ref g11, .ref g12])), (g4, .inl (cZ, 20480, .inl fs))]) [0, 1] rfl, hKN.warm hW⟩⟩ rfl rfl hl.1 rfl (lv_room (Nat.le_of_ble_eq_true rfl)) dX7_sureAt_29 ⟨Nat.le_of_ble_eq_true rfl, Nat.le_of_ble_eq_true rfl⟩) hS hP (fun r7 H locs w7r hP hS => ?_)
      have w7 : B01 r7 (Sg fs y (((2 ^ n) - 1) - (setN cv 2 n))) := w7r
      clear w7r
      rcases w7 with ⟨rfl, w7⟩ | ⟨rfl, w7⟩
      · skip
        refine lv_if_eq (tgt := 39) hx hb dX7_sureAt_32 (by decide) (fun c8 => ?_) (fun c8 => ?_)
        · exact absurd c8 (by first | decide | exact nz_lt (by omega) | exact fun h => h (nz_ge (by omega)))
        · skip
          refine lv_iconst (v := (-1 : Int32)) hx hb dX7_sureAt_35 (by decide) ?_
          refine lv_goto (tgt := 40) hx hb dX7_sureAt_36 (by decide) ?_
          rw [← hQ]
          exact W.iret (v := (-1 : Int32)) hx hb hr (fun tS htS hWS => ⟨⟨(-1 : Int32), (), rfl, by first | exact Or.inr (Or.inl ⟨rfl, by assumption, by assumption⟩) | exact Or.inr (Or.inr ⟨rfl, by assumption, by assumption⟩), trivial⟩, hS.F htS⟩) hS.2.2 dX7_sureAt_40
      · skip
        refine lv_if_eq (tgt := 39) hx hb dX7_sureAt_32 (by decide) (fun c9 => ?_) (fun c9 => ?_)
        · skip
          refine lv_iconst (v := nI 0) hx hb dX7_sureAt_39 (by decide) ?_
          rw [← hQ]
          exact W.iret (v := nI 0) hx hb hr (fun tS htS hWS => ⟨⟨(nI 0), (), rfl, by first | exact Or.inr (Or.inl ⟨rfl, by assumption, by assumption⟩) | exact Or.inr (Or.inr ⟨rfl, by assumption, by assumption⟩), trivial⟩, hS.F htS⟩) hS.2.2 dX7_sureAt_40
        · exact absurd c9 (by first | decide | exact nz_lt (by omega) | exact fun h => h (nz_ge (by omega)))
    · exact absurd c4 (by first | decide | exact nz_lt (by omega) | exact fun h => h (nz_ge (by omega)))
def rm_c_X7_weight : Room := { frames := 0, cells := 0, slots := 0, locals := 0 }
set_option maxHeartbeats 400000 in
set_option maxRecDepth 100000 in
theorem c_X7_weight (l : Launch) (D : va_G) (cI cJ cZ : ClassId) (m0 : Nat) (g1 : Nat) (g2 : Nat) (g3 : Nat) (g4 : Nat) (g5 : Nat) (g6 : Nat) (g7 : Nat) (g8 : Nat) (g9 : Nat) (g10 : Nat) (g11 : Nat) (g12 : Nat) (n : Nat) (mr : Int32) (my : Int32) (mo : Int32) (ml : Int32) (st : Int32) (fg : Nat → Int32) (fb : Nat → Int32) (hn : n ≤ 9) : Met l yX7_weight wsX7_weight rm_c_X7_weight (pc_ D cI cJ cZ [.ref m0, .int st] [(m0, .inr (7, [.int (nI n), .ref g1, .ref g2, .ref g3, .int mr, .ref g4, .int my, .ref g5, .int mo, .ref g6, .int ml, .ref g7, .ref g8, .ref g9, .ref g10, .ref g11, .ref g12])), (g1, .inl (cI, 9, .inl fg)), (g2, .inl (cI, 9, .inl fb))]) (va_Ql (fun (r : Int64) (_ : Unit) => True) (fun _ _ => True) aN) 0 0 aN := by
  refine Met.ofW (cc := cX7_weight) (maxL := 5) (ret := (some .long)) (by decide) rfl ?_
  intro p e s m args below meth c s₁ B hml hv
  obtain ⟨rfl, hP, hKN⟩ := hv
  have hK := hKN.1
  have hx := B.exec
  have hb := B.bytes
  have hr := B.returns
  have hts := atoms_spec (ws := wsX7_weight) B.pre
  have hown : s.vm.findClass RX7 = some m.cls := findClass_of_methodNamed B.named
  have hlocks := B.notSynchronized
  have hiX7 : ∀ w ∈ wsX70, w ∈ wsX7_weight := by decide +kernel
  have hf7 := hts (.fieldLink RX7 7 "LookBenchModel" "parts" "I") (by decide +kernel)
  have hf13 := hts (.fieldLink RX7 13 "LookBenchModel" "good" "[I") (by decide +kernel)
  have hf17 := hts (.fieldLink RX7 17 "LookBenchModel" "bad" "[I") (by decide +kernel)
  have hS : va_S aN s.heap s.heap [] := va_S.rf
  have hl := lv_entry ([.ref m0, .int st]) (n := 5) (Nat.le_of_ble_eq_true rfl)
  rw [lg_entry_eq]
  generalize (lg_sl ([.ref m0, .int st]) ++ List.replicate (5 - (lg_sl ([.ref m0, .int st])).length) Slot.unset).toArray = ls at hl ⊢
  have hl : lv_has ls 5 [(0, .ref m0), (1, .int st)] := hl
  generalize hQ : MQ below _ _ s _ _ _ = Q
  obtain ⟨H, hH⟩ : ∃ z, z = s.heap := ⟨_, rfl⟩
  have hP : va_P D vwCl [(m0, .inr (7, [.int (nI n), .ref g1, .ref g2, .ref g3, .int mr, .ref g4, .int my, .ref g5, .int mo, .ref g6, .int ml, .ref g7, .ref g8, .ref g9, .ref g10, .ref g11, .ref g12])), (g1, .inl (cI, 9, .inl fg)), (g2, .inl (cI, 9, .inl fb))] H := by rw [hH]; exact hP
  have hS : va_S aN s.heap H [] := by rw [hH]; exact hS
  refine m_heap hH ?_
  clear hH
  refine lv_lconst (v := lN 1) hx hb dX7_weight_0 (by decide) ?_
  refine lv_lstore_n (lv' := [(2, .long (lN 1)), (0, .ref m0), (1, .int st)]) hx hb dX7_weight_1 rfl hl (by decide) rfl (fun ls hl => ?_)
  refine lv_iconst (v := nI 0) hx hb dX7_weight_2 (by decide) ?_
  refine lv_istore (lv' := [(4, .int (nI 0)), (2, .long (lN 1)), (0, .ref m0), (1, .int st)]) hx hb dX7_weight_3 hl (by decide) rfl (fun ls hl => ?_)
  have loop1 : ∀ (fu : Nat) (k : Nat) (v : Int64) (H : Heap) (locs : List Loc) (ls : Array Slot), (k ≤ n ∧ n < k + fu) → va_P D vwCl [(m0, .inr (7, [.int (nI n), .ref g1, .ref g2, .ref g3, .int mr, .ref g4, .int my, .ref g5, .int mo, .ref g6, .int ml, .ref g7, .ref g8, .ref g9, .ref g10, .ref g11, .ref g12])), (g1, .inl (cI, 9, .inl fg)), (g2, .inl (cI, 9, .inl fb))] H → va_S aN s.heap H locs → lv_has ls 5 [(4, .int (nI k)), (2, .long v), (0, .ref m0), (1, .int st)] → W p l e (headSpec wsX7_weight rm_c_X7_weight).room s m ([.ref m0, .int st] : List Value).toArray below meth c H locs 0 0 Q (F0 m 5 ls []) := by
    intro fu
    induction fu with
    | zero => intro k v H locs ls hk; exact absurd hk (by omega)
    | succ fu ih1 =>
      intro k v H locs ls hk hP hS hl
      have hs1 := sb_lt st k
      refine lv_iload hx hb dX7_weight_5 (lv_at hl 0 rfl) ?_
      refine lv_aload_n hx hb dX7_weight_7 rfl (lv_at hl 2 rfl) ?_
      refine va_get (D := D) (ci := 7) (v := .int (nI n)) (C := RX7) (T := TX7) (N := 17) hx hb hts hiX7 hown hK hP 0 rfl rfl 0 (by decide) hf7 (fun _ h9 => h9) rfl dX7_weight_8 ?_
      refine lv_icmp_ge (tgt := 52) hx hb dX7_weight_11 (by decide) (fun c2 => ?_) (fun c2 => ?_)
      · skip
        have d2 := c2
        rw [nI_leI (by omega) (by omega)] at d2
        refine lv_lload_n hx hb dX7_weight_52 rfl (lv_at hl 1 rfl) ?_
        rw [← hQ]
        exact W.lret (v := v) hx hb hr (fun tS htS hWS => ⟨⟨v, (), rfl, trivial, trivial⟩, hS.F htS⟩) hS.2.2 dX7_weight_53
      · skip
        have d2 := c2
        rw [nI_leI (by omega) (by omega)] at d2
        refine lv_lload_n hx hb dX7_weight_14 rfl (lv_at hl 1 rfl) ?_
        refine lv_iload_n hx hb dX7_weight_15 rfl (lv_at hl 3 rfl) ?_
        refine lv_iload hx hb dX7_weight_16 (lv_at hl 0 rfl) ?_
        refine lv_ishr hx hb dX7_weight_18 ?_
        refine lv_iconst (v := nI 1) hx hb dX7_weight_19 (by decide) ?_
        refine lv_iand hx hb dX7_weight_20 ?_
        refine cn_i (y := nI (sb st k)) (sb_ok st k) ?_
        refine lv_iconst (v := nI 1) hx hb dX7_weight_21 (by decide) ?_
        refine lv_icmp_ne (tgt := 36) hx hb dX7_weight_22 (by decide) (fun c3 => ?_) (fun c3 => ?_)
        · skip
          have d3 := c3
          rw [nI_eq (by omega) (by omega)] at d3
          refine lv_aload_n hx hb dX7_weight_36 rfl (lv_at hl 2 rfl) ?_
          refine va_get (D := D) (ci := 7) (v := .ref g2) (C := RX7) (T := TX7) (N := 17) hx hb hts hiX7 hown hK hP 0 rfl rfl 2 (by decide) hf17 (fun _ h9 => h9) rfl dX7_weight_37 ?_
          refine lv_iload hx hb dX7_weight_40 (lv_at hl 0 rfl) ?_
          refine va_iald hx hb hK hP 2 0 rfl rfl (i := nI k) (vp_in_nI (by omega) (by omega)) dX7_weight_42 ?_
          refine cn_i (y := fb k) (congrArg fb (nI_clamp (by omega))) ?_
          refine lv_i2l hx hb dX7_weight_43 rfl ?_
          refine lv_lmul hx hb dX7_weight_44 ?_
          refine lv_lstore_n (lv' := [(2, .long (v * ((fb k).toInt64))), (4, .int (nI k)), (0, .ref m0), (1, .int st)]) hx hb dX7_weight_45 rfl hl (by decide) rfl (fun ls hl => ?_)
          refine lv_iinc (v := nI (k + 1)) (lv' := [(4, .int (nI (k + 1))), (2, .long (v * ((fb k).toInt64))), (0, .ref m0), (1, .int st)]) hx hb dX7_weight_46 hl (k := 1) rfl (nI_1 k) (by decide) rfl (fun ls hl => ?_)
          refine lv_goto (tgt := 5) hx hb dX7_weight_49 (by decide) ?_
          exact ih1 (k + 1) (v * ((fb k).toInt64)) _ _ _ (by omega) hP hS (lv_sub hl [0, 1, 2, 3] rfl)
        · skip
          have d3 := c3
          rw [nI_eq (by omega) (by omega)] at d3
          refine lv_aload_n hx hb dX7_weight_25 rfl (lv_at hl 2 rfl) ?_
          refine va_get (D := D) (ci := 7) (v := .ref g1) (C := RX7) (T := TX7) (N := 17) hx hb hts hiX7 hown hK hP 0 rfl rfl 1 (by decide) hf13 (fun _ h9 => h9) rfl dX7_weight_26 ?_
          refine lv_iload hx hb dX7_weight_29 (lv_at hl 0 rfl) ?_
          refine va_iald hx hb hK hP 1 0 rfl rfl (i := nI k) (vp_in_nI (by omega) (by omega)) dX7_weight_31 ?_
          refine cn_i (y := fg k) (congrArg fg (nI_clamp (by omega))) ?_
          refine lv_i2l hx hb dX7_weight_32 rfl ?_
          refine lv_goto (tgt := 44) hx hb dX7_weight_33 (by decide) ?_
          refine lv_lmul hx hb dX7_weight_44 ?_
          refine lv_lstore_n (lv' := [(2, .long (v * ((fg k).toInt64))), (4, .int (nI k)), (0, .ref m0), (1, .int st)]) hx hb dX7_weight_45 rfl hl (by decide) rfl (fun ls hl => ?_)
          refine lv_iinc (v := nI (k + 1)) (lv' := [(4, .int (nI (k + 1))), (2, .long (v * ((fg k).toInt64))), (0, .ref m0), (1, .int st)]) hx hb dX7_weight_46 hl (k := 1) rfl (nI_1 k) (by decide) rfl (fun ls hl => ?_)
          refine lv_goto (tgt := 5) hx hb dX7_weight_49 (by decide) ?_
          exact ih1 (k + 1) (v * ((fg k).toInt64)) _ _ _ (by omega) hP hS (lv_sub hl [0, 1, 2, 3] rfl)
  exact loop1 (n + 1) 0 (lN 1) _ _ _ (by omega) hP hS (lv_sub hl [0, 1, 2, 3] rfl)
def rm_c_X7_isSuch : Room := { frames := 1, cells := 0, slots := 0, locals := 22 }
set_option maxHeartbeats 400000 in
set_option maxRecDepth 100000 in
theorem c_X7_isSuch (l : Launch) (D : va_G) (cI cJ cZ : ClassId) (m0 : Nat) (g1 : Nat) (g2 : Nat) (g3 : Nat) (g4 : Nat) (g5 : Nat) (g6 : Nat) (g7 : Nat) (g8 : Nat) (g9 : Nat) (g10 : Nat) (g11 : Nat) (g12 : Nat) (n : Nat) (cv : Nat) (mr : Int32) (my : Int32) (mo : Int32) (ml : Int32) (st : Int32) (th : Nat → Int32) (hn : n ≤ 9) (hcv : cv < 3 ^ n) (hth : ∀ z, z < 9 → th z = nI (3 ^ z)) : Met l yX7_isSuch wsX7_isSuch rm_c_X7_isSuch (pc_ D cI cJ cZ [.ref m0, .int st, .int (nI cv)] [(m0, .inr (7, [.int (nI n), .ref g1, .ref g2, .ref g3, .int mr, .ref g4, .int my, .ref g5, .int mo, .ref g6, .int ml, .ref g7, .ref g8, .ref g9, .ref g10, .ref g11, .ref g12])), (g12, .inl (cI, 9, .inl th))]) (va_Qi (fun (r : Int32) (_ : Unit) => r = nI 1 ∨ r = nI 0) (fun _ _ => True) aN) 0 0 aN := by
  refine Met.ofW (cc := cX7_isSuch) (maxL := 6) (ret := (some .boolean)) (by decide) rfl ?_
  intro p e s m args below meth c s₁ B hml hv
  obtain ⟨rfl, hP, hKN⟩ := hv
  have hK := hKN.1
  have hx := B.exec
  have hb := B.bytes
  have hr := B.returns
  have hts := atoms_spec (ws := wsX7_isSuch) B.pre
  have hown : s.vm.findClass RX7 = some m.cls := findClass_of_methodNamed B.named
  have hlocks := B.notSynchronized
  have hiX7 : ∀ w ∈ wsX70, w ∈ wsX7_isSuch := by decide +kernel
  have hf7 := hts (.fieldLink RX7 7 "LookBenchModel" "parts" "I") (by decide +kernel)
  have hS : va_S aN s.heap s.heap [] := va_S.rf
  have hl := lv_entry ([.ref m0, .int st, .int (nI cv)]) (n := 6) (Nat.le_of_ble_eq_true rfl)
  rw [lg_entry_eq]
  generalize (lg_sl ([.ref m0, .int st, .int (nI cv)]) ++ List.replicate (6 - (lg_sl ([.ref m0, .int st, .int (nI cv)])).length) Slot.unset).toArray = ls at hl ⊢
  have hl : lv_has ls 6 [(0, .ref m0), (1, .int st), (2, .int (nI cv))] := hl
  generalize hQ : MQ below _ _ s _ _ _ = Q
  obtain ⟨H, hH⟩ : ∃ z, z = s.heap := ⟨_, rfl⟩
  have hP : va_P D vwCl [(m0, .inr (7, [.int (nI n), .ref g1, .ref g2, .ref g3, .int mr, .ref g4, .int my, .ref g5, .int mo, .ref g6, .int ml, .ref g7, .ref g8, .ref g9, .ref g10, .ref g11, .ref g12])), (g12, .inl (cI, 9, .inl th))] H := by rw [hH]; exact hP
  have hS : va_S aN s.heap H [] := by rw [hH]; exact hS
  refine m_heap hH ?_
  clear hH
  have h3n := m_p3 hn
  refine lv_iconst (v := nI 1) hx hb dX7_isSuch_0 (by decide) ?_
  refine lv_istore_n (lv' := [(3, .int (nI 1)), (0, .ref m0), (1, .int st), (2, .int (nI cv))]) hx hb dX7_isSuch_1 rfl hl (by decide) rfl (fun ls hl => ?_)
  refine lv_iconst (v := nI 0) hx hb dX7_isSuch_2 (by decide) ?_
  refine lv_istore (lv' := [(4, .int (nI 0)), (3, .int (nI 1)), (0, .ref m0), (1, .int st), (2, .int (nI cv))]) hx hb dX7_isSuch_3 hl (by decide) rfl (fun ls hl => ?_)
  have loop1 : ∀ (fu : Nat) (k : Nat) (v : Int32) (H : Heap) (locs : List Loc) (ls : Array Slot), (k ≤ n ∧ n < k + fu) → (v = nI 1 ∨ v = nI 0) → va_P D vwCl [(m0, .inr (7, [.int (nI n), .ref g1, .ref g2, .ref g3, .int mr, .ref g4, .int my, .ref g5, .int mo, .ref g6, .int ml, .ref g7, .ref g8, .ref g9, .ref g10, .ref g11, .ref g12])), (g12, .inl (cI, 9, .inl th))] H → va_S aN s.heap H locs → lv_has ls 6 [(4, .int (nI k)), (3, .int v), (0, .ref m0), (1, .int st), (2, .int (nI cv))] → W p l e (headSpec wsX7_isSuch rm_c_X7_isSuch).room s m ([.ref m0, .int st, .int (nI cv)] : List Value).toArray below meth c H locs 0 0 Q (F0 m 5 ls []) := by
    intro fu
    induction fu with
    | zero => intro k v H locs ls hk hv; exact absurd hk (by omega)
    | succ fu ih1 =>
      intro k v H locs ls hk hv hP hS hl
      have hs1 := sb_lt st k
      rcases hv with rfl | rfl
      · skip
        refine lv_iload hx hb dX7_isSuch_5 (lv_at hl 0 rfl) ?_
        refine lv_aload_n hx hb dX7_isSuch_7 rfl (lv_at hl 2 rfl) ?_
        refine va_get (D := D) (ci := 7) (v := .int (nI n)) (C := RX7) (T := TX7) (N := 17) hx hb hts hiX7 hown hK hP 0 rfl rfl 0 (by decide) hf7 (fun _ h9 => h9) rfl dX7_isSuch_8 ?_
        refine lv_icmp_ge (tgt := 73) hx hb dX7_isSuch_11 (by decide) (fun c2 => ?_) (fun c2 => ?_)
        · skip
          have d2 := c2
          rw [nI_leI (by omega) (by omega)] at d2
          refine lv_iload_n hx hb dX7_isSuch_73 rfl (lv_at hl 1 rfl) ?_
          rw [← hQ]
          exact W.zret (v := nI 1) hx hb hr (by first | decide | (rw [nar_b01])) (fun tS htS hWS => ⟨⟨(nI 1), (), rfl, by first | exact Or.inl rfl | exact Or.inr rfl, trivial⟩, hS.F htS⟩) hS.2.2 dX7_isSuch_74
        · skip
          have d2 := c2
          rw [nI_leI (by omega) (by omega)] at d2
          refine lv_aload_n hx hb dX7_isSuch_14 rfl (lv_at hl 2 rfl) ?_
          refine lv_iload_n hx hb dX7_isSuch_15 rfl (lv_at hl 4 rfl) ?_
          refine lv_iload hx hb dX7_isSuch_16 (lv_at hl 0 rfl) ?_
          refine pu_i (va_runV (As := [.int (nI cv), .int (nI k)]) (rest := []) ⟨hx, hb, hml, hown, hts⟩ (c_X7_digit_g l D cI cJ cZ m0 g1 g2 g3 g4 g5 g6 g7 g8 g9 g10 g11 g12 k cv (nI n) mr my mo ml th (by first | assumption | omega) (by first | assumption | omega) (by first | assumption | omega)) (cwV 2 hts gX7_isSuch_X7_digit rfl rfl rfl (by decide +kernel) ⟨Nat.le_of_ble_eq_true rfl, Nat.le_of_ble_eq_true rfl⟩) ⟨pc_blind, va_recv hK hP (ci := 7) (q0 := 0) rfl rfl, fun U hU hW => ⟨rfl, by rw [hU]; exact hP.sub (ws' := [(m0, .inr (7, [.int (nI n), .ref g1, .ref g2, .ref g3, .int mr, .ref g4, .int my, .ref g5, .int mo, .ref g6, .int ml, .ref g7, .ref g8, .ref g9, .ref g10, .ref g11, .ref g12])), (g12, .inl (cI, 9, .inl th))]) [0, 1] rfl, hKN.warm hW⟩⟩ rfl rfl hl.1 rfl (lv_room (Nat.le_of_ble_eq_true rfl)) dX7_isSuch_18 ⟨Nat.le_of_ble_eq_true rfl, Nat.le_of_ble_eq_true rfl⟩) hS hP (fun r3 H locs w3r hP hS => ?_)
          have w3 : r3 = nI (cv / 3 ^ k % 3) := w3r
          clear w3r
          obtain rfl : r3 = nI (cv / 3 ^ k % 3) := w3
          refine lv_istore (lv' := [(5, .int (nI (cv / 3 ^ k % 3))), (4, .int (nI k)), (3, .int (nI 1)), (0, .ref m0), (1, .int st), (2, .int (nI cv))]) hx hb dX7_isSuch_21 hl (by decide) rfl (fun ls hl => ?_)
          refine lv_iload_n hx hb dX7_isSuch_23 rfl (lv_at hl 2 rfl) ?_
          refine lv_if_eq (tgt := 65) hx hb dX7_isSuch_24 (by decide) (fun c4 => ?_) (fun c4 => ?_)
          · exact absurd c4 (by first | decide | exact nz_lt (by omega) | exact fun h => h (nz_ge (by omega)))
          · skip
            refine lv_iload hx hb dX7_isSuch_27 (lv_at hl 0 rfl) ?_
            refine lv_if_eq (tgt := 61) hx hb dX7_isSuch_29 (by decide) (fun c5 => ?_) (fun c5 => ?_)
            · skip
              have d5 := c5
              rw [nz_eq (by omega)] at d5
              refine lv_iconst (v := nI 1) hx hb dX7_isSuch_61 (by decide) ?_
              refine lv_goto (tgt := 66) hx hb dX7_isSuch_62 (by decide) ?_
              refine lv_istore_n (lv' := [(3, .int (nI 1)), (5, .int (nI (cv / 3 ^ k % 3))), (4, .int (nI k)), (0, .ref m0), (1, .int st), (2, .int (nI cv))]) hx hb dX7_isSuch_66 rfl hl (by decide) rfl (fun ls hl => ?_)
              refine lv_iinc (v := nI (k + 1)) (lv' := [(4, .int (nI (k + 1))), (3, .int (nI 1)), (5, .int (nI (cv / 3 ^ k % 3))), (0, .ref m0), (1, .int st), (2, .int (nI cv))]) hx hb dX7_isSuch_67 hl (k := 2) rfl (nI_1 k) (by decide) rfl (fun ls hl => ?_)
              refine lv_goto (tgt := 5) hx hb dX7_isSuch_70 (by decide) ?_
              exact ih1 (k + 1) (nI 1) _ _ _ (by omega) (by first | exact Or.inl rfl | exact Or.inr rfl) hP hS (lv_sub hl [0, 1, 3, 4, 5] rfl)
            · skip
              have d5 := c5
              rw [nz_eq (by omega)] at d5
              refine lv_iload hx hb dX7_isSuch_32 (lv_at hl 0 rfl) ?_
              refine lv_iconst (v := nI 1) hx hb dX7_isSuch_34 (by decide) ?_
              refine lv_icmp_ne (tgt := 42) hx hb dX7_isSuch_35 (by decide) (fun c6 => ?_) (fun c6 => ?_)
              · skip
                have d6 := c6
                rw [nI_eq (by omega) (by omega)] at d6
                refine lv_iconst (v := nI 0) hx hb dX7_isSuch_42 (by decide) ?_
                refine lv_iload_n hx hb dX7_isSuch_43 rfl (lv_at hl 4 rfl) ?_
                refine lv_iload hx hb dX7_isSuch_44 (lv_at hl 1 rfl) ?_
                refine lv_ishr hx hb dX7_isSuch_46 ?_
                refine lv_iconst (v := nI 1) hx hb dX7_isSuch_47 (by decide) ?_
                refine lv_iand hx hb dX7_isSuch_48 ?_
                refine cn_i (y := nI (sb st k)) (sb_ok st k) ?_
                refine lv_iconst (v := nI 1) hx hb dX7_isSuch_49 (by decide) ?_
                refine lv_icmp_ne (tgt := 57) hx hb dX7_isSuch_50 (by decide) (fun c7 => ?_) (fun c7 => ?_)
                · skip
                  have d7 := c7
                  rw [nI_eq (by omega) (by omega)] at d7
                  refine lv_iconst (v := nI 0) hx hb dX7_isSuch_57 (by decide) ?_
                  refine lv_icmp_ne (tgt := 65) hx hb dX7_isSuch_58 (by decide) (fun c8 => ?_) (fun c8 => ?_)
                  · exact absurd c8 (by first | decide | exact nz_lt (by omega) | exact fun h => h (nz_ge (by omega)))
                  · skip
                    refine lv_iconst (v := nI 1) hx hb dX7_isSuch_61 (by decide) ?_
                    refine lv_goto (tgt := 66) hx hb dX7_isSuch_62 (by decide) ?_
                    refine lv_istore_n (lv' := [(3, .int (nI 1)), (5, .int (nI (cv / 3 ^ k % 3))), (4, .int (nI k)), (0, .ref m0), (1, .int st), (2, .int (nI cv))]) hx hb dX7_isSuch_66 rfl hl (by decide) rfl (fun ls hl => ?_)
                    refine lv_iinc (v := nI (k + 1)) (lv' := [(4, .int (nI (k + 1))), (3, .int (nI 1)), (5, .int (nI (cv / 3 ^ k % 3))), (0, .ref m0), (1, .int st), (2, .int (nI cv))]) hx hb dX7_isSuch_67 hl (k := 2) rfl (nI_1 k) (by decide) rfl (fun ls hl => ?_)
                    refine lv_goto (tgt := 5) hx hb dX7_isSuch_70 (by decide) ?_
                    exact ih1 (k + 1) (nI 1) _ _ _ (by omega) (by first | exact Or.inl rfl | exact Or.inr rfl) hP hS (lv_sub hl [0, 1, 3, 4, 5] rfl)
                · skip
                  have d7 := c7
                  rw [nI_eq (by omega) (by omega)] at d7
                  refine lv_iconst (v := nI 1) hx hb dX7_isSuch_53 (by decide) ?_
                  refine lv_goto (tgt := 58) hx hb dX7_isSuch_54 (by decide) ?_
                  refine lv_icmp_ne (tgt := 65) hx hb dX7_isSuch_58 (by decide) (fun c9 => ?_) (fun c9 => ?_)
                  · skip
                    refine lv_iconst (v := nI 0) hx hb dX7_isSuch_65 (by decide) ?_
                    refine lv_istore_n (lv' := [(3, .int (nI 0)), (5, .int (nI (cv / 3 ^ k % 3))), (4, .int (nI k)), (0, .ref m0), (1, .int st), (2, .int (nI cv))]) hx hb dX7_isSuch_66 rfl hl (by decide) rfl (fun ls hl => ?_)
                    refine lv_iinc (v := nI (k + 1)) (lv' := [(4, .int (nI (k + 1))), (3, .int (nI 0)), (5, .int (nI (cv / 3 ^ k % 3))), (0, .ref m0), (1, .int st), (2, .int (nI cv))]) hx hb dX7_isSuch_67 hl (k := 2) rfl (nI_1 k) (by decide) rfl (fun ls hl => ?_)
                    refine lv_goto (tgt := 5) hx hb dX7_isSuch_70 (by decide) ?_
                    exact ih1 (k + 1) (nI 0) _ _ _ (by omega) (by first | exact Or.inl rfl | exact Or.inr rfl) hP hS (lv_sub hl [0, 1, 3, 4, 5] rfl)
                  · exact absurd c9 (by first | decide | exact nz_lt (by omega) | exact fun h => h (nz_ge (by omega)))
              · skip
                have d6 := c6
                rw [nI_eq (by omega) (by omega)] at d6
                refine lv_iconst (v := nI 1) hx hb dX7_isSuch_38 (by decide) ?_
                refine lv_goto (tgt := 43) hx hb dX7_isSuch_39 (by decide) ?_
                refine lv_iload_n hx hb dX7_isSuch_43 rfl (lv_at hl 4 rfl) ?_
                refine lv_iload hx hb dX7_isSuch_44 (lv_at hl 1 rfl) ?_
                refine lv_ishr hx hb dX7_isSuch_46 ?_
                refine lv_iconst (v := nI 1) hx hb dX7_isSuch_47 (by decide) ?_
                refine lv_iand hx hb dX7_isSuch_48 ?_
                refine cn_i (y := nI (sb st k)) (sb_ok st k) ?_
                refine lv_iconst (v := nI 1) hx hb dX7_isSuch_49 (by decide) ?_
                refine lv_icmp_ne (tgt := 57) hx hb dX7_isSuch_50 (by decide) (fun c10 => ?_) (fun c10 => ?_)
                · skip
                  have d10 := c10
                  rw [nI_eq (by omega) (by omega)] at d10
                  refine lv_iconst (v := nI 0) hx hb dX7_isSuch_57 (by decide) ?_
                  refine lv_icmp_ne (tgt := 65) hx hb dX7_isSuch_58 (by decide) (fun c11 => ?_) (fun c11 => ?_)
                  · skip
                    refine lv_iconst (v := nI 0) hx hb dX7_isSuch_65 (by decide) ?_
                    refine lv_istore_n (lv' := [(3, .int (nI 0)), (5, .int (nI (cv / 3 ^ k % 3))), (4, .int (nI k)), (0, .ref m0), (1, .int st), (2, .int (nI cv))]) hx hb dX7_isSuch_66 rfl hl (by decide) rfl (fun ls hl => ?_)
                    refine lv_iinc (v := nI (k + 1)) (lv' := [(4, .int (nI (k + 1))), (3, .int (nI 0)), (5, .int (nI (cv / 3 ^ k % 3))), (0, .ref m0), (1, .int st), (2, .int (nI cv))]) hx hb dX7_isSuch_67 hl (k := 2) rfl (nI_1 k) (by decide) rfl (fun ls hl => ?_)
                    refine lv_goto (tgt := 5) hx hb dX7_isSuch_70 (by decide) ?_
                    exact ih1 (k + 1) (nI 0) _ _ _ (by omega) (by first | exact Or.inl rfl | exact Or.inr rfl) hP hS (lv_sub hl [0, 1, 3, 4, 5] rfl)
                  · exact absurd c11 (by first | decide | exact nz_lt (by omega) | exact fun h => h (nz_ge (by omega)))
                · skip
                  have d10 := c10
                  rw [nI_eq (by omega) (by omega)] at d10
                  refine lv_iconst (v := nI 1) hx hb dX7_isSuch_53 (by decide) ?_
                  refine lv_goto (tgt := 58) hx hb dX7_isSuch_54 (by decide) ?_
                  refine lv_icmp_ne (tgt := 65) hx hb dX7_isSuch_58 (by decide) (fun c12 => ?_) (fun c12 => ?_)
                  · exact absurd c12 (by first | decide | exact nz_lt (by omega) | exact fun h => h (nz_ge (by omega)))
                  · skip
                    refine lv_iconst (v := nI 1) hx hb dX7_isSuch_61 (by decide) ?_
                    refine lv_goto (tgt := 66) hx hb dX7_isSuch_62 (by decide) ?_
                    refine lv_istore_n (lv' := [(3, .int (nI 1)), (5, .int (nI (cv / 3 ^ k % 3))), (4, .int (nI k)), (0, .ref m0), (1, .int st), (2, .int (nI cv))]) hx hb dX7_isSuch_66 rfl hl (by decide) rfl (fun ls hl => ?_)
                    refine lv_iinc (v := nI (k + 1)) (lv' := [(4, .int (nI (k + 1))), (3, .int (nI 1)), (5, .int (nI (cv / 3 ^ k % 3))), (0, .ref m0), (1, .int st), (2, .int (nI cv))]) hx hb dX7_isSuch_67 hl (k := 2) rfl (nI_1 k) (by decide) rfl (fun ls hl => ?_)
                    refine lv_goto (tgt := 5) hx hb dX7_isSuch_70 (by decide) ?_
                    exact ih1 (k + 1) (nI 1) _ _ _ (by omega) (by first | exact Or.inl rfl | exact Or.inr rfl) hP hS (lv_sub hl [0, 1, 3, 4, 5] rfl)
      · skip
        refine lv_iload hx hb dX7_isSuch_5 (lv_at hl 0 rfl) ?_
        refine lv_aload_n hx hb dX7_isSuch_7 rfl (lv_at hl 2 rfl) ?_
        refine va_get (D := D) (ci := 7) (v := .int (nI n)) (C := RX7) (T := TX7) (N := 17) hx hb hts hiX7 hown hK hP 0 rfl rfl 0 (by decide) hf7 (fun _ h9 => h9) rfl dX7_isSuch_8 ?_
        refine lv_icmp_ge (tgt := 73) hx hb dX7_isSuch_11 (by decide) (fun c13 => ?_) (fun c13 => ?_)
        · skip
          have d13 := c13
          rw [nI_leI (by omega) (by omega)] at d13
          refine lv_iload_n hx hb dX7_isSuch_73 rfl (lv_at hl 1 rfl) ?_
          rw [← hQ]
          exact W.zret (v := nI 0) hx hb hr (by first | decide | (rw [nar_b01])) (fun tS htS hWS => ⟨⟨(nI 0), (), rfl, by first | exact Or.inl rfl | exact Or.inr rfl, trivial⟩, hS.F htS⟩) hS.2.2 dX7_isSuch_74
        · skip
          have d13 := c13
          rw [nI_leI (by omega) (by omega)] at d13
          refine lv_aload_n hx hb dX7_isSuch_14 rfl (lv_at hl 2 rfl) ?_
          refine lv_iload_n hx hb dX7_isSuch_15 rfl (lv_at hl 4 rfl) ?_
          refine lv_iload hx hb dX7_isSuch_16 (lv_at hl 0 rfl) ?_
          refine pu_i (va_runV (As := [.int (nI cv), .int (nI k)]) (rest := []) ⟨hx, hb, hml, hown, hts⟩ (c_X7_digit_g l D cI cJ cZ m0 g1 g2 g3 g4 g5 g6 g7 g8 g9 g10 g11 g12 k cv (nI n) mr my mo ml th (by first | assumption | omega) (by first | assumption | omega) (by first | assumption | omega)) (cwV 2 hts gX7_isSuch_X7_digit rfl rfl rfl (by decide +kernel) ⟨Nat.le_of_ble_eq_true rfl, Nat.le_of_ble_eq_true rfl⟩) ⟨pc_blind, va_recv hK hP (ci := 7) (q0 := 0) rfl rfl, fun U hU hW => ⟨rfl, by rw [hU]; exact hP.sub (ws' := [(m0, .inr (7, [.int (nI n), .ref g1, .ref g2, .ref g3, .int mr, .ref g4, .int my, .ref g5, .int mo, .ref g6, .int ml, .ref g7, .ref g8, .ref g9, .ref g10, .ref g11, .ref g12])), (g12, .inl (cI, 9, .inl th))]) [0, 1] rfl, hKN.warm hW⟩⟩ rfl rfl hl.1 rfl (lv_room (Nat.le_of_ble_eq_true rfl)) dX7_isSuch_18 ⟨Nat.le_of_ble_eq_true rfl, Nat.le_of_ble_eq_true rfl⟩) hS hP (fun r14 H locs w14r hP hS => ?_)
          have w14 : r14 = nI (cv / 3 ^ k % 3) := w14r
          clear w14r
          obtain rfl : r14 = nI (cv / 3 ^ k % 3) := w14
          refine lv_istore (lv' := [(5, .int (nI (cv / 3 ^ k % 3))), (4, .int (nI k)), (3, .int (nI 0)), (0, .ref m0), (1, .int st), (2, .int (nI cv))]) hx hb dX7_isSuch_21 hl (by decide) rfl (fun ls hl => ?_)
          refine lv_iload_n hx hb dX7_isSuch_23 rfl (lv_at hl 2 rfl) ?_
          refine lv_if_eq (tgt := 65) hx hb dX7_isSuch_24 (by decide) (fun c15 => ?_) (fun c15 => ?_)
          · skip
            refine lv_iconst (v := nI 0) hx hb dX7_isSuch_65 (by decide) ?_
            refine lv_istore_n (lv' := [(3, .int (nI 0)), (5, .int (nI (cv / 3 ^ k % 3))), (4, .int (nI k)), (0, .ref m0), (1, .int st), (2, .int (nI cv))]) hx hb dX7_isSuch_66 rfl hl (by decide) rfl (fun ls hl => ?_)
            refine lv_iinc (v := nI (k + 1)) (lv' := [(4, .int (nI (k + 1))), (3, .int (nI 0)), (5, .int (nI (cv / 3 ^ k % 3))), (0, .ref m0), (1, .int st), (2, .int (nI cv))]) hx hb dX7_isSuch_67 hl (k := 2) rfl (nI_1 k) (by decide) rfl (fun ls hl => ?_)
            refine lv_goto (tgt := 5) hx hb dX7_isSuch_70 (by decide) ?_
            exact ih1 (k + 1) (nI 0) _ _ _ (by omega) (by first | exact Or.inl rfl | exact Or.inr rfl) hP hS (lv_sub hl [0, 1, 3, 4, 5] rfl)
          · exact absurd c15 (by first | decide | exact nz_lt (by omega) | exact fun h => h (nz_ge (by omega)))
  exact loop1 (n + 1) 0 (nI 1) _ _ _ (by omega) (Or.inl rfl) hP hS (lv_sub hl [0, 1, 2, 3, 4] rfl)
def rm_c_X7_seenIn : Room := { frames := 1, cells := 0, slots := 0, locals := 22 }
set_option maxHeartbeats 400000 in
set_option maxRecDepth 100000 in
theorem c_X7_seenIn (l : Launch) (D : va_G) (cI cJ cZ : ClassId) (m0 : Nat) (g1 : Nat) (g2 : Nat) (g3 : Nat) (g4 : Nat) (g5 : Nat) (g6 : Nat) (g7 : Nat) (g8 : Nat) (g9 : Nat) (g10 : Nat) (g11 : Nat) (g12 : Nat) (n : Nat) (cv : Nat) (mr : Int32) (my : Int32) (mo : Int32) (ml : Int32) (th : Nat → Int32) (hn : n ≤ 9) (hcv : cv < 3 ^ n) (hth : ∀ z, z < 9 → th z = nI (3 ^ z)) : Met l yX7_seenIn wsX7_seenIn rm_c_X7_seenIn (pc_ D cI cJ cZ [.ref m0, .int (nI cv)] [(m0, .inr (7, [.int (nI n), .ref g1, .ref g2, .ref g3, .int mr, .ref g4, .int my, .ref g5, .int mo, .ref g6, .int ml, .ref g7, .ref g8, .ref g9, .ref g10, .ref g11, .ref g12])), (g12, .inl (cI, 9, .inl th))]) (va_Qi (fun (r : Int32) (_ : Unit) => ∃ x, x ≤ n ∧ r = nI x) (fun _ _ => True) aN) 0 0 aN := by
  refine Met.ofW (cc := cX7_seenIn) (maxL := 4) (ret := (some .int)) (by decide) rfl ?_
  intro p e s m args below meth c s₁ B hml hv
  obtain ⟨rfl, hP, hKN⟩ := hv
  have hK := hKN.1
  have hx := B.exec
  have hb := B.bytes
  have hr := B.returns
  have hts := atoms_spec (ws := wsX7_seenIn) B.pre
  have hown : s.vm.findClass RX7 = some m.cls := findClass_of_methodNamed B.named
  have hlocks := B.notSynchronized
  have hiX7 : ∀ w ∈ wsX70, w ∈ wsX7_seenIn := by decide +kernel
  have hf7 := hts (.fieldLink RX7 7 "LookBenchModel" "parts" "I") (by decide +kernel)
  have hS : va_S aN s.heap s.heap [] := va_S.rf
  have hl := lv_entry ([.ref m0, .int (nI cv)]) (n := 4) (Nat.le_of_ble_eq_true rfl)
  rw [lg_entry_eq]
  generalize (lg_sl ([.ref m0, .int (nI cv)]) ++ List.replicate (4 - (lg_sl ([.ref m0, .int (nI cv)])).length) Slot.unset).toArray = ls at hl ⊢
  have hl : lv_has ls 4 [(0, .ref m0), (1, .int (nI cv))] := hl
  generalize hQ : MQ below _ _ s _ _ _ = Q
  obtain ⟨H, hH⟩ : ∃ z, z = s.heap := ⟨_, rfl⟩
  have hP : va_P D vwCl [(m0, .inr (7, [.int (nI n), .ref g1, .ref g2, .ref g3, .int mr, .ref g4, .int my, .ref g5, .int mo, .ref g6, .int ml, .ref g7, .ref g8, .ref g9, .ref g10, .ref g11, .ref g12])), (g12, .inl (cI, 9, .inl th))] H := by rw [hH]; exact hP
  have hS : va_S aN s.heap H [] := by rw [hH]; exact hS
  refine m_heap hH ?_
  clear hH
  have h3n := m_p3 hn
  refine lv_iconst (v := nI 0) hx hb dX7_seenIn_0 (by decide) ?_
  refine lv_istore_n (lv' := [(2, .int (nI 0)), (0, .ref m0), (1, .int (nI cv))]) hx hb dX7_seenIn_1 rfl hl (by decide) rfl (fun ls hl => ?_)
  refine lv_iconst (v := nI 0) hx hb dX7_seenIn_2 (by decide) ?_
  refine lv_istore_n (lv' := [(3, .int (nI 0)), (2, .int (nI 0)), (0, .ref m0), (1, .int (nI cv))]) hx hb dX7_seenIn_3 rfl hl (by decide) rfl (fun ls hl => ?_)
  have loop1 : ∀ (fu : Nat) (k : Nat) (v : Nat) (H : Heap) (locs : List Loc) (ls : Array Slot), (k ≤ n ∧ n < k + fu) → (v ≤ k) → va_P D vwCl [(m0, .inr (7, [.int (nI n), .ref g1, .ref g2, .ref g3, .int mr, .ref g4, .int my, .ref g5, .int mo, .ref g6, .int ml, .ref g7, .ref g8, .ref g9, .ref g10, .ref g11, .ref g12])), (g12, .inl (cI, 9, .inl th))] H → va_S aN s.heap H locs → lv_has ls 4 [(3, .int (nI k)), (2, .int (nI v)), (0, .ref m0), (1, .int (nI cv))] → W p l e (headSpec wsX7_seenIn rm_c_X7_seenIn).room s m ([.ref m0, .int (nI cv)] : List Value).toArray below meth c H locs 0 0 Q (F0 m 4 ls []) := by
    intro fu
    induction fu with
    | zero => intro k v H locs ls hk hv; exact absurd hk (by omega)
    | succ fu ih1 =>
      intro k v H locs ls hk hv hP hS hl
      refine lv_iload_n hx hb dX7_seenIn_4 rfl (lv_at hl 0 rfl) ?_
      refine lv_aload_n hx hb dX7_seenIn_5 rfl (lv_at hl 2 rfl) ?_
      refine va_get (D := D) (ci := 7) (v := .int (nI n)) (C := RX7) (T := TX7) (N := 17) hx hb hts hiX7 hown hK hP 0 rfl rfl 0 (by decide) hf7 (fun _ h9 => h9) rfl dX7_seenIn_6 ?_
      refine lv_icmp_ge (tgt := 35) hx hb dX7_seenIn_9 (by decide) (fun c2 => ?_) (fun c2 => ?_)
      · skip
        have d2 := c2
        rw [nI_leI (by omega) (by omega)] at d2
        refine lv_iload_n hx hb dX7_seenIn_35 rfl (lv_at hl 1 rfl) ?_
        rw [← hQ]
        exact W.iret (v := nI v) hx hb hr (fun tS htS hWS => ⟨⟨(nI v), (), rfl, ⟨v, by omega, rfl⟩, trivial⟩, hS.F htS⟩) hS.2.2 dX7_seenIn_36
      · skip
        have d2 := c2
        rw [nI_leI (by omega) (by omega)] at d2
        refine lv_iload_n hx hb dX7_seenIn_12 rfl (lv_at hl 1 rfl) ?_
        refine lv_aload_n hx hb dX7_seenIn_13 rfl (lv_at hl 2 rfl) ?_
        refine lv_iload_n hx hb dX7_seenIn_14 rfl (lv_at hl 3 rfl) ?_
        refine lv_iload_n hx hb dX7_seenIn_15 rfl (lv_at hl 0 rfl) ?_
        refine pu_i (va_runV (As := [.int (nI cv), .int (nI k)]) (rest := [.int (nI v)]) ⟨hx, hb, hml, hown, hts⟩ (c_X7_digit_g l D cI cJ cZ m0 g1 g2 g3 g4 g5 g6 g7 g8 g9 g10 g11 g12 k cv (nI n) mr my mo ml th (by first | assumption | omega) (by first | assumption | omega) (by first | assumption | omega)) (cwV 2 hts gX7_seenIn_X7_digit rfl rfl rfl (by decide +kernel) ⟨Nat.le_of_ble_eq_true rfl, Nat.le_of_ble_eq_true rfl⟩) ⟨pc_blind, va_recv hK hP (ci := 7) (q0 := 0) rfl rfl, fun U hU hW => ⟨rfl, by rw [hU]; exact hP.sub (ws' := [(m0, .inr (7, [.int (nI n), .ref g1, .ref g2, .ref g3, .int mr, .ref g4, .int my, .ref g5, .int mo, .ref g6, .int ml, .ref g7, .ref g8, .ref g9, .ref g10, .ref g11, .ref g12])), (g12, .inl (cI, 9, .inl th))]) [0, 1] rfl, hKN.warm hW⟩⟩ rfl rfl hl.1 rfl (lv_room (Nat.le_of_ble_eq_true rfl)) dX7_seenIn_16 ⟨Nat.le_of_ble_eq_true rfl, Nat.le_of_ble_eq_true rfl⟩) hS hP (fun r3 H locs w3r hP hS => ?_)
        have w3 : r3 = nI (cv / 3 ^ k % 3) := w3r
        clear w3r
        obtain rfl : r3 = nI (cv / 3 ^ k % 3) := w3
        refine lv_if_ne (tgt := 26) hx hb dX7_seenIn_19 (by decide) (fun c4 => ?_) (fun c4 => ?_)
        · skip
          have d4 := c4
          rw [nz_eq (by omega)] at d4
          refine lv_iconst (v := nI 1) hx hb dX7_seenIn_26 (by decide) ?_
          refine lv_iadd hx hb dX7_seenIn_27 ?_
          refine cn_i (y := nI (v + 1)) (nI_add v 1) ?_
          refine lv_istore_n (lv' := [(2, .int (nI (v + 1))), (3, .int (nI k)), (0, .ref m0), (1, .int (nI cv))]) hx hb dX7_seenIn_28 rfl hl (by decide) rfl (fun ls hl => ?_)
          refine lv_iinc (v := nI (k + 1)) (lv' := [(3, .int (nI (k + 1))), (2, .int (nI (v + 1))), (0, .ref m0), (1, .int (nI cv))]) hx hb dX7_seenIn_29 hl (k := 1) rfl (nI_1 k) (by decide) rfl (fun ls hl => ?_)
          refine lv_goto (tgt := 4) hx hb dX7_seenIn_32 (by decide) ?_
          exact ih1 (k + 1) (v + 1) _ _ _ (by omega) (by omega) hP hS (lv_sub hl [0, 1, 2, 3] rfl)
        · skip
          have d4 := c4
          rw [nz_eq (by omega)] at d4
          refine lv_iconst (v := nI 0) hx hb dX7_seenIn_22 (by decide) ?_
          refine lv_goto (tgt := 27) hx hb dX7_seenIn_23 (by decide) ?_
          refine lv_iadd hx hb dX7_seenIn_27 ?_
          refine cn_i (y := nI (v + 0)) (nI_add v 0) ?_
          refine lv_istore_n (lv' := [(2, .int (nI (v + 0))), (3, .int (nI k)), (0, .ref m0), (1, .int (nI cv))]) hx hb dX7_seenIn_28 rfl hl (by decide) rfl (fun ls hl => ?_)
          refine lv_iinc (v := nI (k + 1)) (lv' := [(3, .int (nI (k + 1))), (2, .int (nI (v + 0))), (0, .ref m0), (1, .int (nI cv))]) hx hb dX7_seenIn_29 hl (k := 1) rfl (nI_1 k) (by decide) rfl (fun ls hl => ?_)
          refine lv_goto (tgt := 4) hx hb dX7_seenIn_32 (by decide) ?_
          exact ih1 (k + 1) (v + 0) _ _ _ (by omega) (by omega) hP hS (lv_sub hl [0, 1, 2, 3] rfl)
  exact loop1 (n + 1) 0 0 _ _ _ (by omega) (by omega) hP hS (lv_sub hl [0, 1, 2, 3] rfl)
