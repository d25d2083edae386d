/-! numbers under and, or, xor -/
theorem mb_and (a b : Nat) : nI a &&& nI b = nI (a &&& b) := by
  apply Int32.toBitVec_inj.1
  show BitVec.ofNat 32 a &&& BitVec.ofNat 32 b = BitVec.ofNat 32 (a &&& b)
  apply BitVec.eq_of_getLsbD_eq
  intro i hi
  simp [hi]
theorem mb_or (a b : Nat) : nI a ||| nI b = nI (a ||| b) := by
  apply Int32.toBitVec_inj.1
  show BitVec.ofNat 32 a ||| BitVec.ofNat 32 b = BitVec.ofNat 32 (a ||| b)
  apply BitVec.eq_of_getLsbD_eq
  intro i hi
  simp [hi]
theorem mb_xor (a b : Nat) : nI a ^^^ nI b = nI (a ^^^ b) := by
  apply Int32.toBitVec_inj.1
  show BitVec.ofNat 32 a ^^^ BitVec.ofNat 32 b = BitVec.ofNat 32 (a ^^^ b)
  apply BitVec.eq_of_getLsbD_eq
  intro i hi
  simp [hi]
theorem mb_m1 : (-1 : Int32) = nI (2 ^ 32 - 1) := by decide
theorem mb_hi {a n i : Nat} (h : a < 2 ^ n) (hi : n ≤ i) : a.testBit i = false := Nat.testBit_lt_two_pow (Nat.lt_of_lt_of_le h (Nat.pow_le_pow_right (by decide) hi))
/-- what is not in a, of the first n -/
theorem mb_not {a n : Nat} (h : a < 2 ^ n) (hn : n ≤ 9) : nI (2 ^ n - 1) &&& (nI a ^^^ (-1 : Int32)) = nI ((2 ^ n - 1) ^^^ a) := by
  rw [mb_m1, mb_xor, mb_and]
  congr 1
  apply Nat.eq_of_testBit_eq
  intro i
  rw [Nat.testBit_and, Nat.testBit_xor, Nat.testBit_xor, Nat.testBit_two_pow_sub_one, Nat.testBit_two_pow_sub_one]
  by_cases hi : i < n
  · have h2 : i < 32 := by omega
    simp [hi, h2]
  · have h2 := mb_hi h (Nat.le_of_not_lt hi)
    simp [hi, h2]
theorem mb_clr {a j : Nat} (h : a < 512) (hj : j < 9) : nI a &&& (nI (2 ^ j) ^^^ (-1 : Int32)) = nI (a &&& ((2 ^ 9 - 1) ^^^ 2 ^ j)) := by
  rw [mb_m1, mb_xor, mb_and]
  congr 1
  apply Nat.eq_of_testBit_eq
  intro i
  rw [Nat.testBit_and, Nat.testBit_and, Nat.testBit_xor, Nat.testBit_xor, Nat.testBit_two_pow_sub_one, Nat.testBit_two_pow_sub_one]
  by_cases hi : i < 9
  · have h2 : i < 32 := by omega
    simp [hi, h2]
  · have h2 := mb_hi (n := 9) h (Nat.le_of_not_lt hi)
    simp [h2]
theorem m_or9 {a b n : Nat} (ha : a < 2 ^ n) (hb : b < 2 ^ n) : a ||| b < 2 ^ n := Nat.or_lt_two_pow ha hb
theorem m_x9 {a b n : Nat} (ha : a < 2 ^ n) (hb : b < 2 ^ n) : a ^^^ b < 2 ^ n := Nat.xor_lt_two_pow ha hb
theorem m_x512 {a b : Nat} (ha : a < 512) (hb : b < 512) : a ^^^ b < 512 := Nat.xor_lt_two_pow (n := 9) ha hb
theorem m_o512 {a b : Nat} (ha : a < 512) (hb : b < 512) : a ||| b < 512 := Nat.or_lt_two_pow (n := 9) ha hb
theorem m_p512 {j : Nat} (h : j < 9) : 2 ^ j < 512 := by
  have : 2 ^ j ≤ 2 ^ 8 := Nat.pow_le_pow_right (by decide) (by omega)
  omega
theorem mb_sb {a j : Nat} (ha : a < 2 ^ 31) (hj : j < 32) : sb (nI a) j = a / 2 ^ j % 2 := by
  unfold sb
  rw [m_shr ha hj, m_and1]
  have h := Nat.div_le_self a (2 ^ j)
  rw [pk_andN (m := nI 1) (n := a / 2 ^ j) (by omega) 1 (by decide), pk_tn (by omega), pk_tn (by omega)]

/-- what the rules say when gd are good and un are unknown -/
def VD (r : Int32) (fw : Nat → Int64) (y gd un : Nat) : Prop := (r = nI 1 ∧ isG fw y gd) ∨ (r = -1 ∧ ¬ isG fw y gd ∧ isG fw y (gd ||| un)) ∨ (r = nI 0 ∧ ¬ isG fw y gd ∧ ¬ isG fw y (gd ||| un))
def stl (fw : Nat → Int64) (y n : Nat) (gb : Int32) (t : Nat) : Prop := (gb = 0 → ¬ isG fw y ((2 ^ n - 1) ^^^ t)) ∧ (¬ gb = 0 → isG fw y t)
def lst (fw : Nat → Int64) (y n : Nat) (gb : Int32) (t : Nat) : Prop := stl fw y n gb t ∧ ∀ z, z < n → t / 2 ^ z % 2 = 1 → ¬ stl fw y n gb (t ^^^ 2 ^ z)
def rm_c_X3_isSystemGood : Room := { frames := 1, cells := 0, slots := 0, locals := 22 }
set_option maxHeartbeats 400000 in
set_option maxRecDepth 100000 in
theorem c_X3_isSystemGood (l : Launch) (D : va_G) (cI cJ cZ : ClassId) (h0 : Nat) (b1 : Nat) (b2 : Nat) (y : Nat) (t : Nat) (pt : Int32) (rc : Int32) (fw : Nat → Int64) (hy : y < 40) (ht : t < 512) : Met l yX3_isSystemGood wsX3_isSystemGood rm_c_X3_isSystemGood (pc_ D cI cJ cZ [.ref h0, .int (nI t)] [(h0, .inr (3, [.ref b1, .ref b2, .int pt, .int rc, .int (nI y)])), (b1, .inl (cJ, 320, .inr (.inl fw)))]) (va_Qi (fun (r : Int32) (_ : Unit) => B01 r (isG fw y t)) (fun _ _ => True) aN) 0 0 aN := by
  refine Met.ofW (cc := cX3_isSystemGood) (maxL := 2) (ret := (some .boolean)) (by decide) rfl ?_
  intro p e s m args below meth c s₁ B hml hv
  obtain ⟨rfl, hP, hKN⟩ := hv
  have hK := hKN.1
  have hx := B.exec
  have hb := B.bytes
  have hr := B.returns
  have hts := atoms_spec (ws := wsX3_isSystemGood) B.pre
  have hown : s.vm.findClass RX3 = some m.cls := findClass_of_methodNamed B.named
  have hlocks := B.notSynchronized
  have hiX3 : ∀ w ∈ wsX30, w ∈ wsX3_isSystemGood := by decide +kernel
  have hf30 := hts (.fieldLink RX3 30 "LookBench$Rules" "system" "I") (by decide +kernel)
  have hS : va_S aN s.heap s.heap [] := va_S.rf
  have hl := lv_entry ([.ref h0, .int (nI t)]) (n := 2) (Nat.le_of_ble_eq_true rfl)
  rw [lg_entry_eq]
  generalize (lg_sl ([.ref h0, .int (nI t)]) ++ List.replicate (2 - (lg_sl ([.ref h0, .int (nI t)])).length) Slot.unset).toArray = ls at hl ⊢
  have hl : lv_has ls 2 [(0, .ref h0), (1, .int (nI t))] := hl
  generalize hQ : MQ below _ _ s _ _ _ = Q
  obtain ⟨H, hH⟩ : ∃ z, z = s.heap := ⟨_, rfl⟩
  have hP : va_P D vwCl [(h0, .inr (3, [.ref b1, .ref b2, .int pt, .int rc, .int (nI y)])), (b1, .inl (cJ, 320, .inr (.inl fw)))] H := by rw [hH]; exact hP
  have hS : va_S aN s.heap H [] := by rw [hH]; exact hS
  refine m_heap hH ?_
  clear hH
  refine lv_aload_n hx hb dX3_isSystemGood_0 rfl (lv_at hl 0 rfl) ?_
  refine lv_aload_n hx hb dX3_isSystemGood_1 rfl (lv_at hl 0 rfl) ?_
  refine va_get (D := D) (ci := 3) (v := .int (nI y)) (C := RX3) (T := TX3) (N := 5) hx hb hts hiX3 hown hK hP 0 rfl rfl 4 (by decide) hf30 (fun _ h9 => h9) rfl dX3_isSystemGood_2 ?_
  refine lv_iload_n hx hb dX3_isSystemGood_5 rfl (lv_at hl 1 rfl) ?_
  refine pu_i (va_runV (As := [.int (nI y), .int (nI t)]) (rest := []) ⟨hx, hb, hml, hown, hts⟩ (c_X3_isGood l D cI cJ cZ h0 b1 b2 y t pt rc (nI y) fw (by first | assumption | omega) (by first | assumption | omega)) (cwV 2 hts gX3_isSystemGood_X3_isGood rfl rfl rfl (by decide +kernel) ⟨Nat.le_of_ble_eq_true rfl, Nat.le_of_ble_eq_true rfl⟩) ⟨pc_blind, va_recv hK hP (ci := 3) (q0 := 0) rfl rfl, fun U hU hW => ⟨rfl, by rw [hU]; exact hP.sub (ws' := [(h0, .inr (3, [.ref b1, .ref b2, .int pt, .int rc, .int (nI y)])), (b1, .inl (cJ, 320, .inr (.inl fw)))]) [0, 1] rfl, hKN.warm hW⟩⟩ rfl rfl hl.1 rfl (lv_room (Nat.le_of_ble_eq_true rfl)) dX3_isSystemGood_6 ⟨Nat.le_of_ble_eq_true rfl, Nat.le_of_ble_eq_true rfl⟩) hS hP (fun r1 H locs w1r hP hS => ?_)
  have w1 : B01 r1 (isG fw y t) := w1r
  clear w1r
  rcases w1 with ⟨rfl, w1⟩ | ⟨rfl, w1⟩
  · skip
    rw [← hQ]
    exact W.zret (v := nI 1) hx hb hr (by first | decide | (rw [nar_b01])) (fun tS htS hWS => ⟨⟨(nI 1), (), rfl, Or.inl ⟨rfl, by assumption⟩, trivial⟩, hS.F htS⟩) hS.2.2 dX3_isSystemGood_9
  · skip
    rw [← hQ]
    exact W.zret (v := nI 0) hx hb hr (by first | decide | (rw [nar_b01])) (fun tS htS hWS => ⟨⟨(nI 0), (), rfl, Or.inr ⟨rfl, by assumption⟩, trivial⟩, hS.F htS⟩) hS.2.2 dX3_isSystemGood_9
def rm_c_X3_verdict : Room := { frames := 2, cells := 0, slots := 0, locals := 43 }
set_option maxHeartbeats 400000 in
set_option maxRecDepth 100000 in
theorem c_X3_verdict (l : Launch) (D : va_G) (cI cJ cZ : ClassId) (h0 : Nat) (b1 : Nat) (b2 : Nat) (y : Nat) (gd : Nat) (un : Nat) (pt : Int32) (rc : Int32) (fw : Nat → Int64) (hy : y < 40) (hg : gd < 512) (hu : un < 512) : Met l yX3_verdict wsX3_verdict rm_c_X3_verdict (pc_ D cI cJ cZ [.ref h0, .int (nI gd), .int (nI un)] [(h0, .inr (3, [.ref b1, .ref b2, .int pt, .int rc, .int (nI y)])), (b1, .inl (cJ, 320, .inr (.inl fw)))]) (va_Qi (fun (r : Int32) (_ : Unit) => VD r fw y gd un) (fun _ _ => True) aN) 0 0 aN := by
  refine Met.ofW (cc := cX3_verdict) (maxL := 3) (ret := (some .int)) (by decide) rfl ?_
  intro p e s m args below meth c s₁ B hml hv
  obtain ⟨rfl, hP, hKN⟩ := hv
  have hK := hKN.1
  have hx := B.exec
  have hb := B.bytes
  have hr := B.returns
  have hts := atoms_spec (ws := wsX3_verdict) B.pre
  have hown : s.vm.findClass RX3 = some m.cls := findClass_of_methodNamed B.named
  have hlocks := B.notSynchronized
  have hS : va_S aN s.heap s.heap [] := va_S.rf
  have hl := lv_entry ([.ref h0, .int (nI gd), .int (nI un)]) (n := 3) (Nat.le_of_ble_eq_true rfl)
  rw [lg_entry_eq]
  generalize (lg_sl ([.ref h0, .int (nI gd), .int (nI un)]) ++ List.replicate (3 - (lg_sl ([.ref h0, .int (nI gd), .int (nI un)])).length) Slot.unset).toArray = ls at hl ⊢
  have hl : lv_has ls 3 [(0, .ref h0), (1, .int (nI gd)), (2, .int (nI un))] := hl
  generalize hQ : MQ below _ _ s _ _ _ = Q
  obtain ⟨H, hH⟩ : ∃ z, z = s.heap := ⟨_, rfl⟩
  have hP : va_P D vwCl [(h0, .inr (3, [.ref b1, .ref b2, .int pt, .int rc, .int (nI y)])), (b1, .inl (cJ, 320, .inr (.inl fw)))] H := by rw [hH]; exact hP
  have hS : va_S aN s.heap H [] := by rw [hH]; exact hS
  refine m_heap hH ?_
  clear hH
  have ho := m_o512 hg hu
  refine lv_aload_n hx hb dX3_verdict_0 rfl (lv_at hl 0 rfl) ?_
  refine lv_iload_n hx hb dX3_verdict_1 rfl (lv_at hl 1 rfl) ?_
  refine pu_i (va_runV (As := [.int (nI gd)]) (rest := []) ⟨hx, hb, hml, hown, hts⟩ (c_X3_isSystemGood l D cI cJ cZ h0 b1 b2 y gd pt rc fw (by first | assumption | omega) (by first | assumption | omega)) (cwV 1 hts gX3_verdict_X3_isSystemGood rfl rfl rfl (by decide +kernel) ⟨Nat.le_of_ble_eq_true rfl, Nat.le_of_ble_eq_true rfl⟩) ⟨pc_blind, va_recv hK hP (ci := 3) (q0 := 0) rfl rfl, fun U hU hW => ⟨rfl, by rw [hU]; exact hP.sub (ws' := [(h0, .inr (3, [.ref b1, .ref b2, .int pt, .int rc, .int (nI y)])), (b1, .inl (cJ, 320, .inr (.inl fw)))]) [0, 1] rfl, hKN.warm hW⟩⟩ rfl rfl hl.1 rfl (lv_room (Nat.le_of_ble_eq_true rfl)) dX3_verdict_2 ⟨Nat.le_of_ble_eq_true rfl, Nat.le_of_ble_eq_true rfl⟩) hS hP (fun r1 H locs w1r hP hS => ?_)
  have w1 : B01 r1 (isG fw y gd) := w1r
  clear w1r
  rcases w1 with ⟨rfl, w1⟩ | ⟨rfl, w1⟩
  · skip
    refine lv_if_eq (tgt := 10) hx hb dX3_verdict_5 (by decide) (fun c2 => ?_) (fun c2 => ?_)
    · exact absurd c2 (by first | decide | exact nz_lt (by omega) | exact fun h => h (nz_ge (by omega)))
    · skip
      refine lv_iconst (v := nI 1) hx hb dX3_verdict_8 (by decide) ?_
      rw [← hQ]
      exact W.iret (v := nI 1) hx hb hr (fun tS htS hWS => ⟨⟨(nI 1), (), rfl, Or.inl ⟨rfl, by assumption⟩, trivial⟩, hS.F htS⟩) hS.2.2 dX3_verdict_9
  · skip
    refine lv_if_eq (tgt := 10) hx hb dX3_verdict_5 (by decide) (fun c3 => ?_) (fun c3 => ?_)
    · skip
      refine lv_aload_n hx hb dX3_verdict_10 rfl (lv_at hl 0 rfl) ?_
      refine lv_iload_n hx hb dX3_verdict_11 rfl (lv_at hl 1 rfl) ?_
      refine lv_iload_n hx hb dX3_verdict_12 rfl (lv_at hl 2 rfl) ?_
      refine lv_ior hx hb dX3_verdict_13 ?_
      refine cn_i (y := nI (gd ||| un)) (mb_or gd un) ?_
      refine pu_i (va_runV (As := [.int (nI (gd ||| un))]) (rest := []) ⟨hx, hb, hml, hown, hts⟩ (c_X3_isSystemGood l D cI cJ cZ h0 b1 b2 y (gd ||| un) pt rc fw (by first | assumption | omega) (by first | assumption | omega)) (cwV 1 hts gX3_verdict_X3_isSystemGood rfl rfl rfl (by decide +kernel) ⟨Nat.le_of_ble_eq_true rfl, Nat.le_of_ble_eq_true rfl⟩) ⟨pc_blind, va_recv hK hP (ci := 3) (q0 := 0) rfl rfl, fun U hU hW => ⟨rfl, by rw [hU]; exact hP.sub (ws' := [(h0, .inr (3, [.ref b1, .ref b2, .int pt, .int rc, .int (nI y)])), (b1, .inl (cJ, 320, .inr (.inl fw)))]) [0, 1] rfl, hKN.warm hW⟩⟩ rfl rfl hl.1 rfl (lv_room (Nat.le_of_ble_eq_true rfl)) dX3_verdict_14 ⟨Nat.le_of_ble_eq_true rfl, Nat.le_of_ble_eq_true rfl⟩) hS hP (fun r4 H locs w4r hP hS => ?_)
      have w4 : B01 r4 (isG fw y (gd ||| un)) := w4r
      clear w4r
      rcases w4 with ⟨rfl, w4⟩ | ⟨rfl, w4⟩
      · skip
        refine lv_if_eq (tgt := 24) hx hb dX3_verdict_17 (by decide) (fun c5 => ?_) (fun c5 => ?_)
        · exact absurd c5 (by first | decide | exact nz_lt (by omega) | exact fun h => h (nz_ge (by omega)))
        · skip
          refine lv_iconst (v := (-1 : Int32)) hx hb dX3_verdict_20 (by decide) ?_
          refine lv_goto (tgt := 25) hx hb dX3_verdict_21 (by decide) ?_
          rw [← hQ]
          exact W.iret (v := (-1 : Int32)) hx hb hr (fun tS htS hWS => ⟨⟨(-1 : Int32), (), rfl, by first | exact Or.inr (Or.inl ⟨rfl, by assumption, by assumption⟩) | exact Or.inr (Or.inr ⟨rfl, by assumption, by assumption⟩), trivial⟩, hS.F htS⟩) hS.2.2 dX3_verdict_25
      · skip
        refine lv_if_eq (tgt := 24) hx hb dX3_verdict_17 (by decide) (fun c6 => ?_) (fun c6 => ?_)
        · skip
          refine lv_iconst (v := nI 0) hx hb dX3_verdict_24 (by decide) ?_
          rw [← hQ]
          exact W.iret (v := nI 0) hx hb hr (fun tS htS hWS => ⟨⟨(nI 0), (), rfl, by first | exact Or.inr (Or.inl ⟨rfl, by assumption, by assumption⟩) | exact Or.inr (Or.inr ⟨rfl, by assumption, by assumption⟩), trivial⟩, hS.F htS⟩) hS.2.2 dX3_verdict_25
        · exact absurd c6 (by first | decide | exact nz_lt (by omega) | exact fun h => h (nz_ge (by omega)))
    · exact absurd c3 (by first | decide | exact nz_lt (by omega) | exact fun h => h (nz_ge (by omega)))
def rm_c_X3_addRow : Room := { frames := 0, cells := 0, slots := 0, locals := 0 }
set_option maxHeartbeats 400000 in
set_option maxRecDepth 100000 in
theorem c_X3_addRow (l : Launch) (D : va_G) (cI cJ cZ : ClassId) (h0 : Nat) (b1 : Nat) (b2 : Nat) (c0 : Nat) (a : Nat) (b : Nat) (pt : Int32) (ry : Int32) (fw : Nat → Int64) (hc : c0 < 40) (ha : a < 40) (hb0 : b < 40) : Met l yX3_addRow wsX3_addRow rm_c_X3_addRow (pm_ D cI cJ cZ [.ref h0, .int (nI a), .int (nI b)] [(h0, .inr (3, [.ref b1, .ref b2, .int pt, .int (nI c0), .int ry])), (b1, .inl (cJ, 320, .inr (.inl fw)))]) (va_Qi (fun (r : Int32) (u : (Nat → Int64)) => r = nI c0) (fun (u : (Nat → Int64)) tS => va_P D vwCl [(h0, .inr (3, [.ref b1, .ref b2, .int pt, .int (nI (c0 + 1)), .int ry])), (b1, .inl (cJ, 320, .inr (.inl u)))] tS.heap) (aA [h0, b1])) 0 0 (aA [h0, b1]) := by
  refine Met.ofW (cc := cX3_addRow) (maxL := 4) (ret := (some .int)) (by decide) rfl ?_
  intro p e s m args below meth c s₁ B hml hv
  obtain ⟨rfl, hP, hKN, hD0⟩ := hv
  have hK := hKN.1
  have hx := B.exec
  have hb := B.bytes
  have hr := B.returns
  have hts := atoms_spec (ws := wsX3_addRow) B.pre
  have hown : s.vm.findClass RX3 = some m.cls := findClass_of_methodNamed B.named
  have hlocks := B.notSynchronized
  have hiX3 : ∀ w ∈ wsX30, w ∈ wsX3_addRow := by decide +kernel
  have hf11 := hts (.fieldLink RX3 11 "LookBench$Rules" "words" "[J") (by decide +kernel)
  have hf27 := hts (.fieldLink RX3 27 "LookBench$Rules" "count" "I") (by decide +kernel)
  obtain ⟨as, has⟩ : ∃ z : List Nat, z = [h0, b1] := ⟨_, rfl⟩
  have hD := hD0.addr (as := as) (by rw [has]; rfl)
  have hS : va_S (aA as) s.heap s.heap [] := va_S.rf
  have hl := lv_entry ([.ref h0, .int (nI a), .int (nI b)]) (n := 4) (Nat.le_of_ble_eq_true rfl)
  rw [lg_entry_eq]
  generalize (lg_sl ([.ref h0, .int (nI a), .int (nI b)]) ++ List.replicate (4 - (lg_sl ([.ref h0, .int (nI a), .int (nI b)])).length) Slot.unset).toArray = ls at hl ⊢
  have hl : lv_has ls 4 [(0, .ref h0), (1, .int (nI a)), (2, .int (nI b))] := hl
  generalize hQ : MQ below _ _ s _ _ _ = Q
  obtain ⟨H, hH⟩ : ∃ z, z = s.heap := ⟨_, rfl⟩
  have hP : va_P D vwCl [(h0, .inr (3, [.ref b1, .ref b2, .int pt, .int (nI c0), .int ry])), (b1, .inl (cJ, 320, .inr (.inl fw)))] H := by rw [hH]; exact hP
  have hS : va_S (aA as) s.heap H [] := by rw [hH]; exact hS
  refine m_heap hH ?_
  clear hH
  refine lv_iconst (v := nI 0) hx hb dX3_addRow_0 (by decide) ?_
  refine lv_istore_n (lv' := [(3, .int (nI 0)), (0, .ref h0), (1, .int (nI a)), (2, .int (nI b))]) hx hb dX3_addRow_1 rfl hl (by decide) rfl (fun ls hl => ?_)
  have loop1 : ∀ (fu : Nat) (k : Nat) (uw : Nat → Int64) (H : Heap) (locs : List Loc) (ls : Array Slot), (k ≤ 8 ∧ 8 < k + fu) → va_P D vwCl [(h0, .inr (3, [.ref b1, .ref b2, .int pt, .int (nI c0), .int ry])), (b1, .inl (cJ, 320, .inr (.inl uw)))] H → va_D (aA as) [(h0, .inr (3, [.ref b1, .ref b2, .int pt, .int (nI c0), .int ry])), (b1, .inl (cJ, 320, .inr (.inl uw)))] → va_S (aA as) s.heap H locs → lv_has ls 4 [(3, .int (nI k)), (0, .ref h0), (1, .int (nI a)), (2, .int (nI b))] → W p l e (headSpec wsX3_addRow rm_c_X3_addRow).room s m ([.ref h0, .int (nI a), .int (nI b)] : List Value).toArray below meth c H locs 0 0 Q (F0 m 2 ls []) := by
    intro fu
    induction fu with
    | zero => intro k uw H locs ls hk; exact absurd hk (by omega)
    | succ fu ih1 =>
      intro k uw H locs ls hk hP hD hS hl
      refine lv_iload_n hx hb dX3_addRow_2 rfl (lv_at hl 0 rfl) ?_
      refine lv_bipush (v := nI 8) hx hb dX3_addRow_3 (by decide) ?_
      refine lv_icmp_ge (tgt := 51) hx hb dX3_addRow_5 (by decide) (fun c2 => ?_) (fun c2 => ?_)
      · skip
        have d2 := c2
        rw [nI_leI (by omega) (by omega)] at d2
        refine lv_aload_n hx hb dX3_addRow_51 rfl (lv_at hl 1 rfl) ?_
        refine lv_dup hx hb dX3_addRow_52 rfl ?_
        refine va_get (D := D) (ci := 3) (v := .int (nI c0)) (C := RX3) (T := TX3) (N := 5) hx hb hts hiX3 hown hK hP 0 rfl rfl 3 (by decide) hf27 (fun _ h9 => h9) rfl dX3_addRow_53 ?_
        refine lv_dup_x1 hx hb dX3_addRow_56 rfl rfl ?_
        refine lv_iconst (v := nI 1) hx hb dX3_addRow_57 (by decide) ?_
        refine lv_iadd hx hb dX3_addRow_58 ?_
        refine cn_i (y := nI (c0 + 1)) (nI_add c0 1) ?_
        refine va_put (D := D) (ci := 3) (v := .int (nI (c0 + 1))) (ty := tyX3 3) (C := RX3) (T := TX3) (N := 5) hx hb hts hiX3 tyX3 tyX3_ok nmX3 hown hK hP hD hS 0 rfl rfl 3 (by decide) hf27 (fun _ h9 => h9) rfl (by decide +kernel) rfl rfl (Nat.le_of_ble_eq_true rfl) dX3_addRow_59 (fun H locs hP hD hS => ?_)
        have hP : va_P D vwCl [(h0, .inr (3, [.ref b1, .ref b2, .int pt, .int (nI (c0 + 1)), .int ry])), (b1, .inl (cJ, 320, .inr (.inl uw)))] H := hP
        have hD : va_D (aA as) [(h0, .inr (3, [.ref b1, .ref b2, .int pt, .int (nI (c0 + 1)), .int ry])), (b1, .inl (cJ, 320, .inr (.inl uw)))] := hD
        rw [← hQ]
        exact W.iret (v := nI c0) hx hb hr (fun tS htS hWS => ⟨⟨(nI c0), (uw), rfl, rfl, m_at htS hP⟩, by rw [← has]; exact hS.F htS⟩) (by rw [← has]; exact hS.2.2) dX3_addRow_62
      · skip
        have d2 := c2
        rw [nI_leI (by omega) (by omega)] at d2
        refine lv_aload_n hx hb dX3_addRow_8 rfl (lv_at hl 1 rfl) ?_
        refine va_get (D := D) (ci := 3) (v := .ref b1) (C := RX3) (T := TX3) (N := 5) hx hb hts hiX3 hown hK hP 0 rfl rfl 0 (by decide) hf11 (fun _ h9 => h9) rfl dX3_addRow_9 ?_
        refine lv_aload_n hx hb dX3_addRow_12 rfl (lv_at hl 1 rfl) ?_
        refine va_get (D := D) (ci := 3) (v := .int (nI c0)) (C := RX3) (T := TX3) (N := 5) hx hb hts hiX3 hown hK hP 0 rfl rfl 3 (by decide) hf27 (fun _ h9 => h9) rfl dX3_addRow_13 ?_
        refine lv_bipush (v := nI 8) hx hb dX3_addRow_16 (by decide) ?_
        refine lv_imul hx hb dX3_addRow_18 ?_
        refine cn_i (y := nI (c0 * 8)) (pk_mul c0 8) ?_
        refine lv_iload_n hx hb dX3_addRow_19 rfl (lv_at hl 0 rfl) ?_
        refine lv_iadd hx hb dX3_addRow_20 ?_
        refine cn_i (y := nI ((c0 * 8) + k)) (nI_add (c0 * 8) k) ?_
        refine lv_aload_n hx hb dX3_addRow_21 rfl (lv_at hl 1 rfl) ?_
        refine va_get (D := D) (ci := 3) (v := .ref b1) (C := RX3) (T := TX3) (N := 5) hx hb hts hiX3 hown hK hP 0 rfl rfl 0 (by decide) hf11 (fun _ h9 => h9) rfl dX3_addRow_22 ?_
        refine lv_iload_n hx hb dX3_addRow_25 rfl (lv_at hl 2 rfl) ?_
        refine lv_bipush (v := nI 8) hx hb dX3_addRow_26 (by decide) ?_
        refine lv_imul hx hb dX3_addRow_28 ?_
        refine cn_i (y := nI (a * 8)) (pk_mul a 8) ?_
        refine lv_iload_n hx hb dX3_addRow_29 rfl (lv_at hl 0 rfl) ?_
        refine lv_iadd hx hb dX3_addRow_30 ?_
        refine cn_i (y := nI ((a * 8) + k)) (nI_add (a * 8) k) ?_
        refine va_lald hx hb hK hP 1 1 rfl rfl (i := nI ((a * 8) + k)) (vp_in_nI (by omega) (by omega)) dX3_addRow_31 ?_
        refine cn_l (y := uw ((a * 8) + k)) (congrArg uw (nI_clamp (by omega))) ?_
        refine lv_aload_n hx hb dX3_addRow_32 rfl (lv_at hl 1 rfl) ?_
        refine va_get (D := D) (ci := 3) (v := .ref b1) (C := RX3) (T := TX3) (N := 5) hx hb hts hiX3 hown hK hP 0 rfl rfl 0 (by decide) hf11 (fun _ h9 => h9) rfl dX3_addRow_33 ?_
        refine lv_iload_n hx hb dX3_addRow_36 rfl (lv_at hl 3 rfl) ?_
        refine lv_bipush (v := nI 8) hx hb dX3_addRow_37 (by decide) ?_
        refine lv_imul hx hb dX3_addRow_39 ?_
        refine cn_i (y := nI (b * 8)) (pk_mul b 8) ?_
        refine lv_iload_n hx hb dX3_addRow_40 rfl (lv_at hl 0 rfl) ?_
        refine lv_iadd hx hb dX3_addRow_41 ?_
        refine cn_i (y := nI ((b * 8) + k)) (nI_add (b * 8) k) ?_
        refine va_lald hx hb hK hP 1 1 rfl rfl (i := nI ((b * 8) + k)) (vp_in_nI (by omega) (by omega)) dX3_addRow_42 ?_
        refine cn_l (y := uw ((b * 8) + k)) (congrArg uw (nI_clamp (by omega))) ?_
        refine lv_land hx hb dX3_addRow_43 ?_
        refine va_last hx hb hK hP hD hS 1 1 rfl rfl (i := nI ((c0 * 8) + k)) (vp_in_nI (by omega) (by omega)) dX3_addRow_44 (fun H locs hP hD hS => ?_)
        have hP : va_P D vwCl [(h0, .inr (3, [.ref b1, .ref b2, .int pt, .int (nI c0), .int ry])), (b1, .inl (cJ, 320, .inr (.inl (vp_updL uw (nI ((c0 * 8) + k)).toNatClampNeg ((uw ((a * 8) + k)) &&& (uw ((b * 8) + k)))))))] H := hP
        have hD : va_D (aA as) [(h0, .inr (3, [.ref b1, .ref b2, .int pt, .int (nI c0), .int ry])), (b1, .inl (cJ, 320, .inr (.inl (vp_updL uw (nI ((c0 * 8) + k)).toNatClampNeg ((uw ((a * 8) + k)) &&& (uw ((b * 8) + k)))))))] := hD
        rw [nI_clamp (n := ((c0 * 8) + k)) (by omega)] at hP hD
        refine lv_iinc (v := nI (k + 1)) (lv' := [(3, .int (nI (k + 1))), (0, .ref h0), (1, .int (nI a)), (2, .int (nI b))]) hx hb dX3_addRow_45 hl (k := 0) rfl (nI_1 k) (by decide) rfl (fun ls hl => ?_)
        refine lv_goto (tgt := 2) hx hb dX3_addRow_48 (by decide) ?_
        exact ih1 (k + 1) (vp_updL uw ((c0 * 8) + k) ((uw ((a * 8) + k)) &&& (uw ((b * 8) + k)))) _ _ _ (by omega) hP hD hS (lv_sub hl [0, 1, 2, 3] rfl)
  exact loop1 9 0 fw _ _ _ (by omega) hP hD hS (lv_sub hl [0, 1, 2, 3] rfl)
def rm_c_X3_addSide : Room := { frames := 0, cells := 0, slots := 0, locals := 0 }
set_option maxHeartbeats 400000 in
set_option maxRecDepth 100000 in
theorem c_X3_addSide (l : Launch) (D : va_G) (cI cJ cZ : ClassId) (h0 : Nat) (b1 : Nat) (b2 : Nat) (c0 : Nat) (a : Nat) (b : Nat) (pt : Int32) (ry : Int32) (fw : Nat → Int64) (hc : c0 < 40) (ha : a < 40) (hb0 : b < 40) : Met l yX3_addSide wsX3_addSide rm_c_X3_addSide (pm_ D cI cJ cZ [.ref h0, .int (nI a), .int (nI b)] [(h0, .inr (3, [.ref b1, .ref b2, .int pt, .int (nI c0), .int ry])), (b1, .inl (cJ, 320, .inr (.inl fw)))]) (va_Qi (fun (r : Int32) (u : (Nat → Int64)) => r = nI c0) (fun (u : (Nat → Int64)) tS => va_P D vwCl [(h0, .inr (3, [.ref b1, .ref b2, .int pt, .int (nI (c0 + 1)), .int ry])), (b1, .inl (cJ, 320, .inr (.inl u)))] tS.heap) (aA [h0, b1])) 0 0 (aA [h0, b1]) := by
  refine Met.ofW (cc := cX3_addSide) (maxL := 4) (ret := (some .int)) (by decide) rfl ?_
  intro p e s m args below meth c s₁ B hml hv
  obtain ⟨rfl, hP, hKN, hD0⟩ := hv
  have hK := hKN.1
  have hx := B.exec
  have hb := B.bytes
  have hr := B.returns
  have hts := atoms_spec (ws := wsX3_addSide) B.pre
  have hown : s.vm.findClass RX3 = some m.cls := findClass_of_methodNamed B.named
  have hlocks := B.notSynchronized
  have hiX3 : ∀ w ∈ wsX30, w ∈ wsX3_addSide := by decide +kernel
  have hf11 := hts (.fieldLink RX3 11 "LookBench$Rules" "words" "[J") (by decide +kernel)
  have hf27 := hts (.fieldLink RX3 27 "LookBench$Rules" "count" "I") (by decide +kernel)
  obtain ⟨as, has⟩ : ∃ z : List Nat, z = [h0, b1] := ⟨_, rfl⟩
  have hD := hD0.addr (as := as) (by rw [has]; rfl)
  have hS : va_S (aA as) s.heap s.heap [] := va_S.rf
  have hl := lv_entry ([.ref h0, .int (nI a), .int (nI b)]) (n := 4) (Nat.le_of_ble_eq_true rfl)
  rw [lg_entry_eq]
  generalize (lg_sl ([.ref h0, .int (nI a), .int (nI b)]) ++ List.replicate (4 - (lg_sl ([.ref h0, .int (nI a), .int (nI b)])).length) Slot.unset).toArray = ls at hl ⊢
  have hl : lv_has ls 4 [(0, .ref h0), (1, .int (nI a)), (2, .int (nI b))] := hl
  generalize hQ : MQ below _ _ s _ _ _ = Q
  obtain ⟨H, hH⟩ : ∃ z, z = s.heap := ⟨_, rfl⟩
  have hP : va_P D vwCl [(h0, .inr (3, [.ref b1, .ref b2, .int pt, .int (nI c0), .int ry])), (b1, .inl (cJ, 320, .inr (.inl fw)))] H := by rw [hH]; exact hP
  have hS : va_S (aA as) s.heap H [] := by rw [hH]; exact hS
  refine m_heap hH ?_
  clear hH
  refine lv_iconst (v := nI 0) hx hb dX3_addSide_0 (by decide) ?_
  refine lv_istore_n (lv' := [(3, .int (nI 0)), (0, .ref h0), (1, .int (nI a)), (2, .int (nI b))]) hx hb dX3_addSide_1 rfl hl (by decide) rfl (fun ls hl => ?_)
  have loop1 : ∀ (fu : Nat) (k : Nat) (uw : Nat → Int64) (H : Heap) (locs : List Loc) (ls : Array Slot), (k ≤ 8 ∧ 8 < k + fu) → va_P D vwCl [(h0, .inr (3, [.ref b1, .ref b2, .int pt, .int (nI c0), .int ry])), (b1, .inl (cJ, 320, .inr (.inl uw)))] H → va_D (aA as) [(h0, .inr (3, [.ref b1, .ref b2, .int pt, .int (nI c0), .int ry])), (b1, .inl (cJ, 320, .inr (.inl uw)))] → va_S (aA as) s.heap H locs → lv_has ls 4 [(3, .int (nI k)), (0, .ref h0), (1, .int (nI a)), (2, .int (nI b))] → W p l e (headSpec wsX3_addSide rm_c_X3_addSide).room s m ([.ref h0, .int (nI a), .int (nI b)] : List Value).toArray below meth c H locs 0 0 Q (F0 m 2 ls []) := by
    intro fu
    induction fu with
    | zero => intro k uw H locs ls hk; exact absurd hk (by omega)
    | succ fu ih1 =>
      intro k uw H locs ls hk hP hD hS hl
      refine lv_iload_n hx hb dX3_addSide_2 rfl (lv_at hl 0 rfl) ?_
      refine lv_bipush (v := nI 8) hx hb dX3_addSide_3 (by decide) ?_
      refine lv_icmp_ge (tgt := 51) hx hb dX3_addSide_5 (by decide) (fun c2 => ?_) (fun c2 => ?_)
      · skip
        have d2 := c2
        rw [nI_leI (by omega) (by omega)] at d2
        refine lv_aload_n hx hb dX3_addSide_51 rfl (lv_at hl 1 rfl) ?_
        refine lv_dup hx hb dX3_addSide_52 rfl ?_
        refine va_get (D := D) (ci := 3) (v := .int (nI c0)) (C := RX3) (T := TX3) (N := 5) hx hb hts hiX3 hown hK hP 0 rfl rfl 3 (by decide) hf27 (fun _ h9 => h9) rfl dX3_addSide_53 ?_
        refine lv_dup_x1 hx hb dX3_addSide_56 rfl rfl ?_
        refine lv_iconst (v := nI 1) hx hb dX3_addSide_57 (by decide) ?_
        refine lv_iadd hx hb dX3_addSide_58 ?_
        refine cn_i (y := nI (c0 + 1)) (nI_add c0 1) ?_
        refine va_put (D := D) (ci := 3) (v := .int (nI (c0 + 1))) (ty := tyX3 3) (C := RX3) (T := TX3) (N := 5) hx hb hts hiX3 tyX3 tyX3_ok nmX3 hown hK hP hD hS 0 rfl rfl 3 (by decide) hf27 (fun _ h9 => h9) rfl (by decide +kernel) rfl rfl (Nat.le_of_ble_eq_true rfl) dX3_addSide_59 (fun H locs hP hD hS => ?_)
        have hP : va_P D vwCl [(h0, .inr (3, [.ref b1, .ref b2, .int pt, .int (nI (c0 + 1)), .int ry])), (b1, .inl (cJ, 320, .inr (.inl uw)))] H := hP
        have hD : va_D (aA as) [(h0, .inr (3, [.ref b1, .ref b2, .int pt, .int (nI (c0 + 1)), .int ry])), (b1, .inl (cJ, 320, .inr (.inl uw)))] := hD
        rw [← hQ]
        exact W.iret (v := nI c0) hx hb hr (fun tS htS hWS => ⟨⟨(nI c0), (uw), rfl, rfl, m_at htS hP⟩, by rw [← has]; exact hS.F htS⟩) (by rw [← has]; exact hS.2.2) dX3_addSide_62
      · skip
        have d2 := c2
        rw [nI_leI (by omega) (by omega)] at d2
        refine lv_aload_n hx hb dX3_addSide_8 rfl (lv_at hl 1 rfl) ?_
        refine va_get (D := D) (ci := 3) (v := .ref b1) (C := RX3) (T := TX3) (N := 5) hx hb hts hiX3 hown hK hP 0 rfl rfl 0 (by decide) hf11 (fun _ h9 => h9) rfl dX3_addSide_9 ?_
        refine lv_aload_n hx hb dX3_addSide_12 rfl (lv_at hl 1 rfl) ?_
        refine va_get (D := D) (ci := 3) (v := .int (nI c0)) (C := RX3) (T := TX3) (N := 5) hx hb hts hiX3 hown hK hP 0 rfl rfl 3 (by decide) hf27 (fun _ h9 => h9) rfl dX3_addSide_13 ?_
        refine lv_bipush (v := nI 8) hx hb dX3_addSide_16 (by decide) ?_
        refine lv_imul hx hb dX3_addSide_18 ?_
        refine cn_i (y := nI (c0 * 8)) (pk_mul c0 8) ?_
        refine lv_iload_n hx hb dX3_addSide_19 rfl (lv_at hl 0 rfl) ?_
        refine lv_iadd hx hb dX3_addSide_20 ?_
        refine cn_i (y := nI ((c0 * 8) + k)) (nI_add (c0 * 8) k) ?_
        refine lv_aload_n hx hb dX3_addSide_21 rfl (lv_at hl 1 rfl) ?_
        refine va_get (D := D) (ci := 3) (v := .ref b1) (C := RX3) (T := TX3) (N := 5) hx hb hts hiX3 hown hK hP 0 rfl rfl 0 (by decide) hf11 (fun _ h9 => h9) rfl dX3_addSide_22 ?_
        refine lv_iload_n hx hb dX3_addSide_25 rfl (lv_at hl 2 rfl) ?_
        refine lv_bipush (v := nI 8) hx hb dX3_addSide_26 (by decide) ?_
        refine lv_imul hx hb dX3_addSide_28 ?_
        refine cn_i (y := nI (a * 8)) (pk_mul a 8) ?_
        refine lv_iload_n hx hb dX3_addSide_29 rfl (lv_at hl 0 rfl) ?_
        refine lv_iadd hx hb dX3_addSide_30 ?_
        refine cn_i (y := nI ((a * 8) + k)) (nI_add (a * 8) k) ?_
        refine va_lald hx hb hK hP 1 1 rfl rfl (i := nI ((a * 8) + k)) (vp_in_nI (by omega) (by omega)) dX3_addSide_31 ?_
        refine cn_l (y := uw ((a * 8) + k)) (congrArg uw (nI_clamp (by omega))) ?_
        refine lv_aload_n hx hb dX3_addSide_32 rfl (lv_at hl 1 rfl) ?_
        refine va_get (D := D) (ci := 3) (v := .ref b1) (C := RX3) (T := TX3) (N := 5) hx hb hts hiX3 hown hK hP 0 rfl rfl 0 (by decide) hf11 (fun _ h9 => h9) rfl dX3_addSide_33 ?_
        refine lv_iload_n hx hb dX3_addSide_36 rfl (lv_at hl 3 rfl) ?_
        refine lv_bipush (v := nI 8) hx hb dX3_addSide_37 (by decide) ?_
        refine lv_imul hx hb dX3_addSide_39 ?_
        refine cn_i (y := nI (b * 8)) (pk_mul b 8) ?_
        refine lv_iload_n hx hb dX3_addSide_40 rfl (lv_at hl 0 rfl) ?_
        refine lv_iadd hx hb dX3_addSide_41 ?_
        refine cn_i (y := nI ((b * 8) + k)) (nI_add (b * 8) k) ?_
        refine va_lald hx hb hK hP 1 1 rfl rfl (i := nI ((b * 8) + k)) (vp_in_nI (by omega) (by omega)) dX3_addSide_42 ?_
        refine cn_l (y := uw ((b * 8) + k)) (congrArg uw (nI_clamp (by omega))) ?_
        refine lv_lor hx hb dX3_addSide_43 ?_
        refine va_last hx hb hK hP hD hS 1 1 rfl rfl (i := nI ((c0 * 8) + k)) (vp_in_nI (by omega) (by omega)) dX3_addSide_44 (fun H locs hP hD hS => ?_)
        have hP : va_P D vwCl [(h0, .inr (3, [.ref b1, .ref b2, .int pt, .int (nI c0), .int ry])), (b1, .inl (cJ, 320, .inr (.inl (vp_updL uw (nI ((c0 * 8) + k)).toNatClampNeg ((uw ((a * 8) + k)) ||| (uw ((b * 8) + k)))))))] H := hP
        have hD : va_D (aA as) [(h0, .inr (3, [.ref b1, .ref b2, .int pt, .int (nI c0), .int ry])), (b1, .inl (cJ, 320, .inr (.inl (vp_updL uw (nI ((c0 * 8) + k)).toNatClampNeg ((uw ((a * 8) + k)) ||| (uw ((b * 8) + k)))))))] := hD
        rw [nI_clamp (n := ((c0 * 8) + k)) (by omega)] at hP hD
        refine lv_iinc (v := nI (k + 1)) (lv' := [(3, .int (nI (k + 1))), (0, .ref h0), (1, .int (nI a)), (2, .int (nI b))]) hx hb dX3_addSide_45 hl (k := 0) rfl (nI_1 k) (by decide) rfl (fun ls hl => ?_)
        refine lv_goto (tgt := 2) hx hb dX3_addSide_48 (by decide) ?_
        exact ih1 (k + 1) (vp_updL uw ((c0 * 8) + k) ((uw ((a * 8) + k)) ||| (uw ((b * 8) + k)))) _ _ _ (by omega) hP hD hS (lv_sub hl [0, 1, 2, 3] rfl)
  exact loop1 9 0 fw _ _ _ (by omega) hP hD hS (lv_sub hl [0, 1, 2, 3] rfl)
def rm_c_X3_addDual : Room := { frames := 1, cells := 0, slots := 0, locals := 22 }
set_option maxHeartbeats 400000 in
set_option maxRecDepth 100000 in
theorem c_X3_addDual (l : Launch) (D : va_G) (cI cJ cZ : ClassId) (h0 : Nat) (b1 : Nat) (b2 : Nat) (n : Nat) (c0 : Nat) (a : Nat) (ry : Int32) (fw : Nat → Int64) (hn : n ≤ 9) (hc : c0 < 40) (ha : a < 40) : Met l yX3_addDual wsX3_addDual rm_c_X3_addDual (pm_ D cI cJ cZ [.ref h0, .int (nI a)] [(h0, .inr (3, [.ref b1, .ref b2, .int (nI n), .int (nI c0), .int ry])), (b1, .inl (cJ, 320, .inr (.inl fw)))]) (va_Qi (fun (r : Int32) (u : (Nat → Int64)) => r = nI c0) (fun (u : (Nat → Int64)) tS => va_P D vwCl [(h0, .inr (3, [.ref b1, .ref b2, .int (nI n), .int (nI (c0 + 1)), .int ry])), (b1, .inl (cJ, 320, .inr (.inl u)))] tS.heap) (aA [h0, b1])) 0 0 (aA [h0, b1]) := by
  refine Met.ofW (cc := cX3_addDual) (maxL := 4) (ret := (some .int)) (by decide) rfl ?_
  intro p e s m args below meth c s₁ B hml hv
  obtain ⟨rfl, hP, hKN, hD0⟩ := hv
  have hK := hKN.1
  have hx := B.exec
  have hb := B.bytes
  have hr := B.returns
  have hts := atoms_spec (ws := wsX3_addDual) B.pre
  have hown : s.vm.findClass RX3 = some m.cls := findClass_of_methodNamed B.named
  have hlocks := B.notSynchronized
  have hiX3 : ∀ w ∈ wsX30, w ∈ wsX3_addDual := by decide +kernel
  have hf23 := hts (.fieldLink RX3 23 "LookBench$Rules" "parts" "I") (by decide +kernel)
  have hf27 := hts (.fieldLink RX3 27 "LookBench$Rules" "count" "I") (by decide +kernel)
  obtain ⟨as, has⟩ : ∃ z : List Nat, z = [h0, b1] := ⟨_, rfl⟩
  have hD := hD0.addr (as := as) (by rw [has]; rfl)
  have hS : va_S (aA as) s.heap s.heap [] := va_S.rf
  have hl := lv_entry ([.ref h0, .int (nI a)]) (n := 4) (Nat.le_of_ble_eq_true rfl)
  rw [lg_entry_eq]
  generalize (lg_sl ([.ref h0, .int (nI a)]) ++ List.replicate (4 - (lg_sl ([.ref h0, .int (nI a)])).length) Slot.unset).toArray = ls at hl ⊢
  have hl : lv_has ls 4 [(0, .ref h0), (1, .int (nI a))] := hl
  generalize hQ : MQ below _ _ s _ _ _ = Q
  obtain ⟨H, hH⟩ : ∃ z, z = s.heap := ⟨_, rfl⟩
  have hP : va_P D vwCl [(h0, .inr (3, [.ref b1, .ref b2, .int (nI n), .int (nI c0), .int ry])), (b1, .inl (cJ, 320, .inr (.inl fw)))] H := by rw [hH]; exact hP
  have hS : va_S (aA as) s.heap H [] := by rw [hH]; exact hS
  refine m_heap hH ?_
  clear hH
  have h2n := m_pow hn
  have h2p := m_powp n
  refine lv_aload_n hx hb dX3_addDual_0 rfl (lv_at hl 0 rfl) ?_
  refine mu_v (n := 2) (wc := [(h0, .inr (3, [.ref b1, .ref b2, .int (nI n), .int (nI c0), .int ry])), (b1, .inl (cJ, 320, .inr (.inl fw)))]) (va_runV (As := []) (rest := []) ⟨hx, hb, hml, hown, hts⟩ (c_X3_wipe l D cI cJ cZ h0 b1 b2 c0 (nI n) ry fw (by first | assumption | omega)) (cwV 0 hts gX3_addDual_X3_wipe rfl rfl rfl (by decide +kernel) ⟨Nat.le_of_ble_eq_true rfl, Nat.le_of_ble_eq_true rfl⟩) ⟨pm_blind, va_recv hK hP (ci := 3) (q0 := 0) rfl rfl, fun U hU hW => ⟨rfl, by rw [hU]; exact hP.sub (ws' := [(h0, .inr (3, [.ref b1, .ref b2, .int (nI n), .int (nI c0), .int ry])), (b1, .inl (cJ, 320, .inr (.inl fw)))]) [0, 1] rfl, hKN.warm hW, (hD.sub (ws' := [(h0, .inr (3, [.ref b1, .ref b2, .int (nI n), .int (nI c0), .int ry])), (b1, .inl (cJ, 320, .inr (.inl fw)))]) [0, 1] (by decide) rfl).weaken (fun _ _ _ _ => trivial)⟩⟩ rfl rfl hl.1 rfl (lv_room (Nat.le_of_ble_eq_true rfl)) dX3_addDual_1 ⟨Nat.le_of_ble_eq_true rfl, Nat.le_of_ble_eq_true rfl⟩) hS hP hD (fun (u : (Nat → Int64)) => [(h0, .inr (3, [.ref b1, .ref b2, .int (nI n), .int (nI c0), .int ry])), (b1, .inl (cJ, 320, .inr (.inl u)))]) [0, 1] [] rfl rfl (fun _ => rfl) (fun _ => rfl) (fun _ => rfl) (fun _ => rfl) (by decide) (by decide) (fun u1 H locs w1r hP hD hS => ?_)
  obtain ⟨u1_uw, rfl⟩ : ∃ z, z = u1 := ⟨_, rfl⟩
  have hP : va_P D vwCl [(h0, .inr (3, [.ref b1, .ref b2, .int (nI n), .int (nI c0), .int ry])), (b1, .inl (cJ, 320, .inr (.inl u1_uw)))] H := hP
  have hD : va_D (aA as) [(h0, .inr (3, [.ref b1, .ref b2, .int (nI n), .int (nI c0), .int ry])), (b1, .inl (cJ, 320, .inr (.inl u1_uw)))] := hD
  have w1 : ∀ z, u1_uw z = if c0 * 8 ≤ z ∧ z < c0 * 8 + 8 then lN 0 else fw z := w1r
  clear w1r
  refine lv_iconst (v := nI 1) hx hb dX3_addDual_4 (by decide) ?_
  refine lv_aload_n hx hb dX3_addDual_5 rfl (lv_at hl 0 rfl) ?_
  refine va_get (D := D) (ci := 3) (v := .int (nI n)) (C := RX3) (T := TX3) (N := 5) hx hb hts hiX3 hown hK hP 0 rfl rfl 2 (by decide) hf23 (fun _ h9 => h9) rfl dX3_addDual_6 ?_
  refine lv_ishl hx hb dX3_addDual_9 ?_
  refine cn_i (y := nI (2 ^ n)) (m_shl1 (by omega)) ?_
  refine lv_iconst (v := nI 1) hx hb dX3_addDual_10 (by decide) ?_
  refine lv_isub hx hb dX3_addDual_11 ?_
  refine cn_i (y := nI ((2 ^ n) - 1)) (pk_sub (a := (2 ^ n)) (b := 1) (by omega)) ?_
  refine lv_istore_n (lv' := [(2, .int (nI ((2 ^ n) - 1))), (0, .ref h0), (1, .int (nI a))]) hx hb dX3_addDual_12 rfl hl (by decide) rfl (fun ls hl => ?_)
  refine lv_iconst (v := nI 0) hx hb dX3_addDual_13 (by decide) ?_
  refine lv_istore_n (lv' := [(3, .int (nI 0)), (2, .int (nI ((2 ^ n) - 1))), (0, .ref h0), (1, .int (nI a))]) hx hb dX3_addDual_14 rfl hl (by decide) rfl (fun ls hl => ?_)
  have loop2 : ∀ (fu : Nat) (k : Nat) (uw : Nat → Int64) (H : Heap) (locs : List Loc) (ls : Array Slot), (k ≤ 2 ^ n ∧ 2 ^ n < k + fu) → va_P D vwCl [(h0, .inr (3, [.ref b1, .ref b2, .int (nI n), .int (nI c0), .int ry])), (b1, .inl (cJ, 320, .inr (.inl uw)))] H → va_D (aA as) [(h0, .inr (3, [.ref b1, .ref b2, .int (nI n), .int (nI c0), .int ry])), (b1, .inl (cJ, 320, .inr (.inl uw)))] → va_S (aA as) s.heap H locs → lv_has ls 4 [(3, .int (nI k)), (2, .int (nI ((2 ^ n) - 1))), (0, .ref h0), (1, .int (nI a))] → W p l e (headSpec wsX3_addDual rm_c_X3_addDual).room s m ([.ref h0, .int (nI a)] : List Value).toArray below meth c H locs 0 0 Q (F0 m 15 ls []) := by
    intro fu
    induction fu with
    | zero => intro k uw H locs ls hk; exact absurd hk (by omega)
    | succ fu ih2 =>
      intro k uw H locs ls hk hP hD hS hl
      refine lv_iload_n hx hb dX3_addDual_15 rfl (lv_at hl 0 rfl) ?_
      refine lv_iload_n hx hb dX3_addDual_16 rfl (lv_at hl 1 rfl) ?_
      refine lv_icmp_gt (tgt := 42) hx hb dX3_addDual_17 (by decide) (fun c3 => ?_) (fun c3 => ?_)
      · skip
        have d3 := c3
        rw [nI_ltI (by omega) (by omega)] at d3
        refine lv_aload_n hx hb dX3_addDual_42 rfl (lv_at hl 2 rfl) ?_
        refine lv_dup hx hb dX3_addDual_43 rfl ?_
        refine va_get (D := D) (ci := 3) (v := .int (nI c0)) (C := RX3) (T := TX3) (N := 5) hx hb hts hiX3 hown hK hP 0 rfl rfl 3 (by decide) hf27 (fun _ h9 => h9) rfl dX3_addDual_44 ?_
        refine lv_dup_x1 hx hb dX3_addDual_47 rfl rfl ?_
        refine lv_iconst (v := nI 1) hx hb dX3_addDual_48 (by decide) ?_
        refine lv_iadd hx hb dX3_addDual_49 ?_
        refine cn_i (y := nI (c0 + 1)) (nI_add c0 1) ?_
        refine va_put (D := D) (ci := 3) (v := .int (nI (c0 + 1))) (ty := tyX3 3) (C := RX3) (T := TX3) (N := 5) hx hb hts hiX3 tyX3 tyX3_ok nmX3 hown hK hP hD hS 0 rfl rfl 3 (by decide) hf27 (fun _ h9 => h9) rfl (by decide +kernel) rfl rfl (Nat.le_of_ble_eq_true rfl) dX3_addDual_50 (fun H locs hP hD hS => ?_)
        have hP : va_P D vwCl [(h0, .inr (3, [.ref b1, .ref b2, .int (nI n), .int (nI (c0 + 1)), .int ry])), (b1, .inl (cJ, 320, .inr (.inl uw)))] H := hP
        have hD : va_D (aA as) [(h0, .inr (3, [.ref b1, .ref b2, .int (nI n), .int (nI (c0 + 1)), .int ry])), (b1, .inl (cJ, 320, .inr (.inl uw)))] := hD
        rw [← hQ]
        exact W.iret (v := nI c0) hx hb hr (fun tS htS hWS => ⟨⟨(nI c0), (uw), rfl, rfl, m_at htS hP⟩, by rw [← has]; exact hS.F htS⟩) (by rw [← has]; exact hS.2.2) dX3_addDual_53
      · skip
        have d3 := c3
        rw [nI_ltI (by omega) (by omega)] at d3
        refine lv_aload_n hx hb dX3_addDual_20 rfl (lv_at hl 2 rfl) ?_
        refine lv_iload_n hx hb dX3_addDual_21 rfl (lv_at hl 3 rfl) ?_
        refine lv_iload_n hx hb dX3_addDual_22 rfl (lv_at hl 1 rfl) ?_
        refine lv_iload_n hx hb dX3_addDual_23 rfl (lv_at hl 0 rfl) ?_
        refine lv_ixor hx hb dX3_addDual_24 ?_
        refine cn_i (y := nI (((2 ^ n) - 1) ^^^ k)) (mb_xor ((2 ^ n) - 1) k) ?_
        refine pu_i (va_runV (As := [.int (nI a), .int (nI (((2 ^ n) - 1) ^^^ k))]) (rest := []) ⟨hx, hb, hml, hown, hts⟩ (c_X3_isGood l D cI cJ cZ h0 b1 b2 a (((2 ^ n) - 1) ^^^ k) (nI n) (nI c0) ry uw (by first | assumption | omega) (by exact m_x512 (by omega) (by omega))) (cwV 2 hts gX3_addDual_X3_isGood rfl rfl rfl (by decide +kernel) ⟨Nat.le_of_ble_eq_true rfl, Nat.le_of_ble_eq_true rfl⟩) ⟨pc_blind, va_recv hK hP (ci := 3) (q0 := 0) rfl rfl, fun U hU hW => ⟨rfl, by rw [hU]; exact hP.sub (ws' := [(h0, .inr (3, [.ref b1, .ref b2, .int (nI n), .int (nI c0), .int ry])), (b1, .inl (cJ, 320, .inr (.inl uw)))]) [0, 1] rfl, hKN.warm hW⟩⟩ rfl rfl hl.1 rfl (lv_room (Nat.le_of_ble_eq_true rfl)) dX3_addDual_25 ⟨Nat.le_of_ble_eq_true rfl, Nat.le_of_ble_eq_true rfl⟩) hS hP (fun r4 H locs w4r hP hS => ?_)
        have w4 : B01 r4 (isG uw a (((2 ^ n) - 1) ^^^ k)) := w4r
        clear w4r
        rcases w4 with ⟨rfl, w4⟩ | ⟨rfl, w4⟩
        · skip
          refine lv_if_ne (tgt := 36) hx hb dX3_addDual_28 (by decide) (fun c5 => ?_) (fun c5 => ?_)
          · skip
            refine lv_iinc (v := nI (k + 1)) (lv' := [(3, .int (nI (k + 1))), (2, .int (nI ((2 ^ n) - 1))), (0, .ref h0), (1, .int (nI a))]) hx hb dX3_addDual_36 hl (k := 0) rfl (nI_1 k) (by decide) rfl (fun ls hl => ?_)
            refine lv_goto (tgt := 15) hx hb dX3_addDual_39 (by decide) ?_
            exact ih2 (k + 1) uw _ _ _ (by omega) hP hD hS (lv_sub hl [0, 1, 2, 3] rfl)
          · exact absurd c5 (by first | decide | exact nz_lt (by omega) | exact fun h => h (nz_ge (by omega)))
        · skip
          refine lv_if_ne (tgt := 36) hx hb dX3_addDual_28 (by decide) (fun c6 => ?_) (fun c6 => ?_)
          · exact absurd c6 (by first | decide | exact nz_lt (by omega) | exact fun h => h (nz_ge (by omega)))
          · skip
            refine lv_aload_n hx hb dX3_addDual_31 rfl (lv_at hl 2 rfl) ?_
            refine lv_iload_n hx hb dX3_addDual_32 rfl (lv_at hl 0 rfl) ?_
            refine mu_v (n := 2) (wc := [(h0, .inr (3, [.ref b1, .ref b2, .int (nI n), .int (nI c0), .int ry])), (b1, .inl (cJ, 320, .inr (.inl uw)))]) (va_runV (As := [.int (nI k)]) (rest := []) ⟨hx, hb, hml, hown, hts⟩ (c_X3_mark l D cI cJ cZ h0 b1 b2 c0 k (nI n) ry uw (by first | assumption | omega) (by first | assumption | omega)) (cwV 1 hts gX3_addDual_X3_mark rfl rfl rfl (by decide +kernel) ⟨Nat.le_of_ble_eq_true rfl, Nat.le_of_ble_eq_true rfl⟩) ⟨pm_blind, va_recv hK hP (ci := 3) (q0 := 0) rfl rfl, fun U hU hW => ⟨rfl, by rw [hU]; exact hP.sub (ws' := [(h0, .inr (3, [.ref b1, .ref b2, .int (nI n), .int (nI c0), .int ry])), (b1, .inl (cJ, 320, .inr (.inl uw)))]) [0, 1] rfl, hKN.warm hW, (hD.sub (ws' := [(h0, .inr (3, [.ref b1, .ref b2, .int (nI n), .int (nI c0), .int ry])), (b1, .inl (cJ, 320, .inr (.inl uw)))]) [0, 1] (by decide) rfl).weaken (fun _ _ _ _ => trivial)⟩⟩ rfl rfl hl.1 rfl (lv_room (Nat.le_of_ble_eq_true rfl)) dX3_addDual_33 ⟨Nat.le_of_ble_eq_true rfl, Nat.le_of_ble_eq_true rfl⟩) hS hP hD (fun (u : Unit) => [(h0, .inr (3, [.ref b1, .ref b2, .int (nI n), .int (nI c0), .int ry])), (b1, .inl (cJ, 320, .inr (.inl (mkG uw c0 k))))]) [0, 1] [] rfl rfl (fun _ => rfl) (fun _ => rfl) (fun _ => rfl) (fun _ => rfl) (by decide) (by decide) (fun u7 H locs w7r hP hD hS => ?_)
            have hP : va_P D vwCl [(h0, .inr (3, [.ref b1, .ref b2, .int (nI n), .int (nI c0), .int ry])), (b1, .inl (cJ, 320, .inr (.inl (mkG uw c0 k))))] H := hP
            have hD : va_D (aA as) [(h0, .inr (3, [.ref b1, .ref b2, .int (nI n), .int (nI c0), .int ry])), (b1, .inl (cJ, 320, .inr (.inl (mkG uw c0 k))))] := hD
            have w7 : True := w7r
            clear w7r
            refine lv_iinc (v := nI (k + 1)) (lv' := [(3, .int (nI (k + 1))), (2, .int (nI ((2 ^ n) - 1))), (0, .ref h0), (1, .int (nI a))]) hx hb dX3_addDual_36 hl (k := 0) rfl (nI_1 k) (by decide) rfl (fun ls hl => ?_)
            refine lv_goto (tgt := 15) hx hb dX3_addDual_39 (by decide) ?_
            exact ih2 (k + 1) (mkG uw c0 k) _ _ _ (by omega) hP hD hS (lv_sub hl [0, 1, 2, 3] rfl)
  exact loop2 (2 ^ n + 1) 0 u1_uw _ _ _ (by omega) hP hD hS (lv_sub hl [0, 1, 2, 3] rfl)
def rm_c_X3_firstUnlike : Room := { frames := 1, cells := 0, slots := 0, locals := 22 }
set_option maxHeartbeats 400000 in
set_option maxRecDepth 100000 in
theorem c_X3_firstUnlike (l : Launch) (D : va_G) (cI cJ cZ : ClassId) (h0 : Nat) (b1 : Nat) (b2 : Nat) (n : Nat) (a : Nat) (b : Nat) (rc : Int32) (ry : Int32) (fw : Nat → Int64) (hn : n ≤ 9) (ha : a < 40) (hb0 : b < 40) : Met l yX3_firstUnlike wsX3_firstUnlike rm_c_X3_firstUnlike (pc_ D cI cJ cZ [.ref h0, .int (nI a), .int (nI b)] [(h0, .inr (3, [.ref b1, .ref b2, .int (nI n), .int rc, .int ry])), (b1, .inl (cJ, 320, .inr (.inl fw)))]) (va_Qi (fun (r : Int32) (_ : Unit) => (r = -1 ∧ ∀ z, z < 2 ^ n → (isG fw a z ↔ isG fw b z)) ∨ (∃ x, x < 2 ^ n ∧ r = nI x ∧ ¬ (isG fw a x ↔ isG fw b x) ∧ ∀ z, z < x → (isG fw a z ↔ isG fw b z))) (fun _ _ => True) aN) 0 0 aN := by
  refine Met.ofW (cc := cX3_firstUnlike) (maxL := 4) (ret := (some .int)) (by decide) rfl ?_
  intro p e s m args below meth c s₁ B hml hv
  obtain ⟨rfl, hP, hKN⟩ := hv
  have hK := hKN.1
  have hx := B.exec
  have hb := B.bytes
  have hr := B.returns
  have hts := atoms_spec (ws := wsX3_firstUnlike) B.pre
  have hown : s.vm.findClass RX3 = some m.cls := findClass_of_methodNamed B.named
  have hlocks := B.notSynchronized
  have hiX3 : ∀ w ∈ wsX30, w ∈ wsX3_firstUnlike := by decide +kernel
  have hf23 := hts (.fieldLink RX3 23 "LookBench$Rules" "parts" "I") (by decide +kernel)
  have hS : va_S aN s.heap s.heap [] := va_S.rf
  have hl := lv_entry ([.ref h0, .int (nI a), .int (nI b)]) (n := 4) (Nat.le_of_ble_eq_true rfl)
  rw [lg_entry_eq]
  generalize (lg_sl ([.ref h0, .int (nI a), .int (nI b)]) ++ List.replicate (4 - (lg_sl ([.ref h0, .int (nI a), .int (nI b)])).length) Slot.unset).toArray = ls at hl ⊢
  have hl : lv_has ls 4 [(0, .ref h0), (1, .int (nI a)), (2, .int (nI b))] := hl
  generalize hQ : MQ below _ _ s _ _ _ = Q
  obtain ⟨H, hH⟩ : ∃ z, z = s.heap := ⟨_, rfl⟩
  have hP : va_P D vwCl [(h0, .inr (3, [.ref b1, .ref b2, .int (nI n), .int rc, .int ry])), (b1, .inl (cJ, 320, .inr (.inl fw)))] H := by rw [hH]; exact hP
  have hS : va_S aN s.heap H [] := by rw [hH]; exact hS
  refine m_heap hH ?_
  clear hH
  have h2n := m_pow hn
  have h2p := m_powp n
  refine lv_iconst (v := nI 0) hx hb dX3_firstUnlike_0 (by decide) ?_
  refine lv_istore_n (lv' := [(3, .int (nI 0)), (0, .ref h0), (1, .int (nI a)), (2, .int (nI b))]) hx hb dX3_firstUnlike_1 rfl hl (by decide) rfl (fun ls hl => ?_)
  have loop1 : ∀ (fu : Nat) (k : Nat) (H : Heap) (locs : List Loc) (ls : Array Slot), (k ≤ 2 ^ n ∧ 2 ^ n < k + fu) → (∀ z, z < k → (isG fw a z ↔ isG fw b z)) → va_P D vwCl [(h0, .inr (3, [.ref b1, .ref b2, .int (nI n), .int rc, .int ry])), (b1, .inl (cJ, 320, .inr (.inl fw)))] H → va_S aN s.heap H locs → lv_has ls 4 [(3, .int (nI k)), (0, .ref h0), (1, .int (nI a)), (2, .int (nI b))] → W p l e (headSpec wsX3_firstUnlike rm_c_X3_firstUnlike).room s m ([.ref h0, .int (nI a), .int (nI b)] : List Value).toArray below meth c H locs 0 0 Q (F0 m 2 ls []) := by
    intro fu
    induction fu with
    | zero => intro k H locs ls hk hi; exact absurd hk (by omega)
    | succ fu ih1 =>
      intro k H locs ls hk hi hP hS hl
      refine lv_iload_n hx hb dX3_firstUnlike_2 rfl (lv_at hl 0 rfl) ?_
      refine lv_iconst (v := nI 1) hx hb dX3_firstUnlike_3 (by decide) ?_
      refine lv_aload_n hx hb dX3_firstUnlike_4 rfl (lv_at hl 1 rfl) ?_
      refine va_get (D := D) (ci := 3) (v := .int (nI n)) (C := RX3) (T := TX3) (N := 5) hx hb hts hiX3 hown hK hP 0 rfl rfl 2 (by decide) hf23 (fun _ h9 => h9) rfl dX3_firstUnlike_5 ?_
      refine lv_ishl hx hb dX3_firstUnlike_8 ?_
      refine cn_i (y := nI (2 ^ n)) (m_shl1 (by omega)) ?_
      refine lv_icmp_ge (tgt := 35) hx hb dX3_firstUnlike_9 (by decide) (fun c2 => ?_) (fun c2 => ?_)
      · skip
        have d2 := c2
        rw [nI_leI (by omega) (by omega)] at d2
        refine lv_iconst (v := (-1 : Int32)) hx hb dX3_firstUnlike_35 (by decide) ?_
        rw [← hQ]
        exact W.iret (v := (-1 : Int32)) hx hb hr (fun tS htS hWS => ⟨⟨(-1 : Int32), (), rfl, Or.inl ⟨rfl, fun z hz => hi z (by omega)⟩, trivial⟩, hS.F htS⟩) hS.2.2 dX3_firstUnlike_36
      · skip
        have d2 := c2
        rw [nI_leI (by omega) (by omega)] at d2
        refine lv_aload_n hx hb dX3_firstUnlike_12 rfl (lv_at hl 1 rfl) ?_
        refine lv_iload_n hx hb dX3_firstUnlike_13 rfl (lv_at hl 2 rfl) ?_
        refine lv_iload_n hx hb dX3_firstUnlike_14 rfl (lv_at hl 0 rfl) ?_
        refine pu_i (va_runV (As := [.int (nI a), .int (nI k)]) (rest := []) ⟨hx, hb, hml, hown, hts⟩ (c_X3_isGood l D cI cJ cZ h0 b1 b2 a k (nI n) rc ry fw (by first | assumption | omega) (by first | assumption | omega)) (cwV 2 hts gX3_firstUnlike_X3_isGood rfl rfl rfl (by decide +kernel) ⟨Nat.le_of_ble_eq_true rfl, Nat.le_of_ble_eq_true rfl⟩) ⟨pc_blind, va_recv hK hP (ci := 3) (q0 := 0) rfl rfl, fun U hU hW => ⟨rfl, by rw [hU]; exact hP.sub (ws' := [(h0, .inr (3, [.ref b1, .ref b2, .int (nI n), .int rc, .int ry])), (b1, .inl (cJ, 320, .inr (.inl fw)))]) [0, 1] rfl, hKN.warm hW⟩⟩ rfl rfl hl.1 rfl (lv_room (Nat.le_of_ble_eq_true rfl)) dX3_firstUnlike_15 ⟨Nat.le_of_ble_eq_true rfl, Nat.le_of_ble_eq_true rfl⟩) hS hP (fun r3 H locs w3r hP hS => ?_)
        have w3 : B01 r3 (isG fw a k) := w3r
        clear w3r
        rcases w3 with ⟨rfl, w3⟩ | ⟨rfl, w3⟩
        · skip
          refine lv_aload_n hx hb dX3_firstUnlike_18 rfl (lv_at hl 1 rfl) ?_
          refine lv_iload_n hx hb dX3_firstUnlike_19 rfl (lv_at hl 3 rfl) ?_
          refine lv_iload_n hx hb dX3_firstUnlike_20 rfl (lv_at hl 0 rfl) ?_
          refine pu_i (va_runV (As := [.int (nI b), .int (nI k)]) (rest := [.int (nI 1)]) ⟨hx, hb, hml, hown, hts⟩ (c_X3_isGood l D cI cJ cZ h0 b1 b2 b k (nI n) rc ry fw (by first | assumption | omega) (by first | assumption | omega)) (cwV 2 hts gX3_firstUnlike_X3_isGood rfl rfl rfl (by decide +kernel) ⟨Nat.le_of_ble_eq_true rfl, Nat.le_of_ble_eq_true rfl⟩) ⟨pc_blind, va_recv hK hP (ci := 3) (q0 := 0) rfl rfl, fun U hU hW => ⟨rfl, by rw [hU]; exact hP.sub (ws' := [(h0, .inr (3, [.ref b1, .ref b2, .int (nI n), .int rc, .int ry])), (b1, .inl (cJ, 320, .inr (.inl fw)))]) [0, 1] rfl, hKN.warm hW⟩⟩ rfl rfl hl.1 rfl (lv_room (Nat.le_of_ble_eq_true rfl)) dX3_firstUnlike_21 ⟨Nat.le_of_ble_eq_true rfl, Nat.le_of_ble_eq_true rfl⟩) hS hP (fun r4 H locs w4r hP hS => ?_)
          have w4 : B01 r4 (isG fw b k) := w4r
          clear w4r
          rcases w4 with ⟨rfl, w4⟩ | ⟨rfl, w4⟩
          · skip
            refine lv_icmp_eq (tgt := 29) hx hb dX3_firstUnlike_24 (by decide) (fun c5 => ?_) (fun c5 => ?_)
            · skip
              refine lv_iinc (v := nI (k + 1)) (lv' := [(3, .int (nI (k + 1))), (0, .ref h0), (1, .int (nI a)), (2, .int (nI b))]) hx hb dX3_firstUnlike_29 hl (k := 0) rfl (nI_1 k) (by decide) rfl (fun ls hl => ?_)
              refine lv_goto (tgt := 2) hx hb dX3_firstUnlike_32 (by decide) ?_
              exact ih1 (k + 1) _ _ _ (by omega) (fun z hz => by rcases Nat.lt_or_ge z k with h | h; exact hi z h; exact (by have e9 : z = k := (by omega); subst e9; exact (by first | exact ⟨fun _ => by assumption, fun _ => by assumption⟩ | exact ⟨fun h => absurd h (by assumption), fun h => absurd h (by assumption)⟩))) hP hS (lv_sub hl [0, 1, 2, 3] rfl)
            · exact absurd c5 (by first | decide | exact nz_lt (by omega) | exact fun h => h (nz_ge (by omega)))
          · skip
            refine lv_icmp_eq (tgt := 29) hx hb dX3_firstUnlike_24 (by decide) (fun c6 => ?_) (fun c6 => ?_)
            · exact absurd c6 (by first | decide | exact nz_lt (by omega) | exact fun h => h (nz_ge (by omega)))
            · skip
              refine lv_iload_n hx hb dX3_firstUnlike_27 rfl (lv_at hl 0 rfl) ?_
              rw [← hQ]
              exact W.iret (v := nI k) hx hb hr (fun tS htS hWS => ⟨⟨(nI k), (), rfl, Or.inr ⟨k, by omega, rfl, (by first | exact fun h => absurd (h.mp (by assumption)) (by assumption) | exact fun h => absurd (h.mpr (by assumption)) (by assumption)), hi⟩, trivial⟩, hS.F htS⟩) hS.2.2 dX3_firstUnlike_28
        · skip
          refine lv_aload_n hx hb dX3_firstUnlike_18 rfl (lv_at hl 1 rfl) ?_
          refine lv_iload_n hx hb dX3_firstUnlike_19 rfl (lv_at hl 3 rfl) ?_
          refine lv_iload_n hx hb dX3_firstUnlike_20 rfl (lv_at hl 0 rfl) ?_
          refine pu_i (va_runV (As := [.int (nI b), .int (nI k)]) (rest := [.int (nI 0)]) ⟨hx, hb, hml, hown, hts⟩ (c_X3_isGood l D cI cJ cZ h0 b1 b2 b k (nI n) rc ry fw (by first | assumption | omega) (by first | assumption | omega)) (cwV 2 hts gX3_firstUnlike_X3_isGood rfl rfl rfl (by decide +kernel) ⟨Nat.le_of_ble_eq_true rfl, Nat.le_of_ble_eq_true rfl⟩) ⟨pc_blind, va_recv hK hP (ci := 3) (q0 := 0) rfl rfl, fun U hU hW => ⟨rfl, by rw [hU]; exact hP.sub (ws' := [(h0, .inr (3, [.ref b1, .ref b2, .int (nI n), .int rc, .int ry])), (b1, .inl (cJ, 320, .inr (.inl fw)))]) [0, 1] rfl, hKN.warm hW⟩⟩ rfl rfl hl.1 rfl (lv_room (Nat.le_of_ble_eq_true rfl)) dX3_firstUnlike_21 ⟨Nat.le_of_ble_eq_true rfl, Nat.le_of_ble_eq_true rfl⟩) hS hP (fun r7 H locs w7r hP hS => ?_)
          have w7 : B01 r7 (isG fw b k) := w7r
          clear w7r
          rcases w7 with ⟨rfl, w7⟩ | ⟨rfl, w7⟩
          · skip
            refine lv_icmp_eq (tgt := 29) hx hb dX3_firstUnlike_24 (by decide) (fun c8 => ?_) (fun c8 => ?_)
            · exact absurd c8 (by first | decide | exact nz_lt (by omega) | exact fun h => h (nz_ge (by omega)))
            · skip
              refine lv_iload_n hx hb dX3_firstUnlike_27 rfl (lv_at hl 0 rfl) ?_
              rw [← hQ]
              exact W.iret (v := nI k) hx hb hr (fun tS htS hWS => ⟨⟨(nI k), (), rfl, Or.inr ⟨k, by omega, rfl, (by first | exact fun h => absurd (h.mp (by assumption)) (by assumption) | exact fun h => absurd (h.mpr (by assumption)) (by assumption)), hi⟩, trivial⟩, hS.F htS⟩) hS.2.2 dX3_firstUnlike_28
          · skip
            refine lv_icmp_eq (tgt := 29) hx hb dX3_firstUnlike_24 (by decide) (fun c9 => ?_) (fun c9 => ?_)
            · skip
              refine lv_iinc (v := nI (k + 1)) (lv' := [(3, .int (nI (k + 1))), (0, .ref h0), (1, .int (nI a)), (2, .int (nI b))]) hx hb dX3_firstUnlike_29 hl (k := 0) rfl (nI_1 k) (by decide) rfl (fun ls hl => ?_)
              refine lv_goto (tgt := 2) hx hb dX3_firstUnlike_32 (by decide) ?_
              exact ih1 (k + 1) _ _ _ (by omega) (fun z hz => by rcases Nat.lt_or_ge z k with h | h; exact hi z h; exact (by have e9 : z = k := (by omega); subst e9; exact (by first | exact ⟨fun _ => by assumption, fun _ => by assumption⟩ | exact ⟨fun h => absurd h (by assumption), fun h => absurd h (by assumption)⟩))) hP hS (lv_sub hl [0, 1, 2, 3] rfl)
            · exact absurd c9 (by first | decide | exact nz_lt (by omega) | exact fun h => h (nz_ge (by omega)))
  exact loop1 (2 ^ n + 1) 0 _ _ _ (by omega) (fun z hz => absurd hz (by omega)) hP hS (lv_sub hl [0, 1, 2, 3] rfl)
def rm_c_X3_settles : Room := { frames := 2, cells := 0, slots := 0, locals := 43 }
set_option maxHeartbeats 400000 in
set_option maxRecDepth 100000 in
theorem c_X3_settles (l : Launch) (D : va_G) (cI cJ cZ : ClassId) (h0 : Nat) (b1 : Nat) (b2 : Nat) (n : Nat) (y : Nat) (t : Nat) (rc : Int32) (gb : Int32) (fw : Nat → Int64) (hn : n ≤ 9) (hy : y < 40) (ht : t < 512) : Met l yX3_settles wsX3_settles rm_c_X3_settles (pc_ D cI cJ cZ [.ref h0, .int gb, .int (nI t)] [(h0, .inr (3, [.ref b1, .ref b2, .int (nI n), .int rc, .int (nI y)])), (b1, .inl (cJ, 320, .inr (.inl fw)))]) (va_Qi (fun (r : Int32) (_ : Unit) => B01 r (stl fw y n gb t)) (fun _ _ => True) aN) 0 0 aN := by
  refine Met.ofW (cc := cX3_settles) (maxL := 4) (ret := (some .boolean)) (by decide) rfl ?_
  intro p e s m args below meth c s₁ B hml hv
  obtain ⟨rfl, hP, hKN⟩ := hv
  have hK := hKN.1
  have hx := B.exec
  have hb := B.bytes
  have hr := B.returns
  have hts := atoms_spec (ws := wsX3_settles) B.pre
  have hown : s.vm.findClass RX3 = some m.cls := findClass_of_methodNamed B.named
  have hlocks := B.notSynchronized
  have hiX3 : ∀ w ∈ wsX30, w ∈ wsX3_settles := by decide +kernel
  have hf23 := hts (.fieldLink RX3 23 "LookBench$Rules" "parts" "I") (by decide +kernel)
  have hS : va_S aN s.heap s.heap [] := va_S.rf
  have hl := lv_entry ([.ref h0, .int gb, .int (nI t)]) (n := 4) (Nat.le_of_ble_eq_true rfl)
  rw [lg_entry_eq]
  generalize (lg_sl ([.ref h0, .int gb, .int (nI t)]) ++ List.replicate (4 - (lg_sl ([.ref h0, .int gb, .int (nI t)])).length) Slot.unset).toArray = ls at hl ⊢
  have hl : lv_has ls 4 [(0, .ref h0), (1, .int gb), (2, .int (nI t))] := hl
  generalize hQ : MQ below _ _ s _ _ _ = Q
  obtain ⟨H, hH⟩ : ∃ z, z = s.heap := ⟨_, rfl⟩
  have hP : va_P D vwCl [(h0, .inr (3, [.ref b1, .ref b2, .int (nI n), .int rc, .int (nI y)])), (b1, .inl (cJ, 320, .inr (.inl fw)))] H := by rw [hH]; exact hP
  have hS : va_S aN s.heap H [] := by rw [hH]; exact hS
  refine m_heap hH ?_
  clear hH
  have h2n := m_pow hn
  have h2p := m_powp n
  have hx5 := m_x512 (a := 2 ^ n - 1) (b := t) (by omega) ht
  refine lv_iconst (v := nI 1) hx hb dX3_settles_0 (by decide) ?_
  refine lv_aload_n hx hb dX3_settles_1 rfl (lv_at hl 0 rfl) ?_
  refine va_get (D := D) (ci := 3) (v := .int (nI n)) (C := RX3) (T := TX3) (N := 5) hx hb hts hiX3 hown hK hP 0 rfl rfl 2 (by decide) hf23 (fun _ h9 => h9) rfl dX3_settles_2 ?_
  refine lv_ishl hx hb dX3_settles_5 ?_
  refine cn_i (y := nI (2 ^ n)) (m_shl1 (by omega)) ?_
  refine lv_iconst (v := nI 1) hx hb dX3_settles_6 (by decide) ?_
  refine lv_isub hx hb dX3_settles_7 ?_
  refine cn_i (y := nI ((2 ^ n) - 1)) (pk_sub (a := (2 ^ n)) (b := 1) (by omega)) ?_
  refine lv_istore_n (lv' := [(3, .int (nI ((2 ^ n) - 1))), (0, .ref h0), (1, .int gb), (2, .int (nI t))]) hx hb dX3_settles_8 rfl hl (by decide) rfl (fun ls hl => ?_)
  refine lv_iload_n hx hb dX3_settles_9 rfl (lv_at hl 2 rfl) ?_
  refine lv_if_eq (tgt := 21) hx hb dX3_settles_10 (by decide) (fun c1 => ?_) (fun c1 => ?_)
  · skip
    refine lv_aload_n hx hb dX3_settles_21 rfl (lv_at hl 1 rfl) ?_
    refine lv_iload_n hx hb dX3_settles_22 rfl (lv_at hl 0 rfl) ?_
    refine lv_iload_n hx hb dX3_settles_23 rfl (lv_at hl 3 rfl) ?_
    refine lv_ixor hx hb dX3_settles_24 ?_
    refine cn_i (y := nI (((2 ^ n) - 1) ^^^ t)) (mb_xor ((2 ^ n) - 1) t) ?_
    refine pu_i (va_runV (As := [.int (nI (((2 ^ n) - 1) ^^^ t))]) (rest := []) ⟨hx, hb, hml, hown, hts⟩ (c_X3_isSystemGood l D cI cJ cZ h0 b1 b2 y (((2 ^ n) - 1) ^^^ t) (nI n) rc fw (by first | assumption | omega) (by first | assumption | omega)) (cwV 1 hts gX3_settles_X3_isSystemGood rfl rfl rfl (by decide +kernel) ⟨Nat.le_of_ble_eq_true rfl, Nat.le_of_ble_eq_true rfl⟩) ⟨pc_blind, va_recv hK hP (ci := 3) (q0 := 0) rfl rfl, fun U hU hW => ⟨rfl, by rw [hU]; exact hP.sub (ws' := [(h0, .inr (3, [.ref b1, .ref b2, .int (nI n), .int rc, .int (nI y)])), (b1, .inl (cJ, 320, .inr (.inl fw)))]) [0, 1] rfl, hKN.warm hW⟩⟩ rfl rfl hl.1 rfl (lv_room (Nat.le_of_ble_eq_true rfl)) dX3_settles_25 ⟨Nat.le_of_ble_eq_true rfl, Nat.le_of_ble_eq_true rfl⟩) hS hP (fun r2 H locs w2r hP hS => ?_)
    have w2 : B01 r2 (isG fw y (((2 ^ n) - 1) ^^^ t)) := w2r
    clear w2r
    rcases w2 with ⟨rfl, w2⟩ | ⟨rfl, w2⟩
    · skip
      refine lv_if_ne (tgt := 35) hx hb dX3_settles_28 (by decide) (fun c3 => ?_) (fun c3 => ?_)
      · skip
        refine lv_iconst (v := nI 0) hx hb dX3_settles_35 (by decide) ?_
        rw [← hQ]
        exact W.zret (v := nI 0) hx hb hr (by first | decide | (rw [nar_b01])) (fun tS htS hWS => ⟨⟨(nI 0), (), rfl, Or.inr ⟨rfl, by first | exact ⟨fun h => absurd h c1, fun _ => by assumption⟩ | exact ⟨fun _ => by assumption, fun h => absurd c1 h⟩ | exact fun h => absurd (h.2 c1) (by assumption) | exact fun h => h.1 c1 (by assumption)⟩, trivial⟩, hS.F htS⟩) hS.2.2 dX3_settles_36
      · exact absurd c3 (by first | decide | exact nz_lt (by omega) | exact fun h => h (nz_ge (by omega)))
    · skip
      refine lv_if_ne (tgt := 35) hx hb dX3_settles_28 (by decide) (fun c4 => ?_) (fun c4 => ?_)
      · exact absurd c4 (by first | decide | exact nz_lt (by omega) | exact fun h => h (nz_ge (by omega)))
      · skip
        refine lv_iconst (v := nI 1) hx hb dX3_settles_31 (by decide) ?_
        refine lv_goto (tgt := 36) hx hb dX3_settles_32 (by decide) ?_
        rw [← hQ]
        exact W.zret (v := nI 1) hx hb hr (by first | decide | (rw [nar_b01])) (fun tS htS hWS => ⟨⟨(nI 1), (), rfl, Or.inl ⟨rfl, by first | exact ⟨fun h => absurd h c1, fun _ => by assumption⟩ | exact ⟨fun _ => by assumption, fun h => absurd c1 h⟩ | exact fun h => absurd (h.2 c1) (by assumption) | exact fun h => h.1 c1 (by assumption)⟩, trivial⟩, hS.F htS⟩) hS.2.2 dX3_settles_36
  · skip
    refine lv_aload_n hx hb dX3_settles_13 rfl (lv_at hl 1 rfl) ?_
    refine lv_iload_n hx hb dX3_settles_14 rfl (lv_at hl 3 rfl) ?_
    refine pu_i (va_runV (As := [.int (nI t)]) (rest := []) ⟨hx, hb, hml, hown, hts⟩ (c_X3_isSystemGood l D cI cJ cZ h0 b1 b2 y t (nI n) rc fw (by first | assumption | omega) (by first | assumption | omega)) (cwV 1 hts gX3_settles_X3_isSystemGood rfl rfl rfl (by decide +kernel) ⟨Nat.le_of_ble_eq_true rfl, Nat.le_of_ble_eq_true rfl⟩) ⟨pc_blind, va_recv hK hP (ci := 3) (q0 := 0) rfl rfl, fun U hU hW => ⟨rfl, by rw [hU]; exact hP.sub (ws' := [(h0, .inr (3, [.ref b1, .ref b2, .int (nI n), .int rc, .int (nI y)])), (b1, .inl (cJ, 320, .inr (.inl fw)))]) [0, 1] rfl, hKN.warm hW⟩⟩ rfl rfl hl.1 rfl (lv_room (Nat.le_of_ble_eq_true rfl)) dX3_settles_15 ⟨Nat.le_of_ble_eq_true rfl, Nat.le_of_ble_eq_true rfl⟩) hS hP (fun r5 H locs w5r hP hS => ?_)
    have w5 : B01 r5 (isG fw y t) := w5r
    clear w5r
    rcases w5 with ⟨rfl, w5⟩ | ⟨rfl, w5⟩
    · skip
      refine lv_goto (tgt := 36) hx hb dX3_settles_18 (by decide) ?_
      rw [← hQ]
      exact W.zret (v := nI 1) hx hb hr (by first | decide | (rw [nar_b01])) (fun tS htS hWS => ⟨⟨(nI 1), (), rfl, Or.inl ⟨rfl, by first | exact ⟨fun h => absurd h c1, fun _ => by assumption⟩ | exact ⟨fun _ => by assumption, fun h => absurd c1 h⟩ | exact fun h => absurd (h.2 c1) (by assumption) | exact fun h => h.1 c1 (by assumption)⟩, trivial⟩, hS.F htS⟩) hS.2.2 dX3_settles_36
    · skip
      refine lv_goto (tgt := 36) hx hb dX3_settles_18 (by decide) ?_
      rw [← hQ]
      exact W.zret (v := nI 0) hx hb hr (by first | decide | (rw [nar_b01])) (fun tS htS hWS => ⟨⟨(nI 0), (), rfl, Or.inr ⟨rfl, by first | exact ⟨fun h => absurd h c1, fun _ => by assumption⟩ | exact ⟨fun _ => by assumption, fun h => absurd c1 h⟩ | exact fun h => absurd (h.2 c1) (by assumption) | exact fun h => h.1 c1 (by assumption)⟩, trivial⟩, hS.F htS⟩) hS.2.2 dX3_settles_36
def rm_c_X3_isLeast : Room := { frames := 3, cells := 0, slots := 0, locals := 66 }
set_option maxHeartbeats 400000 in
set_option maxRecDepth 100000 in
theorem c_X3_isLeast (l : Launch) (D : va_G) (cI cJ cZ : ClassId) (h0 : Nat) (b1 : Nat) (b2 : Nat) (n : Nat) (y : Nat) (t : Nat) (rc : Int32) (gb : Int32) (fw : Nat → Int64) (hn : n ≤ 9) (hy : y < 40) (ht : t < 512) : Met l yX3_isLeast wsX3_isLeast rm_c_X3_isLeast (pc_ D cI cJ cZ [.ref h0, .int gb, .int (nI t)] [(h0, .inr (3, [.ref b1, .ref b2, .int (nI n), .int rc, .int (nI y)])), (b1, .inl (cJ, 320, .inr (.inl fw)))]) (va_Qi (fun (r : Int32) (_ : Unit) => B01 r (lst fw y n gb t)) (fun _ _ => True) aN) 0 0 aN := by
  refine Met.ofW (cc := cX3_isLeast) (maxL := 4) (ret := (some .boolean)) (by decide) rfl ?_
  intro p e s m args below meth c s₁ B hml hv
  obtain ⟨rfl, hP, hKN⟩ := hv
  have hK := hKN.1
  have hx := B.exec
  have hb := B.bytes
  have hr := B.returns
  have hts := atoms_spec (ws := wsX3_isLeast) B.pre
  have hown : s.vm.findClass RX3 = some m.cls := findClass_of_methodNamed B.named
  have hlocks := B.notSynchronized
  have hiX3 : ∀ w ∈ wsX30, w ∈ wsX3_isLeast := by decide +kernel
  have hf23 := hts (.fieldLink RX3 23 "LookBench$Rules" "parts" "I") (by decide +kernel)
  have hS : va_S aN s.heap s.heap [] := va_S.rf
  have hl := lv_entry ([.ref h0, .int gb, .int (nI t)]) (n := 4) (Nat.le_of_ble_eq_true rfl)
  rw [lg_entry_eq]
  generalize (lg_sl ([.ref h0, .int gb, .int (nI t)]) ++ List.replicate (4 - (lg_sl ([.ref h0, .int gb, .int (nI t)])).length) Slot.unset).toArray = ls at hl ⊢
  have hl : lv_has ls 4 [(0, .ref h0), (1, .int gb), (2, .int (nI t))] := hl
  generalize hQ : MQ below _ _ s _ _ _ = Q
  obtain ⟨H, hH⟩ : ∃ z, z = s.heap := ⟨_, rfl⟩
  have hP : va_P D vwCl [(h0, .inr (3, [.ref b1, .ref b2, .int (nI n), .int rc, .int (nI y)])), (b1, .inl (cJ, 320, .inr (.inl fw)))] H := by rw [hH]; exact hP
  have hS : va_S aN s.heap H [] := by rw [hH]; exact hS
  refine m_heap hH ?_
  clear hH
  refine lv_aload_n hx hb dX3_isLeast_0 rfl (lv_at hl 0 rfl) ?_
  refine lv_iload_n hx hb dX3_isLeast_1 rfl (lv_at hl 1 rfl) ?_
  refine lv_iload_n hx hb dX3_isLeast_2 rfl (lv_at hl 2 rfl) ?_
  refine pu_i (va_runV (As := [.int gb, .int (nI t)]) (rest := []) ⟨hx, hb, hml, hown, hts⟩ (c_X3_settles l D cI cJ cZ h0 b1 b2 n y t rc gb fw (by first | assumption | omega) (by first | assumption | omega) (by first | assumption | omega)) (cwV 2 hts gX3_isLeast_X3_settles rfl rfl rfl (by decide +kernel) ⟨Nat.le_of_ble_eq_true rfl, Nat.le_of_ble_eq_true rfl⟩) ⟨pc_blind, va_recv hK hP (ci := 3) (q0 := 0) rfl rfl, fun U hU hW => ⟨rfl, by rw [hU]; exact hP.sub (ws' := [(h0, .inr (3, [.ref b1, .ref b2, .int (nI n), .int rc, .int (nI y)])), (b1, .inl (cJ, 320, .inr (.inl fw)))]) [0, 1] rfl, hKN.warm hW⟩⟩ rfl rfl hl.1 rfl (lv_room (Nat.le_of_ble_eq_true rfl)) dX3_isLeast_3 ⟨Nat.le_of_ble_eq_true rfl, Nat.le_of_ble_eq_true rfl⟩) hS hP (fun r1 H locs w1r hP hS => ?_)
  have w1 : B01 r1 (stl fw y n gb t) := w1r
  clear w1r
  rcases w1 with ⟨rfl, w1⟩ | ⟨rfl, w1⟩
  · skip
    refine lv_if_ne (tgt := 11) hx hb dX3_isLeast_6 (by decide) (fun c2 => ?_) (fun c2 => ?_)
    · skip
      refine lv_iconst (v := nI 0) hx hb dX3_isLeast_11 (by decide) ?_
      refine lv_istore_n (lv' := [(3, .int (nI 0)), (0, .ref h0), (1, .int gb), (2, .int (nI t))]) hx hb dX3_isLeast_12 rfl hl (by decide) rfl (fun ls hl => ?_)
      have loop3 : ∀ (fu : Nat) (k : Nat) (H : Heap) (locs : List Loc) (ls : Array Slot), (k ≤ n ∧ n < k + fu) → (∀ z, z < k → t / 2 ^ z % 2 = 1 → ¬ stl fw y n gb (t ^^^ 2 ^ z)) → va_P D vwCl [(h0, .inr (3, [.ref b1, .ref b2, .int (nI n), .int rc, .int (nI y)])), (b1, .inl (cJ, 320, .inr (.inl fw)))] H → va_S aN s.heap H locs → lv_has ls 4 [(3, .int (nI k)), (0, .ref h0), (1, .int gb), (2, .int (nI t))] → W p l e (headSpec wsX3_isLeast rm_c_X3_isLeast).room s m ([.ref h0, .int gb, .int (nI t)] : List Value).toArray below meth c H locs 0 0 Q (F0 m 13 ls []) := by
        intro fu
        induction fu with
        | zero => intro k H locs ls hk hi; exact absurd hk (by omega)
        | succ fu ih3 =>
          intro k H locs ls hk hi hP hS hl
          refine lv_iload_n hx hb dX3_isLeast_13 rfl (lv_at hl 0 rfl) ?_
          refine lv_aload_n hx hb dX3_isLeast_14 rfl (lv_at hl 1 rfl) ?_
          refine va_get (D := D) (ci := 3) (v := .int (nI n)) (C := RX3) (T := TX3) (N := 5) hx hb hts hiX3 hown hK hP 0 rfl rfl 2 (by decide) hf23 (fun _ h9 => h9) rfl dX3_isLeast_15 ?_
          refine lv_icmp_ge (tgt := 51) hx hb dX3_isLeast_18 (by decide) (fun c4 => ?_) (fun c4 => ?_)
          · skip
            have d4 := c4
            rw [nI_leI (by omega) (by omega)] at d4
            refine lv_iconst (v := nI 1) hx hb dX3_isLeast_51 (by decide) ?_
            rw [← hQ]
            exact W.zret (v := nI 1) hx hb hr (by first | decide | (rw [nar_b01])) (fun tS htS hWS => ⟨⟨(nI 1), (), rfl, Or.inl ⟨rfl, by assumption, fun z hz => hi z (by omega)⟩, trivial⟩, hS.F htS⟩) hS.2.2 dX3_isLeast_52
          · skip
            have d4 := c4
            rw [nI_leI (by omega) (by omega)] at d4
            refine lv_iload_n hx hb dX3_isLeast_21 rfl (lv_at hl 3 rfl) ?_
            refine lv_iload_n hx hb dX3_isLeast_22 rfl (lv_at hl 0 rfl) ?_
            refine lv_ishr hx hb dX3_isLeast_23 ?_
            refine cn_i (y := nI (t / 2 ^ k)) (m_shr (by omega) (by omega)) ?_
            refine lv_iconst (v := nI 1) hx hb dX3_isLeast_24 (by decide) ?_
            refine lv_iand hx hb dX3_isLeast_25 ?_
            refine cn_i (y := nI ((t / 2 ^ k) % 2)) (m_andn1 (by first | omega | exact Nat.lt_of_le_of_lt (Nat.div_le_self _ _) (by omega))) ?_
            refine lv_iconst (v := nI 1) hx hb dX3_isLeast_26 (by decide) ?_
            refine lv_icmp_ne (tgt := 45) hx hb dX3_isLeast_27 (by decide) (fun c5 => ?_) (fun c5 => ?_)
            · skip
              have d5 := c5
              rw [nI_eq (by omega) (by omega)] at d5
              refine lv_iinc (v := nI (k + 1)) (lv' := [(3, .int (nI (k + 1))), (0, .ref h0), (1, .int gb), (2, .int (nI t))]) hx hb dX3_isLeast_45 hl (k := 0) rfl (nI_1 k) (by decide) rfl (fun ls hl => ?_)
              refine lv_goto (tgt := 13) hx hb dX3_isLeast_48 (by decide) ?_
              exact ih3 (k + 1) _ _ _ (by omega) (fun z hz h9 => by rcases Nat.lt_or_ge z k with h | h; exact hi z h h9; exact (by have e9 : z = k := (by omega); subst e9; first | assumption | exact absurd h9 (by assumption))) hP hS (lv_sub hl [0, 1, 2, 3] rfl)
            · skip
              have d5 := c5
              rw [nI_eq (by omega) (by omega)] at d5
              refine lv_aload_n hx hb dX3_isLeast_30 rfl (lv_at hl 1 rfl) ?_
              refine lv_iload_n hx hb dX3_isLeast_31 rfl (lv_at hl 2 rfl) ?_
              refine lv_iload_n hx hb dX3_isLeast_32 rfl (lv_at hl 3 rfl) ?_
              refine lv_iconst (v := nI 1) hx hb dX3_isLeast_33 (by decide) ?_
              refine lv_iload_n hx hb dX3_isLeast_34 rfl (lv_at hl 0 rfl) ?_
              refine lv_ishl hx hb dX3_isLeast_35 ?_
              refine cn_i (y := nI (2 ^ k)) (m_shl1 (by omega)) ?_
              refine lv_ixor hx hb dX3_isLeast_36 ?_
              refine cn_i (y := nI (t ^^^ (2 ^ k))) (mb_xor t (2 ^ k)) ?_
              refine pu_i (va_runV (As := [.int gb, .int (nI (t ^^^ (2 ^ k)))]) (rest := []) ⟨hx, hb, hml, hown, hts⟩ (c_X3_settles l D cI cJ cZ h0 b1 b2 n y (t ^^^ (2 ^ k)) rc gb fw (by first | assumption | omega) (by first | assumption | omega) (by exact m_x512 ht (m_p512 (by omega)))) (cwV 2 hts gX3_isLeast_X3_settles rfl rfl rfl (by decide +kernel) ⟨Nat.le_of_ble_eq_true rfl, Nat.le_of_ble_eq_true rfl⟩) ⟨pc_blind, va_recv hK hP (ci := 3) (q0 := 0) rfl rfl, fun U hU hW => ⟨rfl, by rw [hU]; exact hP.sub (ws' := [(h0, .inr (3, [.ref b1, .ref b2, .int (nI n), .int rc, .int (nI y)])), (b1, .inl (cJ, 320, .inr (.inl fw)))]) [0, 1] rfl, hKN.warm hW⟩⟩ rfl rfl hl.1 rfl (lv_room (Nat.le_of_ble_eq_true rfl)) dX3_isLeast_37 ⟨Nat.le_of_ble_eq_true rfl, Nat.le_of_ble_eq_true rfl⟩) hS hP (fun r6 H locs w6r hP hS => ?_)
              have w6 : B01 r6 (stl fw y n gb (t ^^^ (2 ^ k))) := w6r
              clear w6r
              rcases w6 with ⟨rfl, w6⟩ | ⟨rfl, w6⟩
              · skip
                refine lv_if_eq (tgt := 45) hx hb dX3_isLeast_40 (by decide) (fun c7 => ?_) (fun c7 => ?_)
                · exact absurd c7 (by first | decide | exact nz_lt (by omega) | exact fun h => h (nz_ge (by omega)))
                · skip
                  refine lv_iconst (v := nI 0) hx hb dX3_isLeast_43 (by decide) ?_
                  rw [← hQ]
                  exact W.zret (v := nI 0) hx hb hr (by first | decide | (rw [nar_b01])) (fun tS htS hWS => ⟨⟨(nI 0), (), rfl, Or.inr ⟨rfl, fun h => absurd (by assumption) (h.2 k (by omega) (by assumption))⟩, trivial⟩, hS.F htS⟩) hS.2.2 dX3_isLeast_44
              · skip
                refine lv_if_eq (tgt := 45) hx hb dX3_isLeast_40 (by decide) (fun c8 => ?_) (fun c8 => ?_)
                · skip
                  refine lv_iinc (v := nI (k + 1)) (lv' := [(3, .int (nI (k + 1))), (0, .ref h0), (1, .int gb), (2, .int (nI t))]) hx hb dX3_isLeast_45 hl (k := 0) rfl (nI_1 k) (by decide) rfl (fun ls hl => ?_)
                  refine lv_goto (tgt := 13) hx hb dX3_isLeast_48 (by decide) ?_
                  exact ih3 (k + 1) _ _ _ (by omega) (fun z hz h9 => by rcases Nat.lt_or_ge z k with h | h; exact hi z h h9; exact (by have e9 : z = k := (by omega); subst e9; first | assumption | exact absurd h9 (by assumption))) hP hS (lv_sub hl [0, 1, 2, 3] rfl)
                · exact absurd c8 (by first | decide | exact nz_lt (by omega) | exact fun h => h (nz_ge (by omega)))
      exact loop3 (n + 1) 0 _ _ _ (by omega) (fun z hz => absurd hz (by omega)) hP hS (lv_sub hl [0, 1, 2, 3] rfl)
    · exact absurd c2 (by first | decide | exact nz_lt (by omega) | exact fun h => h (nz_ge (by omega)))
  · skip
    refine lv_if_ne (tgt := 11) hx hb dX3_isLeast_6 (by decide) (fun c9 => ?_) (fun c9 => ?_)
    · exact absurd c9 (by first | decide | exact nz_lt (by omega) | exact fun h => h (nz_ge (by omega)))
    · skip
      refine lv_iconst (v := nI 0) hx hb dX3_isLeast_9 (by decide) ?_
      rw [← hQ]
      exact W.zret (v := nI 0) hx hb hr (by first | decide | (rw [nar_b01])) (fun tS htS hWS => ⟨⟨(nI 0), (), rfl, Or.inr ⟨rfl, fun h => absurd h.1 (by assumption)⟩, trivial⟩, hS.F htS⟩) hS.2.2 dX3_isLeast_10
def rm_c_X3_countLeast : Room := { frames := 4, cells := 0, slots := 0, locals := 89 }
set_option maxHeartbeats 400000 in
set_option maxRecDepth 100000 in
theorem c_X3_countLeast (l : Launch) (D : va_G) (cI cJ cZ : ClassId) (h0 : Nat) (b1 : Nat) (b2 : Nat) (n : Nat) (y : Nat) (rc : Int32) (gb : Int32) (fw : Nat → Int64) (hn : n ≤ 9) (hy : y < 40) : Met l yX3_countLeast wsX3_countLeast rm_c_X3_countLeast (pc_ D cI cJ cZ [.ref h0, .int gb] [(h0, .inr (3, [.ref b1, .ref b2, .int (nI n), .int rc, .int (nI y)])), (b1, .inl (cJ, 320, .inr (.inl fw)))]) (va_Qi (fun (r : Int32) (_ : Unit) => True) (fun _ _ => True) aN) 0 0 aN := by
  refine Met.ofW (cc := cX3_countLeast) (maxL := 4) (ret := (some .int)) (by decide) rfl ?_
  intro p e s m args below meth c s₁ B hml hv
  obtain ⟨rfl, hP, hKN⟩ := hv
  have hK := hKN.1
  have hx := B.exec
  have hb := B.bytes
  have hr := B.returns
  have hts := atoms_spec (ws := wsX3_countLeast) B.pre
  have hown : s.vm.findClass RX3 = some m.cls := findClass_of_methodNamed B.named
  have hlocks := B.notSynchronized
  have hiX3 : ∀ w ∈ wsX30, w ∈ wsX3_countLeast := by decide +kernel
  have hf23 := hts (.fieldLink RX3 23 "LookBench$Rules" "parts" "I") (by decide +kernel)
  have hS : va_S aN s.heap s.heap [] := va_S.rf
  have hl := lv_entry ([.ref h0, .int gb]) (n := 4) (Nat.le_of_ble_eq_true rfl)
  rw [lg_entry_eq]
  generalize (lg_sl ([.ref h0, .int gb]) ++ List.replicate (4 - (lg_sl ([.ref h0, .int gb])).length) Slot.unset).toArray = ls at hl ⊢
  have hl : lv_has ls 4 [(0, .ref h0), (1, .int gb)] := hl
  generalize hQ : MQ below _ _ s _ _ _ = Q
  obtain ⟨H, hH⟩ : ∃ z, z = s.heap := ⟨_, rfl⟩
  have hP : va_P D vwCl [(h0, .inr (3, [.ref b1, .ref b2, .int (nI n), .int rc, .int (nI y)])), (b1, .inl (cJ, 320, .inr (.inl fw)))] H := by rw [hH]; exact hP
  have hS : va_S aN s.heap H [] := by rw [hH]; exact hS
  refine m_heap hH ?_
  clear hH
  have h2n := m_pow hn
  have h2p := m_powp n
  refine lv_iconst (v := nI 0) hx hb dX3_countLeast_0 (by decide) ?_
  refine lv_istore_n (lv' := [(2, .int (nI 0)), (0, .ref h0), (1, .int gb)]) hx hb dX3_countLeast_1 rfl hl (by decide) rfl (fun ls hl => ?_)
  refine lv_iconst (v := nI 0) hx hb dX3_countLeast_2 (by decide) ?_
  refine lv_istore_n (lv' := [(3, .int (nI 0)), (2, .int (nI 0)), (0, .ref h0), (1, .int gb)]) hx hb dX3_countLeast_3 rfl hl (by decide) rfl (fun ls hl => ?_)
  have loop1 : ∀ (fu : Nat) (k : Nat) (v : Int32) (H : Heap) (locs : List Loc) (ls : Array Slot), (k ≤ 2 ^ n ∧ 2 ^ n < k + fu) → va_P D vwCl [(h0, .inr (3, [.ref b1, .ref b2, .int (nI n), .int rc, .int (nI y)])), (b1, .inl (cJ, 320, .inr (.inl fw)))] H → va_S aN s.heap H locs → lv_has ls 4 [(3, .int (nI k)), (2, .int v), (0, .ref h0), (1, .int gb)] → W p l e (headSpec wsX3_countLeast rm_c_X3_countLeast).room s m ([.ref h0, .int gb] : List Value).toArray below meth c H locs 0 0 Q (F0 m 4 ls []) := by
    intro fu
    induction fu with
    | zero => intro k v H locs ls hk; exact absurd hk (by omega)
    | succ fu ih1 =>
      intro k v H locs ls hk hP hS hl
      refine lv_iload_n hx hb dX3_countLeast_4 rfl (lv_at hl 0 rfl) ?_
      refine lv_iconst (v := nI 1) hx hb dX3_countLeast_5 (by decide) ?_
      refine lv_aload_n hx hb dX3_countLeast_6 rfl (lv_at hl 2 rfl) ?_
      refine va_get (D := D) (ci := 3) (v := .int (nI n)) (C := RX3) (T := TX3) (N := 5) hx hb hts hiX3 hown hK hP 0 rfl rfl 2 (by decide) hf23 (fun _ h9 => h9) rfl dX3_countLeast_7 ?_
      refine lv_ishl hx hb dX3_countLeast_10 ?_
      refine cn_i (y := nI (2 ^ n)) (m_shl1 (by omega)) ?_
      refine lv_icmp_ge (tgt := 32) hx hb dX3_countLeast_11 (by decide) (fun c2 => ?_) (fun c2 => ?_)
      · skip
        have d2 := c2
        rw [nI_leI (by omega) (by omega)] at d2
        refine lv_iload_n hx hb dX3_countLeast_32 rfl (lv_at hl 1 rfl) ?_
        rw [← hQ]
        exact W.iret (v := v) hx hb hr (fun tS htS hWS => ⟨⟨v, (), rfl, trivial, trivial⟩, hS.F htS⟩) hS.2.2 dX3_countLeast_33
      · skip
        have d2 := c2
        rw [nI_leI (by omega) (by omega)] at d2
        refine lv_aload_n hx hb dX3_countLeast_14 rfl (lv_at hl 2 rfl) ?_
        refine lv_iload_n hx hb dX3_countLeast_15 rfl (lv_at hl 3 rfl) ?_
        refine lv_iload_n hx hb dX3_countLeast_16 rfl (lv_at hl 0 rfl) ?_
        refine pu_i (va_runV (As := [.int gb, .int (nI k)]) (rest := []) ⟨hx, hb, hml, hown, hts⟩ (c_X3_isLeast l D cI cJ cZ h0 b1 b2 n y k rc gb fw (by first | assumption | omega) (by first | assumption | omega) (by first | assumption | omega)) (cwV 2 hts gX3_countLeast_X3_isLeast rfl rfl rfl (by decide +kernel) ⟨Nat.le_of_ble_eq_true rfl, Nat.le_of_ble_eq_true rfl⟩) ⟨pc_blind, va_recv hK hP (ci := 3) (q0 := 0) rfl rfl, fun U hU hW => ⟨rfl, by rw [hU]; exact hP.sub (ws' := [(h0, .inr (3, [.ref b1, .ref b2, .int (nI n), .int rc, .int (nI y)])), (b1, .inl (cJ, 320, .inr (.inl fw)))]) [0, 1] rfl, hKN.warm hW⟩⟩ rfl rfl hl.1 rfl (lv_room (Nat.le_of_ble_eq_true rfl)) dX3_countLeast_17 ⟨Nat.le_of_ble_eq_true rfl, Nat.le_of_ble_eq_true rfl⟩) hS hP (fun r3 H locs w3r hP hS => ?_)
        have w3 : B01 r3 (lst fw y n gb k) := w3r
        clear w3r
        rcases w3 with ⟨rfl, w3⟩ | ⟨rfl, w3⟩
        · skip
          refine lv_if_eq (tgt := 26) hx hb dX3_countLeast_20 (by decide) (fun c4 => ?_) (fun c4 => ?_)
          · exact absurd c4 (by first | decide | exact nz_lt (by omega) | exact fun h => h (nz_ge (by omega)))
          · skip
            refine lv_iinc (v := (v + 1)) (lv' := [(2, .int (v + 1)), (3, .int (nI k)), (0, .ref h0), (1, .int gb)]) hx hb dX3_countLeast_23 hl (k := 1) rfl (rfl) (by decide) rfl (fun ls hl => ?_)
            refine lv_iinc (v := nI (k + 1)) (lv' := [(3, .int (nI (k + 1))), (2, .int (v + 1)), (0, .ref h0), (1, .int gb)]) hx hb dX3_countLeast_26 hl (k := 1) rfl (nI_1 k) (by decide) rfl (fun ls hl => ?_)
            refine lv_goto (tgt := 4) hx hb dX3_countLeast_29 (by decide) ?_
            exact ih1 (k + 1) (v + 1) _ _ _ (by omega) hP hS (lv_sub hl [0, 1, 2, 3] rfl)
        · skip
          refine lv_if_eq (tgt := 26) hx hb dX3_countLeast_20 (by decide) (fun c5 => ?_) (fun c5 => ?_)
          · skip
            refine lv_iinc (v := nI (k + 1)) (lv' := [(3, .int (nI (k + 1))), (2, .int v), (0, .ref h0), (1, .int gb)]) hx hb dX3_countLeast_26 hl (k := 0) rfl (nI_1 k) (by decide) rfl (fun ls hl => ?_)
            refine lv_goto (tgt := 4) hx hb dX3_countLeast_29 (by decide) ?_
            exact ih1 (k + 1) v _ _ _ (by omega) hP hS (lv_sub hl [0, 1, 2, 3] rfl)
          · exact absurd c5 (by first | decide | exact nz_lt (by omega) | exact fun h => h (nz_ge (by omega)))
  exact loop1 (2 ^ n + 1) 0 (nI 0) _ _ _ (by omega) hP hS (lv_sub hl [0, 1, 2, 3] rfl)
def rm_c_X3_findLeast : Room := { frames := 4, cells := 0, slots := 0, locals := 89 }
set_option maxHeartbeats 400000 in
set_option maxRecDepth 100000 in
theorem c_X3_findLeast (l : Launch) (D : va_G) (cI cJ cZ : ClassId) (h0 : Nat) (b1 : Nat) (b2 : Nat) (n : Nat) (y : Nat) (rc : Int32) (gb : Int32) (ii : Int32) (fw : Nat → Int64) (hn : n ≤ 9) (hy : y < 40) : Met l yX3_findLeast wsX3_findLeast rm_c_X3_findLeast (pc_ D cI cJ cZ [.ref h0, .int gb, .int ii] [(h0, .inr (3, [.ref b1, .ref b2, .int (nI n), .int rc, .int (nI y)])), (b1, .inl (cJ, 320, .inr (.inl fw)))]) (va_Qi (fun (r : Int32) (_ : Unit) => True) (fun _ _ => True) aN) 0 0 aN := by
  refine Met.ofW (cc := cX3_findLeast) (maxL := 5) (ret := (some .int)) (by decide) rfl ?_
  intro p e s m args below meth c s₁ B hml hv
  obtain ⟨rfl, hP, hKN⟩ := hv
  have hK := hKN.1
  have hx := B.exec
  have hb := B.bytes
  have hr := B.returns
  have hts := atoms_spec (ws := wsX3_findLeast) B.pre
  have hown : s.vm.findClass RX3 = some m.cls := findClass_of_methodNamed B.named
  have hlocks := B.notSynchronized
  have hiX3 : ∀ w ∈ wsX30, w ∈ wsX3_findLeast := by decide +kernel
  have hf23 := hts (.fieldLink RX3 23 "LookBench$Rules" "parts" "I") (by decide +kernel)
  have hS : va_S aN s.heap s.heap [] := va_S.rf
  have hl := lv_entry ([.ref h0, .int gb, .int ii]) (n := 5) (Nat.le_of_ble_eq_true rfl)
  rw [lg_entry_eq]
  generalize (lg_sl ([.ref h0, .int gb, .int ii]) ++ List.replicate (5 - (lg_sl ([.ref h0, .int gb, .int ii])).length) Slot.unset).toArray = ls at hl ⊢
  have hl : lv_has ls 5 [(0, .ref h0), (1, .int gb), (2, .int ii)] := hl
  generalize hQ : MQ below _ _ s _ _ _ = Q
  obtain ⟨H, hH⟩ : ∃ z, z = s.heap := ⟨_, rfl⟩
  have hP : va_P D vwCl [(h0, .inr (3, [.ref b1, .ref b2, .int (nI n), .int rc, .int (nI y)])), (b1, .inl (cJ, 320, .inr (.inl fw)))] H := by rw [hH]; exact hP
  have hS : va_S aN s.heap H [] := by rw [hH]; exact hS
  refine m_heap hH ?_
  clear hH
  have h2n := m_pow hn
  have h2p := m_powp n
  refine lv_iconst (v := nI 0) hx hb dX3_findLeast_0 (by decide) ?_
  refine lv_istore_n (lv' := [(3, .int (nI 0)), (0, .ref h0), (1, .int gb), (2, .int ii)]) hx hb dX3_findLeast_1 rfl hl (by decide) rfl (fun ls hl => ?_)
  refine lv_iconst (v := nI 0) hx hb dX3_findLeast_2 (by decide) ?_
  refine lv_istore (lv' := [(4, .int (nI 0)), (3, .int (nI 0)), (0, .ref h0), (1, .int gb), (2, .int ii)]) hx hb dX3_findLeast_3 hl (by decide) rfl (fun ls hl => ?_)
  have loop1 : ∀ (fu : Nat) (k : Nat) (v : Int32) (H : Heap) (locs : List Loc) (ls : Array Slot), (k ≤ 2 ^ n ∧ 2 ^ n < k + fu) → va_P D vwCl [(h0, .inr (3, [.ref b1, .ref b2, .int (nI n), .int rc, .int (nI y)])), (b1, .inl (cJ, 320, .inr (.inl fw)))] H → va_S aN s.heap H locs → lv_has ls 5 [(4, .int (nI k)), (3, .int v), (0, .ref h0), (1, .int gb), (2, .int ii)] → W p l e (headSpec wsX3_findLeast rm_c_X3_findLeast).room s m ([.ref h0, .int gb, .int ii] : List Value).toArray below meth c H locs 0 0 Q (F0 m 5 ls []) := by
    intro fu
    induction fu with
    | zero => intro k v H locs ls hk; exact absurd hk (by omega)
    | succ fu ih1 =>
      intro k v H locs ls hk hP hS hl
      refine lv_iload hx hb dX3_findLeast_5 (lv_at hl 0 rfl) ?_
      refine lv_iconst (v := nI 1) hx hb dX3_findLeast_7 (by decide) ?_
      refine lv_aload_n hx hb dX3_findLeast_8 rfl (lv_at hl 2 rfl) ?_
      refine va_get (D := D) (ci := 3) (v := .int (nI n)) (C := RX3) (T := TX3) (N := 5) hx hb hts hiX3 hown hK hP 0 rfl rfl 2 (by decide) hf23 (fun _ h9 => h9) rfl dX3_findLeast_9 ?_
      refine lv_ishl hx hb dX3_findLeast_12 ?_
      refine cn_i (y := nI (2 ^ n)) (m_shl1 (by omega)) ?_
      refine lv_icmp_ge (tgt := 43) hx hb dX3_findLeast_13 (by decide) (fun c2 => ?_) (fun c2 => ?_)
      · skip
        have d2 := c2
        rw [nI_leI (by omega) (by omega)] at d2
        refine lv_iconst (v := (-1 : Int32)) hx hb dX3_findLeast_43 (by decide) ?_
        rw [← hQ]
        exact W.iret (v := (-1 : Int32)) hx hb hr (fun tS htS hWS => ⟨⟨(-1 : Int32), (), rfl, trivial, trivial⟩, hS.F htS⟩) hS.2.2 dX3_findLeast_44
      · skip
        have d2 := c2
        rw [nI_leI (by omega) (by omega)] at d2
        refine lv_aload_n hx hb dX3_findLeast_16 rfl (lv_at hl 2 rfl) ?_
        refine lv_iload_n hx hb dX3_findLeast_17 rfl (lv_at hl 3 rfl) ?_
        refine lv_iload hx hb dX3_findLeast_18 (lv_at hl 0 rfl) ?_
        refine pu_i (va_runV (As := [.int gb, .int (nI k)]) (rest := []) ⟨hx, hb, hml, hown, hts⟩ (c_X3_isLeast l D cI cJ cZ h0 b1 b2 n y k rc gb fw (by first | assumption | omega) (by first | assumption | omega) (by first | assumption | omega)) (cwV 2 hts gX3_findLeast_X3_isLeast rfl rfl rfl (by decide +kernel) ⟨Nat.le_of_ble_eq_true rfl, Nat.le_of_ble_eq_true rfl⟩) ⟨pc_blind, va_recv hK hP (ci := 3) (q0 := 0) rfl rfl, fun U hU hW => ⟨rfl, by rw [hU]; exact hP.sub (ws' := [(h0, .inr (3, [.ref b1, .ref b2, .int (nI n), .int rc, .int (nI y)])), (b1, .inl (cJ, 320, .inr (.inl fw)))]) [0, 1] rfl, hKN.warm hW⟩⟩ rfl rfl hl.1 rfl (lv_room (Nat.le_of_ble_eq_true rfl)) dX3_findLeast_20 ⟨Nat.le_of_ble_eq_true rfl, Nat.le_of_ble_eq_true rfl⟩) hS hP (fun r3 H locs w3r hP hS => ?_)
        have w3 : B01 r3 (lst fw y n gb k) := w3r
        clear w3r
        rcases w3 with ⟨rfl, w3⟩ | ⟨rfl, w3⟩
        · skip
          refine lv_if_eq (tgt := 37) hx hb dX3_findLeast_23 (by decide) (fun c4 => ?_) (fun c4 => ?_)
          · exact absurd c4 (by first | decide | exact nz_lt (by omega) | exact fun h => h (nz_ge (by omega)))
          · skip
            refine lv_iload_n hx hb dX3_findLeast_26 rfl (lv_at hl 1 rfl) ?_
            refine lv_iload_n hx hb dX3_findLeast_27 rfl (lv_at hl 4 rfl) ?_
            refine lv_icmp_ne (tgt := 34) hx hb dX3_findLeast_28 (by decide) (fun c5 => ?_) (fun c5 => ?_)
            · skip
              refine lv_iinc (v := (v + 1)) (lv' := [(3, .int (v + 1)), (4, .int (nI k)), (0, .ref h0), (1, .int gb), (2, .int ii)]) hx hb dX3_findLeast_34 hl (k := 1) rfl (rfl) (by decide) rfl (fun ls hl => ?_)
              refine lv_iinc (v := nI (k + 1)) (lv' := [(4, .int (nI (k + 1))), (3, .int (v + 1)), (0, .ref h0), (1, .int gb), (2, .int ii)]) hx hb dX3_findLeast_37 hl (k := 1) rfl (nI_1 k) (by decide) rfl (fun ls hl => ?_)
              refine lv_goto (tgt := 5) hx hb dX3_findLeast_40 (by decide) ?_
              exact ih1 (k + 1) (v + 1) _ _ _ (by omega) hP hS (lv_sub hl [0, 1, 2, 3, 4] rfl)
            · skip
              refine lv_iload hx hb dX3_findLeast_31 (lv_at hl 0 rfl) ?_
              rw [← hQ]
              exact W.iret (v := nI k) hx hb hr (fun tS htS hWS => ⟨⟨(nI k), (), rfl, trivial, trivial⟩, hS.F htS⟩) hS.2.2 dX3_findLeast_33
        · skip
          refine lv_if_eq (tgt := 37) hx hb dX3_findLeast_23 (by decide) (fun c6 => ?_) (fun c6 => ?_)
          · skip
            refine lv_iinc (v := nI (k + 1)) (lv' := [(4, .int (nI (k + 1))), (3, .int v), (0, .ref h0), (1, .int gb), (2, .int ii)]) hx hb dX3_findLeast_37 hl (k := 0) rfl (nI_1 k) (by decide) rfl (fun ls hl => ?_)
            refine lv_goto (tgt := 5) hx hb dX3_findLeast_40 (by decide) ?_
            exact ih1 (k + 1) v _ _ _ (by omega) hP hS (lv_sub hl [0, 1, 2, 3, 4] rfl)
          · exact absurd c6 (by first | decide | exact nz_lt (by omega) | exact fun h => h (nz_ge (by omega)))
  exact loop1 (2 ^ n + 1) 0 (nI 0) _ _ _ (by omega) hP hS (lv_sub hl [0, 1, 2, 3, 4] rfl)
