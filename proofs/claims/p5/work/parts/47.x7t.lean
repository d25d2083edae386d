
theorem dig_low {cv x d z : Nat} (h : z < x) : (cv + 3 ^ x * d) / 3 ^ z % 3 = cv / 3 ^ z % 3 := by
  have e : 3 ^ x = 3 ^ z * (3 * 3 ^ (x - z - 1)) := by
    rw [← Nat.pow_succ', ← Nat.pow_add]
    congr 1
    omega
  rw [e, Nat.mul_assoc, Nat.add_mul_div_left cv _ (m_p3p z), Nat.mul_assoc, Nat.add_mul_mod_self_left]
theorem nowN_digit {fn : Nat → Int32} : ∀ (n j : Nat), j < n → nowN fn n / 3 ^ j % 3 = (if fn j = nI 1 then 1 else if fn j = 0 then 2 else 0)
  | 0, j, h => absurd h (by omega)
  | k + 1, j, h => by
    show (nowN fn k + 3 ^ k * (if fn k = nI 1 then 1 else if fn k = 0 then 2 else 0)) / 3 ^ j % 3 = _
    rcases Nat.lt_or_ge j k with g | g
    · rw [dig_low g]; exact nowN_digit k j g
    · have e : j = k := by omega
      subst e
      rw [Nat.add_mul_div_left _ _ (m_p3p j), Nat.div_eq_of_lt (nowN_lt fn j), Nat.zero_add]
      apply Nat.mod_eq_of_lt
      split <;> (try split) <;> omega
theorem nowN_dig {fn : Nat → Int32} {n j : Nat} (h : fn j = -1) (hj : j < n) : nowN fn n / 3 ^ j % 3 = 0 := by
  rw [nowN_digit n j hj, h]
  decide
def rm_c_X7_told_g : Room := { frames := 5, cells := 0, slots := 0, locals := 119 }
set_option maxHeartbeats 400000 in
set_option maxRecDepth 100000 in
theorem c_X7_told_g (l : Launch) (D : va_G) (cI cJ cZ : ClassId) (m0 : Nat) (g1 : Nat) (g2 : Nat) (g3 : Nat) (g4 : Nat) (g5 : Nat) (g6 : Nat) (g7 : Nat) (g8 : Nat) (g9 : Nat) (g10 : Nat) (g11 : Nat) (g12 : Nat) (n : Nat) (y : Nat) (q : Nat) (mr : Int32) (ml : Int32) (wh : Int32) (fg : Nat → Int32) (fb : Nat → Int32) (fp : Nat → Int32) (fs : Nat → Int32) (fn : Nat → Int32) (fo : Nat → Int32) (th : Nat → Int32) (eb : Nat → Int64) (en : Nat → Int32) (ew : Nat → Int32) (ex : Nat → Int32) (hn : n ≤ 9) (h1n : 1 ≤ n) (hy : y < 40) (hq : q ≤ 9) (hfo : ∀ z, z < q → ∃ x, x < n ∧ fo z = nI x) (hth : ∀ z, z < 9 → th z = nI (3 ^ z)) (h01 : T01 fs) : Met l yX7_told wsX7_told rm_c_X7_told_g (pm_ D cI cJ cZ [.ref m0, .int wh] [(m0, .inr (7, [.int (nI n), .ref g1, .ref g2, .ref g3, .int mr, .ref g4, .int (nI y), .ref g5, .int (nI q), .ref g6, .int ml, .ref g7, .ref g8, .ref g9, .ref g10, .ref g11, .ref g12])), (g1, .inl (cI, 9, .inl fg)), (g2, .inl (cI, 9, .inl fb)), (g3, .inl (cI, 9, .inl fp)), (g4, .inl (cZ, 20480, .inl fs)), (g5, .inl (cI, 9, .inl fn)), (g6, .inl (cI, 9, .inl fo)), (g12, .inl (cI, 9, .inl th)), (g8, .inl (cJ, 19683, .inr (.inl eb))), (g9, .inl (cI, 19683, .inl en)), (g10, .inl (cI, 19683, .inl ew)), (g11, .inl (cI, 19683, .inl ex))]) (va_Ql (fun (r : Int64) (u : (Nat → Int64) × (Nat → Int32) × (Nat → Int32) × (Nat → Int32)) => True) (fun (u : (Nat → Int64) × (Nat → Int32) × (Nat → Int32) × (Nat → Int32)) tS => va_P D vwCl [(m0, .inr (7, [.int (nI n), .ref g1, .ref g2, .ref g3, .int mr, .ref g4, .int (nI y), .ref g5, .int (nI q), .ref g6, .int ml, .ref g7, .ref g8, .ref g9, .ref g10, .ref g11, .ref g12])), (g1, .inl (cI, 9, .inl fg)), (g2, .inl (cI, 9, .inl fb)), (g3, .inl (cI, 9, .inl fp)), (g4, .inl (cZ, 20480, .inl fs)), (g5, .inl (cI, 9, .inl fn)), (g6, .inl (cI, 9, .inl fo)), (g12, .inl (cI, 9, .inl th)), (g8, .inl (cJ, 19683, .inr (.inl u.1))), (g9, .inl (cI, 19683, .inl u.2.1)), (g10, .inl (cI, 19683, .inl u.2.2.1)), (g11, .inl (cI, 19683, .inl u.2.2.2))] tS.heap) (aA [m0, g1, g2, g3, g4, g5, g6, g12, g8, g9, g10, g11])) 0 0 (aA [m0, g1, g2, g3, g4, g5, g6, g12, g8, g9, g10, g11]) := by
  refine Met.ofW (cc := cX7_told) (maxL := 7) (ret := (some .long)) (by decide) rfl ?_
  intro p e s m args below meth c s₁ B hml hv
  obtain ⟨rfl, hP, hKN, hD0⟩ := hv
  have hK := hKN.1
  have hx := B.exec
  have hb := B.bytes
  have hr := B.returns
  have hts := atoms_spec (ws := wsX7_told) B.pre
  have hown : s.vm.findClass RX7 = some m.cls := findClass_of_methodNamed B.named
  have hlocks := B.notSynchronized
  have hiX7 : ∀ w ∈ wsX70, w ∈ wsX7_told := by decide +kernel
  have hf27 := hts (.fieldLink RX7 27 "LookBenchModel" "system" "I") (by decide +kernel)
  have hf39 := hts (.fieldLink RX7 39 "LookBenchModel" "best" "[J") (by decide +kernel)
  have hf43 := hts (.fieldLink RX7 43 "LookBenchModel" "bestNext" "[I") (by decide +kernel)
  have hf46 := hts (.fieldLink RX7 46 "LookBenchModel" "worst" "[I") (by decide +kernel)
  have hf49 := hts (.fieldLink RX7 49 "LookBenchModel" "worstNext" "[I") (by decide +kernel)
  obtain ⟨as, has⟩ : ∃ z : List Nat, z = [m0, g1, g2, g3, g4, g5, g6, g12, g8, g9, g10, g11] := ⟨_, rfl⟩
  have hD := hD0.addr (as := as) (by rw [has]; rfl)
  have hS : va_S (aA as) s.heap s.heap [] := va_S.rf
  have hl := lv_entry ([.ref m0, .int wh]) (n := 7) (Nat.le_of_ble_eq_true rfl)
  rw [lg_entry_eq]
  generalize (lg_sl ([.ref m0, .int wh]) ++ List.replicate (7 - (lg_sl ([.ref m0, .int wh])).length) Slot.unset).toArray = ls at hl ⊢
  have hl : lv_has ls 7 [(0, .ref m0), (1, .int wh)] := hl
  generalize hQ : MQ below _ _ s _ _ _ = Q
  obtain ⟨H, hH⟩ : ∃ z, z = s.heap := ⟨_, rfl⟩
  have hP : va_P D vwCl [(m0, .inr (7, [.int (nI n), .ref g1, .ref g2, .ref g3, .int mr, .ref g4, .int (nI y), .ref g5, .int (nI q), .ref g6, .int ml, .ref g7, .ref g8, .ref g9, .ref g10, .ref g11, .ref g12])), (g1, .inl (cI, 9, .inl fg)), (g2, .inl (cI, 9, .inl fb)), (g3, .inl (cI, 9, .inl fp)), (g4, .inl (cZ, 20480, .inl fs)), (g5, .inl (cI, 9, .inl fn)), (g6, .inl (cI, 9, .inl fo)), (g12, .inl (cI, 9, .inl th)), (g8, .inl (cJ, 19683, .inr (.inl eb))), (g9, .inl (cI, 19683, .inl en)), (g10, .inl (cI, 19683, .inl ew)), (g11, .inl (cI, 19683, .inl ex))] H := by rw [hH]; exact hP
  have hS : va_S (aA as) s.heap H [] := by rw [hH]; exact hS
  refine m_heap hH ?_
  clear hH
  have h2n := m_pow hn
  have h2p := m_powp n
  have h3n := m_p3 hn
  have hnl := nowN_lt fn n
  refine lv_aload_n hx hb dX7_told_0 rfl (lv_at hl 0 rfl) ?_
  refine pu_i (va_runV (As := []) (rest := []) ⟨hx, hb, hml, hown, hts⟩ (c_X7_now_g l D cI cJ cZ m0 g1 g2 g3 g4 g5 g6 g7 g8 g9 g10 g11 g12 n mr (nI y) (nI q) ml fn th (by first | assumption | omega) (by first | assumption | omega)) (cwV 0 hts gX7_told_X7_now rfl rfl rfl (by decide +kernel) ⟨Nat.le_of_ble_eq_true rfl, Nat.le_of_ble_eq_true rfl⟩) ⟨pc_blind, va_recv hK hP (ci := 7) (q0 := 0) rfl rfl, fun U hU hW => ⟨rfl, by rw [hU]; exact hP.sub (ws' := [(m0, .inr (7, [.int (nI n), .ref g1, .ref g2, .ref g3, .int mr, .ref g4, .int (nI y), .ref g5, .int (nI q), .ref g6, .int ml, .ref g7, .ref g8, .ref g9, .ref g10, .ref g11, .ref g12])), (g5, .inl (cI, 9, .inl fn)), (g12, .inl (cI, 9, .inl th))]) [0, 5, 7] rfl, hKN.warm hW⟩⟩ rfl rfl hl.1 rfl (lv_room (Nat.le_of_ble_eq_true rfl)) dX7_told_1 ⟨Nat.le_of_ble_eq_true rfl, Nat.le_of_ble_eq_true rfl⟩) hS hP (fun r1 H locs w1r hP hS => ?_)
  have w1 : r1 = nI (nowN fn n) := w1r
  clear w1r
  obtain rfl : r1 = nI (nowN fn n) := w1
  refine lv_istore_n (lv' := [(2, .int (nI (nowN fn n))), (0, .ref m0), (1, .int wh)]) hx hb dX7_told_4 rfl hl (by decide) rfl (fun ls hl => ?_)
  refine lv_iload_n hx hb dX7_told_5 rfl (lv_at hl 2 rfl) ?_
  refine lv_if_ne (tgt := 15) hx hb dX7_told_6 (by decide) (fun c2 => ?_) (fun c2 => ?_)
  · skip
    refine lv_aload_n hx hb dX7_told_15 rfl (lv_at hl 1 rfl) ?_
    refine va_get (D := D) (ci := 7) (v := .int (nI y)) (C := RX7) (T := TX7) (N := 17) hx hb hts hiX7 hown hK hP 0 rfl rfl 6 (by decide) hf27 (fun _ h9 => h9) rfl dX7_told_16 ?_
    refine lv_if_lt (tgt := 34) hx hb dX7_told_19 (by decide) (fun c3 => ?_) (fun c3 => ?_)
    · exact absurd c3 (by first | decide | exact nz_lt (by omega) | exact fun h => h (nz_ge (by omega)))
    · skip
      refine lv_iload_n hx hb dX7_told_22 rfl (lv_at hl 2 rfl) ?_
      refine lv_i2l hx hb dX7_told_23 rfl ?_
      refine lv_lconst (v := lN 1) hx hb dX7_told_24 (by decide) ?_
      refine lv_ldc2 (v := lN 8) hx hb hown (hts (.constantLong RX7 130 (lN 8)) (by decide +kernel)) dX7_told_25 ?_
      refine pu_i (va_runS (As := [.long wh.toInt64, .long (lN 1), .long (lN 8)]) (rest := []) ⟨hx, hb, hml, hown, hts⟩ (c_X7_in l D cI cJ cZ wh.toInt64 (lN 1) (lN 8)) (va_cwS 3 hts gX7_told_X7_in rfl rfl rfl (by decide +kernel) ⟨Nat.le_of_ble_eq_true rfl, Nat.le_of_ble_eq_true rfl⟩) ⟨pc_blind, fun U hU hW => ⟨rfl, by rw [hU]; exact hP.sub (ws' := []) [] rfl, hKN.warm hW⟩⟩ rfl rfl hl.1 rfl (lv_room (Nat.le_of_ble_eq_true rfl)) dX7_told_28 ⟨Nat.le_of_ble_eq_true rfl, Nat.le_of_ble_eq_true rfl⟩) hS hP (fun r4 H locs w4r hP hS => ?_)
      have w4 : B01 r4 ((lN 1).toInt ≤ wh.toInt64.toInt ∧ wh.toInt64.toInt ≤ (lN 8).toInt) := w4r
      clear w4r
      rw [lN_toInt (n := 1) (by omega), j2 wh, lN_toInt (n := 8) (by omega)] at w4
      rcases w4 with ⟨rfl, w4⟩ | ⟨rfl, w4⟩
      · skip
        refine lv_if_ne (tgt := 38) hx hb dX7_told_31 (by decide) (fun c5 => ?_) (fun c5 => ?_)
        · skip
          refine lv_iload_n hx hb dX7_told_38 rfl (lv_at hl 2 rfl) ?_
          refine lv_i2l hx hb dX7_told_39 rfl ?_
          refine lv_ldc2 (v := lN 2) hx hb hown (hts (.constantLong RX7 134 (lN 2)) (by decide +kernel)) dX7_told_40 ?_
          refine lv_ldc2 (v := lN 5) hx hb hown (hts (.constantLong RX7 136 (lN 5)) (by decide +kernel)) dX7_told_43 ?_
          refine pu_i (va_runS (As := [.long wh.toInt64, .long (lN 2), .long (lN 5)]) (rest := []) ⟨hx, hb, hml, hown, hts⟩ (c_X7_in l D cI cJ cZ wh.toInt64 (lN 2) (lN 5)) (va_cwS 3 hts gX7_told_X7_in rfl rfl rfl (by decide +kernel) ⟨Nat.le_of_ble_eq_true rfl, Nat.le_of_ble_eq_true rfl⟩) ⟨pc_blind, fun U hU hW => ⟨rfl, by rw [hU]; exact hP.sub (ws' := []) [] rfl, hKN.warm hW⟩⟩ rfl rfl hl.1 rfl (lv_room (Nat.le_of_ble_eq_true rfl)) dX7_told_46 ⟨Nat.le_of_ble_eq_true rfl, Nat.le_of_ble_eq_true rfl⟩) hS hP (fun r6 H locs w6r hP hS => ?_)
          have w6 : B01 r6 ((lN 2).toInt ≤ wh.toInt64.toInt ∧ wh.toInt64.toInt ≤ (lN 5).toInt) := w6r
          clear w6r
          rw [lN_toInt (n := 2) (by omega), j2 wh, lN_toInt (n := 5) (by omega)] at w6
          rcases w6 with ⟨rfl, w6⟩ | ⟨rfl, w6⟩
          · skip
            refine lv_if_eq (tgt := 108) hx hb dX7_told_49 (by decide) (fun c7 => ?_) (fun c7 => ?_)
            · exact absurd c7 (by first | decide | exact nz_lt (by omega) | exact fun h => h (nz_ge (by omega)))
            · skip
              refine lv_aload_n hx hb dX7_told_52 rfl (lv_at hl 1 rfl) ?_
              refine mu2_v (n := 12) (wc := [(m0, .inr (7, [.int (nI n), .ref g1, .ref g2, .ref g3, .int mr, .ref g4, .int (nI y), .ref g5, .int (nI q), .ref g6, .int ml, .ref g7, .ref g8, .ref g9, .ref g10, .ref g11, .ref g12])), (g1, .inl (cI, 9, .inl fg)), (g2, .inl (cI, 9, .inl fb)), (g3, .inl (cI, 9, .inl fp)), (g4, .inl (cZ, 20480, .inl fs)), (g12, .inl (cI, 9, .inl th)), (g8, .inl (cJ, 19683, .inr (.inl eb))), (g9, .inl (cI, 19683, .inl en)), (g10, .inl (cI, 19683, .inl ew)), (g11, .inl (cI, 19683, .inl ex))]) (wr := [(g5, .inl (cI, 9, .inl fn)), (g6, .inl (cI, 9, .inl fo))]) (as0 := [m0, g1, g2, g3, g4, g5, g6, g12, g8, g9, g10, g11]) (va_runV (As := []) (rest := []) ⟨hx, hb, hml, hown, hts⟩ (c_X7_plans l D cI cJ cZ m0 g1 g2 g3 g4 g5 g6 g7 g8 g9 g10 g11 g12 n y mr (nI q) ml fg fb fp fs th eb en ew ex (by first | assumption | omega) (by first | assumption | omega) (by first | assumption | omega) (by first | assumption | omega) (by first | assumption | omega)) (cwV 0 hts gX7_told_X7_plans rfl rfl rfl (by decide +kernel) ⟨Nat.le_of_ble_eq_true rfl, Nat.le_of_ble_eq_true rfl⟩) ⟨pm_blind, va_recv hK hP (ci := 7) (q0 := 0) rfl rfl, fun U hU hW => ⟨rfl, by rw [hU]; exact hP.sub (ws' := [(m0, .inr (7, [.int (nI n), .ref g1, .ref g2, .ref g3, .int mr, .ref g4, .int (nI y), .ref g5, .int (nI q), .ref g6, .int ml, .ref g7, .ref g8, .ref g9, .ref g10, .ref g11, .ref g12])), (g1, .inl (cI, 9, .inl fg)), (g2, .inl (cI, 9, .inl fb)), (g3, .inl (cI, 9, .inl fp)), (g4, .inl (cZ, 20480, .inl fs)), (g12, .inl (cI, 9, .inl th)), (g8, .inl (cJ, 19683, .inr (.inl eb))), (g9, .inl (cI, 19683, .inl en)), (g10, .inl (cI, 19683, .inl ew)), (g11, .inl (cI, 19683, .inl ex))]) [0, 1, 2, 3, 4, 7, 8, 9, 10, 11] rfl, hKN.warm hW, (hD.sub (ws' := [(m0, .inr (7, [.int (nI n), .ref g1, .ref g2, .ref g3, .int mr, .ref g4, .int (nI y), .ref g5, .int (nI q), .ref g6, .int ml, .ref g7, .ref g8, .ref g9, .ref g10, .ref g11, .ref g12])), (g1, .inl (cI, 9, .inl fg)), (g2, .inl (cI, 9, .inl fb)), (g3, .inl (cI, 9, .inl fp)), (g4, .inl (cZ, 20480, .inl fs)), (g12, .inl (cI, 9, .inl th)), (g8, .inl (cJ, 19683, .inr (.inl eb))), (g9, .inl (cI, 19683, .inl en)), (g10, .inl (cI, 19683, .inl ew)), (g11, .inl (cI, 19683, .inl ex))]) [0, 1, 2, 3, 4, 7, 8, 9, 10, 11] (by decide) rfl).weaken (fun _ _ _ _ => trivial)⟩⟩ rfl rfl hl.1 rfl (lv_room (Nat.le_of_ble_eq_true rfl)) dX7_told_53 ⟨Nat.le_of_ble_eq_true rfl, Nat.le_of_ble_eq_true rfl⟩) hS hP hD (fun (u : (Nat → Int64) × (Nat → Int32) × (Nat → Int32) × (Nat → Int32)) => [(m0, .inr (7, [.int (nI n), .ref g1, .ref g2, .ref g3, .int mr, .ref g4, .int (nI y), .ref g5, .int (nI q), .ref g6, .int ml, .ref g7, .ref g8, .ref g9, .ref g10, .ref g11, .ref g12])), (g1, .inl (cI, 9, .inl fg)), (g2, .inl (cI, 9, .inl fb)), (g3, .inl (cI, 9, .inl fp)), (g4, .inl (cZ, 20480, .inl fs)), (g5, .inl (cI, 9, .inl fn)), (g6, .inl (cI, 9, .inl fo)), (g12, .inl (cI, 9, .inl th)), (g8, .inl (cJ, 19683, .inr (.inl u.1))), (g9, .inl (cI, 19683, .inl u.2.1)), (g10, .inl (cI, 19683, .inl u.2.2.1)), (g11, .inl (cI, 19683, .inl u.2.2.2))]) [0, 1, 2, 3, 4, 7, 8, 9, 10, 11] [5, 6] rfl rfl rfl (fun _ => rfl) (fun _ => rfl) rfl (fun _ => rfl) (fun _ => rfl) (m_cov rfl) (m_dis rfl) (fun u8 H locs w8r hP hD hS => ?_)
              obtain ⟨u8_ub, u8_un, u8_uw, u8_ux⟩ := u8
              have hP : va_P D vwCl [(m0, .inr (7, [.int (nI n), .ref g1, .ref g2, .ref g3, .int mr, .ref g4, .int (nI y), .ref g5, .int (nI q), .ref g6, .int ml, .ref g7, .ref g8, .ref g9, .ref g10, .ref g11, .ref g12])), (g1, .inl (cI, 9, .inl fg)), (g2, .inl (cI, 9, .inl fb)), (g3, .inl (cI, 9, .inl fp)), (g4, .inl (cZ, 20480, .inl fs)), (g5, .inl (cI, 9, .inl fn)), (g6, .inl (cI, 9, .inl fo)), (g12, .inl (cI, 9, .inl th)), (g8, .inl (cJ, 19683, .inr (.inl u8_ub))), (g9, .inl (cI, 19683, .inl u8_un)), (g10, .inl (cI, 19683, .inl u8_uw)), (g11, .inl (cI, 19683, .inl u8_ux))] H := hP
              have hD : va_D (aA as) [(m0, .inr (7, [.int (nI n), .ref g1, .ref g2, .ref g3, .int mr, .ref g4, .int (nI y), .ref g5, .int (nI q), .ref g6, .int ml, .ref g7, .ref g8, .ref g9, .ref g10, .ref g11, .ref g12])), (g1, .inl (cI, 9, .inl fg)), (g2, .inl (cI, 9, .inl fb)), (g3, .inl (cI, 9, .inl fp)), (g4, .inl (cZ, 20480, .inl fs)), (g5, .inl (cI, 9, .inl fn)), (g6, .inl (cI, 9, .inl fo)), (g12, .inl (cI, 9, .inl th)), (g8, .inl (cJ, 19683, .inr (.inl u8_ub))), (g9, .inl (cI, 19683, .inl u8_un)), (g10, .inl (cI, 19683, .inl u8_uw)), (g11, .inl (cI, 19683, .inl u8_ux))] := hD
              have w8 : ∀ z, z < 3 ^ n → VV fs y n u8_un u8_ux z := w8r
              clear w8r
              refine lv_iload_n hx hb dX7_told_56 rfl (lv_at hl 2 rfl) ?_
              refine lv_iconst (v := nI 2) hx hb dX7_told_57 (by decide) ?_
              refine lv_icmp_ne (tgt := 70) hx hb dX7_told_58 (by decide) (fun c9 => ?_) (fun c9 => ?_)
              · skip
                refine lv_iload_n hx hb dX7_told_70 rfl (lv_at hl 2 rfl) ?_
                refine lv_iconst (v := nI 3) hx hb dX7_told_71 (by decide) ?_
                refine lv_icmp_ne (tgt := 85) hx hb dX7_told_72 (by decide) (fun c10 => ?_) (fun c10 => ?_)
                · skip
                  refine lv_iload_n hx hb dX7_told_85 rfl (lv_at hl 2 rfl) ?_
                  refine lv_iconst (v := nI 4) hx hb dX7_told_86 (by decide) ?_
                  refine lv_icmp_ne (tgt := 100) hx hb dX7_told_87 (by decide) (fun c11 => ?_) (fun c11 => ?_)
                  · skip
                    refine lv_aload_n hx hb dX7_told_100 rfl (lv_at hl 1 rfl) ?_
                    refine va_get (D := D) (ci := 7) (v := .ref g11) (C := RX7) (T := TX7) (N := 17) hx hb hts hiX7 hown hK hP 0 rfl rfl 15 (by decide) hf49 (fun _ h9 => h9) rfl dX7_told_101 ?_
                    refine lv_iload_n hx hb dX7_told_104 rfl (lv_at hl 0 rfl) ?_
                    refine va_iald hx hb hK hP 11 0 rfl rfl (i := nI (nowN fn n)) (vp_in_nI (by omega) (by omega)) dX7_told_105 ?_
                    refine cn_i (y := u8_ux (nowN fn n)) (congrArg u8_ux (nI_clamp (by omega))) ?_
                    refine lv_i2l hx hb dX7_told_106 rfl ?_
                    rw [← hQ]
                    exact W.lret (v := (u8_ux (nowN fn n)).toInt64) hx hb hr (fun tS htS hWS => ⟨⟨((u8_ux (nowN fn n)).toInt64), (u8_ub, u8_un, u8_uw, u8_ux), rfl, trivial, m_at htS hP⟩, by rw [← has]; exact hS.F htS⟩) (by rw [← has]; exact hS.2.2) dX7_told_107
                  · skip
                    refine lv_aload_n hx hb dX7_told_90 rfl (lv_at hl 1 rfl) ?_
                    refine va_get (D := D) (ci := 7) (v := .ref g10) (C := RX7) (T := TX7) (N := 17) hx hb hts hiX7 hown hK hP 0 rfl rfl 14 (by decide) hf46 (fun _ h9 => h9) rfl dX7_told_91 ?_
                    refine lv_iload_n hx hb dX7_told_94 rfl (lv_at hl 0 rfl) ?_
                    refine va_iald hx hb hK hP 10 0 rfl rfl (i := nI (nowN fn n)) (vp_in_nI (by omega) (by omega)) dX7_told_95 ?_
                    refine cn_i (y := u8_uw (nowN fn n)) (congrArg u8_uw (nI_clamp (by omega))) ?_
                    refine lv_i2l hx hb dX7_told_96 rfl ?_
                    refine lv_goto (tgt := 107) hx hb dX7_told_97 (by decide) ?_
                    rw [← hQ]
                    exact W.lret (v := (u8_uw (nowN fn n)).toInt64) hx hb hr (fun tS htS hWS => ⟨⟨((u8_uw (nowN fn n)).toInt64), (u8_ub, u8_un, u8_uw, u8_ux), rfl, trivial, m_at htS hP⟩, by rw [← has]; exact hS.F htS⟩) (by rw [← has]; exact hS.2.2) dX7_told_107
                · skip
                  refine lv_aload_n hx hb dX7_told_75 rfl (lv_at hl 1 rfl) ?_
                  refine va_get (D := D) (ci := 7) (v := .ref g9) (C := RX7) (T := TX7) (N := 17) hx hb hts hiX7 hown hK hP 0 rfl rfl 13 (by decide) hf43 (fun _ h9 => h9) rfl dX7_told_76 ?_
                  refine lv_iload_n hx hb dX7_told_79 rfl (lv_at hl 0 rfl) ?_
                  refine va_iald hx hb hK hP 9 0 rfl rfl (i := nI (nowN fn n)) (vp_in_nI (by omega) (by omega)) dX7_told_80 ?_
                  refine cn_i (y := u8_un (nowN fn n)) (congrArg u8_un (nI_clamp (by omega))) ?_
                  refine lv_i2l hx hb dX7_told_81 rfl ?_
                  refine lv_goto (tgt := 107) hx hb dX7_told_82 (by decide) ?_
                  rw [← hQ]
                  exact W.lret (v := (u8_un (nowN fn n)).toInt64) hx hb hr (fun tS htS hWS => ⟨⟨((u8_un (nowN fn n)).toInt64), (u8_ub, u8_un, u8_uw, u8_ux), rfl, trivial, m_at htS hP⟩, by rw [← has]; exact hS.F htS⟩) (by rw [← has]; exact hS.2.2) dX7_told_107
              · skip
                refine lv_aload_n hx hb dX7_told_61 rfl (lv_at hl 1 rfl) ?_
                refine va_get (D := D) (ci := 7) (v := .ref g8) (C := RX7) (T := TX7) (N := 17) hx hb hts hiX7 hown hK hP 0 rfl rfl 12 (by decide) hf39 (fun _ h9 => h9) rfl dX7_told_62 ?_
                refine lv_iload_n hx hb dX7_told_65 rfl (lv_at hl 0 rfl) ?_
                refine va_lald hx hb hK hP 8 1 rfl rfl (i := nI (nowN fn n)) (vp_in_nI (by omega) (by omega)) dX7_told_66 ?_
                refine cn_l (y := u8_ub (nowN fn n)) (congrArg u8_ub (nI_clamp (by omega))) ?_
                refine lv_goto (tgt := 107) hx hb dX7_told_67 (by decide) ?_
                rw [← hQ]
                exact W.lret (v := u8_ub (nowN fn n)) hx hb hr (fun tS htS hWS => ⟨⟨(u8_ub (nowN fn n)), (u8_ub, u8_un, u8_uw, u8_ux), rfl, trivial, m_at htS hP⟩, by rw [← has]; exact hS.F htS⟩) (by rw [← has]; exact hS.2.2) dX7_told_107
          · skip
            refine lv_if_eq (tgt := 108) hx hb dX7_told_49 (by decide) (fun c12 => ?_) (fun c12 => ?_)
            · skip
              refine lv_lconst (v := lN 0) hx hb dX7_told_108 (by decide) ?_
              refine lv_lstore_n (lv' := [(3, .long (lN 0)), (2, .int (nI (nowN fn n))), (0, .ref m0), (1, .int wh)]) hx hb dX7_told_109 rfl hl (by decide) rfl (fun ls hl => ?_)
              refine lv_iconst (v := nI 0) hx hb dX7_told_110 (by decide) ?_
              refine lv_istore (lv' := [(5, .int (nI 0)), (3, .long (lN 0)), (2, .int (nI (nowN fn n))), (0, .ref m0), (1, .int wh)]) hx hb dX7_told_111 hl (by decide) rfl (fun ls hl => ?_)
              have loop13 : ∀ (fu : Nat) (k : Nat) (v : Int64) (H : Heap) (locs : List Loc) (ls : Array Slot), (k ≤ 2 ^ n ∧ 2 ^ n < k + fu) → va_P D vwCl [(m0, .inr (7, [.int (nI n), .ref g1, .ref g2, .ref g3, .int mr, .ref g4, .int (nI y), .ref g5, .int (nI q), .ref g6, .int ml, .ref g7, .ref g8, .ref g9, .ref g10, .ref g11, .ref g12])), (g1, .inl (cI, 9, .inl fg)), (g2, .inl (cI, 9, .inl fb)), (g3, .inl (cI, 9, .inl fp)), (g4, .inl (cZ, 20480, .inl fs)), (g5, .inl (cI, 9, .inl fn)), (g6, .inl (cI, 9, .inl fo)), (g12, .inl (cI, 9, .inl th)), (g8, .inl (cJ, 19683, .inr (.inl eb))), (g9, .inl (cI, 19683, .inl en)), (g10, .inl (cI, 19683, .inl ew)), (g11, .inl (cI, 19683, .inl ex))] H → va_D (aA as) [(m0, .inr (7, [.int (nI n), .ref g1, .ref g2, .ref g3, .int mr, .ref g4, .int (nI y), .ref g5, .int (nI q), .ref g6, .int ml, .ref g7, .ref g8, .ref g9, .ref g10, .ref g11, .ref g12])), (g1, .inl (cI, 9, .inl fg)), (g2, .inl (cI, 9, .inl fb)), (g3, .inl (cI, 9, .inl fp)), (g4, .inl (cZ, 20480, .inl fs)), (g5, .inl (cI, 9, .inl fn)), (g6, .inl (cI, 9, .inl fo)), (g12, .inl (cI, 9, .inl th)), (g8, .inl (cJ, 19683, .inr (.inl eb))), (g9, .inl (cI, 19683, .inl en)), (g10, .inl (cI, 19683, .inl ew)), (g11, .inl (cI, 19683, .inl ex))] → va_S (aA as) s.heap H locs → lv_has ls 7 [(5, .int (nI k)), (3, .long v), (2, .int (nI (nowN fn n))), (0, .ref m0), (1, .int wh)] → W p l e (headSpec wsX7_told rm_c_X7_told_g).room s m ([.ref m0, .int wh] : List Value).toArray below meth c H locs 0 0 Q (F0 m 113 ls []) := by
                intro fu
                induction fu with
                | zero => intro k v H locs ls hk; exact absurd hk (by omega)
                | succ fu ih13 =>
                  intro k v H locs ls hk hP hD hS hl
                  refine lv_iload hx hb dX7_told_113 (lv_at hl 0 rfl) ?_
                  refine lv_aload_n hx hb dX7_told_115 rfl (lv_at hl 3 rfl) ?_
                  refine pu_i (va_runV (As := []) (rest := [.int (nI k)]) ⟨hx, hb, hml, hown, hts⟩ (c_X7_settings l D cI cJ cZ m0 g1 g2 g3 g4 g5 g6 g7 g8 g9 g10 g11 g12 n mr (nI y) (nI q) ml (by first | assumption | omega)) (cwV 0 hts gX7_told_X7_settings rfl rfl rfl (by decide +kernel) ⟨Nat.le_of_ble_eq_true rfl, Nat.le_of_ble_eq_true rfl⟩) ⟨pc_blind, va_recv hK hP (ci := 7) (q0 := 0) rfl rfl, fun U hU hW => ⟨rfl, by rw [hU]; exact hP.sub (ws' := [(m0, .inr (7, [.int (nI n), .ref g1, .ref g2, .ref g3, .int mr, .ref g4, .int (nI y), .ref g5, .int (nI q), .ref g6, .int ml, .ref g7, .ref g8, .ref g9, .ref g10, .ref g11, .ref g12]))]) [0] rfl, hKN.warm hW⟩⟩ rfl rfl hl.1 rfl (lv_room (Nat.le_of_ble_eq_true rfl)) dX7_told_116 ⟨Nat.le_of_ble_eq_true rfl, Nat.le_of_ble_eq_true rfl⟩) hS hP (fun r14 H locs w14r hP hS => ?_)
                  have w14 : r14 = nI (2 ^ n) := w14r
                  clear w14r
                  obtain rfl : r14 = nI (2 ^ n) := w14
                  refine lv_icmp_ge (tgt := 273) hx hb dX7_told_119 (by decide) (fun c15 => ?_) (fun c15 => ?_)
                  · skip
                    have d15 := c15
                    rw [nI_leI (by omega) (by omega)] at d15
                    refine lv_lload_n hx hb dX7_told_273 rfl (lv_at hl 1 rfl) ?_
                    rw [← hQ]
                    exact W.lret (v := v) hx hb hr (fun tS htS hWS => ⟨⟨v, (eb, en, ew, ex), rfl, trivial, m_at htS hP⟩, by rw [← has]; exact hS.F htS⟩) (by rw [← has]; exact hS.2.2) dX7_told_274
                  · skip
                    have d15 := c15
                    rw [nI_leI (by omega) (by omega)] at d15
                    refine lv_aload_n hx hb dX7_told_122 rfl (lv_at hl 3 rfl) ?_
                    refine lv_iload hx hb dX7_told_123 (lv_at hl 0 rfl) ?_
                    refine lv_iload_n hx hb dX7_told_125 rfl (lv_at hl 2 rfl) ?_
                    refine pu_i (va_runV (As := [.int (nI k), .int (nI (nowN fn n))]) (rest := []) ⟨hx, hb, hml, hown, hts⟩ (c_X7_isSuch l D cI cJ cZ m0 g1 g2 g3 g4 g5 g6 g7 g8 g9 g10 g11 g12 n (nowN fn n) mr (nI y) (nI q) ml (nI k) th (by first | assumption | omega) (by first | assumption | omega) (by first | assumption | omega)) (cwV 2 hts gX7_told_X7_isSuch rfl rfl rfl (by decide +kernel) ⟨Nat.le_of_ble_eq_true rfl, Nat.le_of_ble_eq_true rfl⟩) ⟨pc_blind, va_recv hK hP (ci := 7) (q0 := 0) rfl rfl, fun U hU hW => ⟨rfl, by rw [hU]; exact hP.sub (ws' := [(m0, .inr (7, [.int (nI n), .ref g1, .ref g2, .ref g3, .int mr, .ref g4, .int (nI y), .ref g5, .int (nI q), .ref g6, .int ml, .ref g7, .ref g8, .ref g9, .ref g10, .ref g11, .ref g12])), (g12, .inl (cI, 9, .inl th))]) [0, 7] rfl, hKN.warm hW⟩⟩ rfl rfl hl.1 rfl (lv_room (Nat.le_of_ble_eq_true rfl)) dX7_told_126 ⟨Nat.le_of_ble_eq_true rfl, Nat.le_of_ble_eq_true rfl⟩) hS hP (fun r16 H locs w16r hP hS => ?_)
                    have w16 : r16 = nI 1 ∨ r16 = nI 0 := w16r
                    clear w16r
                    rcases w16 with rfl | rfl
                    · skip
                      refine lv_if_ne (tgt := 135) hx hb dX7_told_129 (by decide) (fun c17 => ?_) (fun c17 => ?_)
                      · skip
                        refine lv_iload_n hx hb dX7_told_135 rfl (lv_at hl 4 rfl) ?_
                        by_cases c18 : wh = nI 1
                        · refine cn_i (y := nI 1) c18 ?_
                          refine lv_lookup (tgt := 172) (off := 36) hx hb dX7_told_136 (by decide) (by decide) (by decide) ?_
                          refine lv_lload_n hx hb dX7_told_172 rfl (lv_at hl 1 rfl) ?_
                          refine lv_aload_n hx hb dX7_told_173 rfl (lv_at hl 3 rfl) ?_
                          refine lv_iload hx hb dX7_told_174 (lv_at hl 0 rfl) ?_
                          refine pu_i (va_runV (As := [.int (nI k)]) (rest := [.long v]) ⟨hx, hb, hml, hown, hts⟩ (c_X7_isGood l D cI cJ cZ m0 g1 g2 g3 g4 g5 g6 g7 g8 g9 g10 g11 g12 y k (nI n) mr (nI q) ml fs (by first | assumption | omega) (by first | assumption | omega) (by first | assumption | omega)) (cwV 1 hts gX7_told_X7_isGood rfl rfl rfl (by decide +kernel) ⟨Nat.le_of_ble_eq_true rfl, Nat.le_of_ble_eq_true rfl⟩) ⟨pc_blind, va_recv hK hP (ci := 7) (q0 := 0) rfl rfl, fun U hU hW => ⟨rfl, by rw [hU]; exact hP.sub (ws' := [(m0, .inr (7, [.int (nI n), .ref g1, .ref g2, .ref g3, .int mr, .ref g4, .int (nI y), .ref g5, .int (nI q), .ref g6, .int ml, .ref g7, .ref g8, .ref g9, .ref g10, .ref g11, .ref g12])), (g4, .inl (cZ, 20480, .inl fs))]) [0, 4] rfl, hKN.warm hW⟩⟩ rfl rfl hl.1 rfl (lv_room (Nat.le_of_ble_eq_true rfl)) dX7_told_176 ⟨Nat.le_of_ble_eq_true rfl, Nat.le_of_ble_eq_true rfl⟩) hS hP (fun r19 H locs w19r hP hS => ?_)
                          have w19 : B01 r19 (Sg fs y k) := w19r
                          clear w19r
                          rcases w19 with ⟨rfl, w19⟩ | ⟨rfl, w19⟩
                          · skip
                            refine lv_if_eq (tgt := 191) hx hb dX7_told_179 (by decide) (fun c20 => ?_) (fun c20 => ?_)
                            · exact absurd c20 (by first | decide | exact nz_lt (by omega) | exact fun h => h (nz_ge (by omega)))
                            · skip
                              refine lv_aload_n hx hb dX7_told_182 rfl (lv_at hl 3 rfl) ?_
                              refine lv_iload hx hb dX7_told_183 (lv_at hl 0 rfl) ?_
                              refine pu_l (va_runV (As := [.int (nI k)]) (rest := [.long v]) ⟨hx, hb, hml, hown, hts⟩ (c_X7_weight l D cI cJ cZ m0 g1 g2 g3 g4 g5 g6 g7 g8 g9 g10 g11 g12 n mr (nI y) (nI q) ml (nI k) fg fb (by first | assumption | omega)) (cwV 1 hts gX7_told_X7_weight rfl rfl rfl (by decide +kernel) ⟨Nat.le_of_ble_eq_true rfl, Nat.le_of_ble_eq_true rfl⟩) ⟨pc_blind, va_recv hK hP (ci := 7) (q0 := 0) rfl rfl, fun U hU hW => ⟨rfl, by rw [hU]; exact hP.sub (ws' := [(m0, .inr (7, [.int (nI n), .ref g1, .ref g2, .ref g3, .int mr, .ref g4, .int (nI y), .ref g5, .int (nI q), .ref g6, .int ml, .ref g7, .ref g8, .ref g9, .ref g10, .ref g11, .ref g12])), (g1, .inl (cI, 9, .inl fg)), (g2, .inl (cI, 9, .inl fb))]) [0, 1, 2] rfl, hKN.warm hW⟩⟩ rfl rfl hl.1 rfl (lv_room (Nat.le_of_ble_eq_true rfl)) dX7_told_185 ⟨Nat.le_of_ble_eq_true rfl, Nat.le_of_ble_eq_true rfl⟩) hS hP (fun r21 H locs w21r hP hS => ?_)
                              have w21 : True := w21r
                              clear w21r
                              refine lv_goto (tgt := 192) hx hb dX7_told_188 (by decide) ?_
                              refine lv_ladd hx hb dX7_told_192 ?_
                              refine lv_lstore_n (lv' := [(3, .long (v + r21)), (5, .int (nI k)), (2, .int (nI (nowN fn n))), (0, .ref m0), (1, .int wh)]) hx hb dX7_told_193 rfl hl (by decide) rfl (fun ls hl => ?_)
                              refine lv_goto (tgt := 267) hx hb dX7_told_194 (by decide) ?_
                              refine lv_iinc (v := nI (k + 1)) (lv' := [(5, .int (nI (k + 1))), (3, .long (v + r21)), (2, .int (nI (nowN fn n))), (0, .ref m0), (1, .int wh)]) hx hb dX7_told_267 hl (k := 1) rfl (nI_1 k) (by decide) rfl (fun ls hl => ?_)
                              refine lv_goto (tgt := 113) hx hb dX7_told_270 (by decide) ?_
                              exact ih13 (k + 1) (v + r21) _ _ _ (by omega) hP hD hS (lv_sub hl [0, 1, 2, 3, 4] rfl)
                          · skip
                            refine lv_if_eq (tgt := 191) hx hb dX7_told_179 (by decide) (fun c22 => ?_) (fun c22 => ?_)
                            · skip
                              refine lv_lconst (v := lN 0) hx hb dX7_told_191 (by decide) ?_
                              refine lv_ladd hx hb dX7_told_192 ?_
                              refine lv_lstore_n (lv' := [(3, .long (v + (lN 0))), (5, .int (nI k)), (2, .int (nI (nowN fn n))), (0, .ref m0), (1, .int wh)]) hx hb dX7_told_193 rfl hl (by decide) rfl (fun ls hl => ?_)
                              refine lv_goto (tgt := 267) hx hb dX7_told_194 (by decide) ?_
                              refine lv_iinc (v := nI (k + 1)) (lv' := [(5, .int (nI (k + 1))), (3, .long (v + (lN 0))), (2, .int (nI (nowN fn n))), (0, .ref m0), (1, .int wh)]) hx hb dX7_told_267 hl (k := 1) rfl (nI_1 k) (by decide) rfl (fun ls hl => ?_)
                              refine lv_goto (tgt := 113) hx hb dX7_told_270 (by decide) ?_
                              exact ih13 (k + 1) (v + (lN 0)) _ _ _ (by omega) hP hD hS (lv_sub hl [0, 1, 2, 3, 4] rfl)
                            · exact absurd c22 (by first | decide | exact nz_lt (by omega) | exact fun h => h (nz_ge (by omega)))
                        by_cases c23 : wh = nI 6
                        · refine cn_i (y := nI 6) c23 ?_
                          refine lv_lookup (tgt := 197) (off := 61) hx hb dX7_told_136 (by decide) (by decide) (by decide) ?_
                          refine lv_lload_n hx hb dX7_told_197 rfl (lv_at hl 1 rfl) ?_
                          refine lv_aload_n hx hb dX7_told_198 rfl (lv_at hl 3 rfl) ?_
                          refine lv_iload hx hb dX7_told_199 (lv_at hl 0 rfl) ?_
                          refine pu_l (va_runV (As := [.int (nI k)]) (rest := [.long v]) ⟨hx, hb, hml, hown, hts⟩ (c_X7_weight l D cI cJ cZ m0 g1 g2 g3 g4 g5 g6 g7 g8 g9 g10 g11 g12 n mr (nI y) (nI q) ml (nI k) fg fb (by first | assumption | omega)) (cwV 1 hts gX7_told_X7_weight rfl rfl rfl (by decide +kernel) ⟨Nat.le_of_ble_eq_true rfl, Nat.le_of_ble_eq_true rfl⟩) ⟨pc_blind, va_recv hK hP (ci := 7) (q0 := 0) rfl rfl, fun U hU hW => ⟨rfl, by rw [hU]; exact hP.sub (ws' := [(m0, .inr (7, [.int (nI n), .ref g1, .ref g2, .ref g3, .int mr, .ref g4, .int (nI y), .ref g5, .int (nI q), .ref g6, .int ml, .ref g7, .ref g8, .ref g9, .ref g10, .ref g11, .ref g12])), (g1, .inl (cI, 9, .inl fg)), (g2, .inl (cI, 9, .inl fb))]) [0, 1, 2] rfl, hKN.warm hW⟩⟩ rfl rfl hl.1 rfl (lv_room (Nat.le_of_ble_eq_true rfl)) dX7_told_201 ⟨Nat.le_of_ble_eq_true rfl, Nat.le_of_ble_eq_true rfl⟩) hS hP (fun r24 H locs w24r hP hS => ?_)
                          have w24 : True := w24r
                          clear w24r
                          refine lv_aload_n hx hb dX7_told_204 rfl (lv_at hl 3 rfl) ?_
                          refine lv_iload hx hb dX7_told_205 (lv_at hl 0 rfl) ?_
                          refine lv_iload_n hx hb dX7_told_207 rfl (lv_at hl 2 rfl) ?_
                          refine pu_i (va_runV (As := [.int (nI k), .int (nI (nowN fn n))]) (rest := [.long r24, .long v]) ⟨hx, hb, hml, hown, hts⟩ (c_X7_shown l D cI cJ cZ m0 g1 g2 g3 g4 g5 g6 g7 g8 g9 g10 g11 g12 n (nowN fn n) y mr (nI q) ml (nI k) fp fs th (by first | assumption | omega) (by first | assumption | omega) (by first | assumption | omega) (by first | assumption | omega) (by first | assumption | omega)) (cwV 2 hts gX7_told_X7_shown rfl rfl rfl (by decide +kernel) ⟨Nat.le_of_ble_eq_true rfl, Nat.le_of_ble_eq_true rfl⟩) ⟨pc_blind, va_recv hK hP (ci := 7) (q0 := 0) rfl rfl, fun U hU hW => ⟨rfl, by rw [hU]; exact hP.sub (ws' := [(m0, .inr (7, [.int (nI n), .ref g1, .ref g2, .ref g3, .int mr, .ref g4, .int (nI y), .ref g5, .int (nI q), .ref g6, .int ml, .ref g7, .ref g8, .ref g9, .ref g10, .ref g11, .ref g12])), (g3, .inl (cI, 9, .inl fp)), (g4, .inl (cZ, 20480, .inl fs)), (g12, .inl (cI, 9, .inl th))]) [0, 3, 4, 7] rfl, hKN.warm hW⟩⟩ rfl rfl hl.1 rfl (lv_room (Nat.le_of_ble_eq_true rfl)) dX7_told_208 ⟨Nat.le_of_ble_eq_true rfl, Nat.le_of_ble_eq_true rfl⟩) hS hP (fun r25 H locs w25r hP hS => ?_)
                          have w25 : True := w25r
                          clear w25r
                          refine lv_i2l hx hb dX7_told_211 rfl ?_
                          refine lv_lmul hx hb dX7_told_212 ?_
                          refine lv_ladd hx hb dX7_told_213 ?_
                          refine lv_lstore_n (lv' := [(3, .long (v + (r24 * r25.toInt64))), (5, .int (nI k)), (2, .int (nI (nowN fn n))), (0, .ref m0), (1, .int wh)]) hx hb dX7_told_214 rfl hl (by decide) rfl (fun ls hl => ?_)
                          refine lv_goto (tgt := 267) hx hb dX7_told_215 (by decide) ?_
                          refine lv_iinc (v := nI (k + 1)) (lv' := [(5, .int (nI (k + 1))), (3, .long (v + (r24 * r25.toInt64))), (2, .int (nI (nowN fn n))), (0, .ref m0), (1, .int wh)]) hx hb dX7_told_267 hl (k := 1) rfl (nI_1 k) (by decide) rfl (fun ls hl => ?_)
                          refine lv_goto (tgt := 113) hx hb dX7_told_270 (by decide) ?_
                          exact ih13 (k + 1) (v + (r24 * r25.toInt64)) _ _ _ (by omega) hP hD hS (lv_sub hl [0, 1, 2, 3, 4] rfl)
                        by_cases c26 : wh = nI 7
                        · refine cn_i (y := nI 7) c26 ?_
                          refine lv_lookup (tgt := 218) (off := 82) hx hb dX7_told_136 (by decide) (by decide) (by decide) ?_
                          refine lv_lload_n hx hb dX7_told_218 rfl (lv_at hl 1 rfl) ?_
                          refine lv_aload_n hx hb dX7_told_219 rfl (lv_at hl 3 rfl) ?_
                          refine lv_iload hx hb dX7_told_220 (lv_at hl 0 rfl) ?_
                          refine pu_l (va_runV (As := [.int (nI k)]) (rest := [.long v]) ⟨hx, hb, hml, hown, hts⟩ (c_X7_weight l D cI cJ cZ m0 g1 g2 g3 g4 g5 g6 g7 g8 g9 g10 g11 g12 n mr (nI y) (nI q) ml (nI k) fg fb (by first | assumption | omega)) (cwV 1 hts gX7_told_X7_weight rfl rfl rfl (by decide +kernel) ⟨Nat.le_of_ble_eq_true rfl, Nat.le_of_ble_eq_true rfl⟩) ⟨pc_blind, va_recv hK hP (ci := 7) (q0 := 0) rfl rfl, fun U hU hW => ⟨rfl, by rw [hU]; exact hP.sub (ws' := [(m0, .inr (7, [.int (nI n), .ref g1, .ref g2, .ref g3, .int mr, .ref g4, .int (nI y), .ref g5, .int (nI q), .ref g6, .int ml, .ref g7, .ref g8, .ref g9, .ref g10, .ref g11, .ref g12])), (g1, .inl (cI, 9, .inl fg)), (g2, .inl (cI, 9, .inl fb))]) [0, 1, 2] rfl, hKN.warm hW⟩⟩ rfl rfl hl.1 rfl (lv_room (Nat.le_of_ble_eq_true rfl)) dX7_told_222 ⟨Nat.le_of_ble_eq_true rfl, Nat.le_of_ble_eq_true rfl⟩) hS hP (fun r27 H locs w27r hP hS => ?_)
                          have w27 : True := w27r
                          clear w27r
                          refine lv_aload_n hx hb dX7_told_225 rfl (lv_at hl 3 rfl) ?_
                          refine lv_iload hx hb dX7_told_226 (lv_at hl 0 rfl) ?_
                          refine lv_iload_n hx hb dX7_told_228 rfl (lv_at hl 2 rfl) ?_
                          refine pu_i (va_runV (As := [.int (nI k), .int (nI (nowN fn n))]) (rest := [.long r27, .long v]) ⟨hx, hb, hml, hown, hts⟩ (c_X7_byOrder l D cI cJ cZ m0 g1 g2 g3 g4 g5 g6 g7 g8 g9 g10 g11 g12 n q (nowN fn n) y mr ml (nI k) fp fs fo th (by first | assumption | omega) (by first | assumption | omega) (by first | assumption | omega) (by first | assumption | omega) (by first | assumption | omega) (by first | assumption | omega) (by first | assumption | omega)) (cwV 2 hts gX7_told_X7_byOrder rfl rfl rfl (by decide +kernel) ⟨Nat.le_of_ble_eq_true rfl, Nat.le_of_ble_eq_true rfl⟩) ⟨pc_blind, va_recv hK hP (ci := 7) (q0 := 0) rfl rfl, fun U hU hW => ⟨rfl, by rw [hU]; exact hP.sub (ws' := [(m0, .inr (7, [.int (nI n), .ref g1, .ref g2, .ref g3, .int mr, .ref g4, .int (nI y), .ref g5, .int (nI q), .ref g6, .int ml, .ref g7, .ref g8, .ref g9, .ref g10, .ref g11, .ref g12])), (g3, .inl (cI, 9, .inl fp)), (g4, .inl (cZ, 20480, .inl fs)), (g6, .inl (cI, 9, .inl fo)), (g12, .inl (cI, 9, .inl th))]) [0, 3, 4, 6, 7] rfl, hKN.warm hW⟩⟩ rfl rfl hl.1 rfl (lv_room (Nat.le_of_ble_eq_true rfl)) dX7_told_229 ⟨Nat.le_of_ble_eq_true rfl, Nat.le_of_ble_eq_true rfl⟩) hS hP (fun r28 H locs w28r hP hS => ?_)
                          have w28 : True := w28r
                          clear w28r
                          refine lv_i2l hx hb dX7_told_232 rfl ?_
                          refine lv_lmul hx hb dX7_told_233 ?_
                          refine lv_ladd hx hb dX7_told_234 ?_
                          refine lv_lstore_n (lv' := [(3, .long (v + (r27 * r28.toInt64))), (5, .int (nI k)), (2, .int (nI (nowN fn n))), (0, .ref m0), (1, .int wh)]) hx hb dX7_told_235 rfl hl (by decide) rfl (fun ls hl => ?_)
                          refine lv_goto (tgt := 267) hx hb dX7_told_236 (by decide) ?_
                          refine lv_iinc (v := nI (k + 1)) (lv' := [(5, .int (nI (k + 1))), (3, .long (v + (r27 * r28.toInt64))), (2, .int (nI (nowN fn n))), (0, .ref m0), (1, .int wh)]) hx hb dX7_told_267 hl (k := 1) rfl (nI_1 k) (by decide) rfl (fun ls hl => ?_)
                          refine lv_goto (tgt := 113) hx hb dX7_told_270 (by decide) ?_
                          exact ih13 (k + 1) (v + (r27 * r28.toInt64)) _ _ _ (by omega) hP hD hS (lv_sub hl [0, 1, 2, 3, 4] rfl)
                        refine lv_lookup (tgt := 239) (off := 103) hx hb dX7_told_136 (by decide) (show Op.lookupswitch.offset [(1, 36), (6, 61), (7, 82)] 103 wh.toInt = 103 from ((lv_osw c18 (by decide)).trans ((lv_osw c23 (by decide)).trans ((lv_osw c26 (by decide)).trans rfl)))) (by decide) ?_
                        refine lv_aload_n hx hb dX7_told_239 rfl (lv_at hl 3 rfl) ?_
                        refine lv_iload hx hb dX7_told_240 (lv_at hl 0 rfl) ?_
                        refine lv_iload_n hx hb dX7_told_242 rfl (lv_at hl 2 rfl) ?_
                        refine pu_i (va_runV (As := [.int (nI k), .int (nI (nowN fn n))]) (rest := []) ⟨hx, hb, hml, hown, hts⟩ (c_X7_byOrder l D cI cJ cZ m0 g1 g2 g3 g4 g5 g6 g7 g8 g9 g10 g11 g12 n q (nowN fn n) y mr ml (nI k) fp fs fo th (by first | assumption | omega) (by first | assumption | omega) (by first | assumption | omega) (by first | assumption | omega) (by first | assumption | omega) (by first | assumption | omega) (by first | assumption | omega)) (cwV 2 hts gX7_told_X7_byOrder rfl rfl rfl (by decide +kernel) ⟨Nat.le_of_ble_eq_true rfl, Nat.le_of_ble_eq_true rfl⟩) ⟨pc_blind, va_recv hK hP (ci := 7) (q0 := 0) rfl rfl, fun U hU hW => ⟨rfl, by rw [hU]; exact hP.sub (ws' := [(m0, .inr (7, [.int (nI n), .ref g1, .ref g2, .ref g3, .int mr, .ref g4, .int (nI y), .ref g5, .int (nI q), .ref g6, .int ml, .ref g7, .ref g8, .ref g9, .ref g10, .ref g11, .ref g12])), (g3, .inl (cI, 9, .inl fp)), (g4, .inl (cZ, 20480, .inl fs)), (g6, .inl (cI, 9, .inl fo)), (g12, .inl (cI, 9, .inl th))]) [0, 3, 4, 6, 7] rfl, hKN.warm hW⟩⟩ rfl rfl hl.1 rfl (lv_room (Nat.le_of_ble_eq_true rfl)) dX7_told_243 ⟨Nat.le_of_ble_eq_true rfl, Nat.le_of_ble_eq_true rfl⟩) hS hP (fun r29 H locs w29r hP hS => ?_)
                        have w29 : True := w29r
                        clear w29r
                        refine lv_istore (lv' := [(6, .int r29), (5, .int (nI k)), (3, .long v), (2, .int (nI (nowN fn n))), (0, .ref m0), (1, .int wh)]) hx hb dX7_told_246 hl (by decide) rfl (fun ls hl => ?_)
                        refine lv_iload hx hb dX7_told_248 (lv_at hl 0 rfl) ?_
                        refine lv_i2l hx hb dX7_told_250 rfl ?_
                        refine lv_lload_n hx hb dX7_told_251 rfl (lv_at hl 2 rfl) ?_
                        refine W.lcmp hx hb dX7_told_252 ?_
                        refine lv_if_le (tgt := 262) hx hb dX7_told_253 (by decide) (fun c30 => ?_) (fun c30 => ?_)
                        · skip
                          refine lv_lload_n hx hb dX7_told_262 rfl (lv_at hl 2 rfl) ?_
                          refine lv_lstore_n (lv' := [(3, .long v), (6, .int r29), (5, .int (nI k)), (2, .int (nI (nowN fn n))), (0, .ref m0), (1, .int wh)]) hx hb dX7_told_263 rfl hl (by decide) rfl (fun ls hl => ?_)
                          refine lv_goto (tgt := 267) hx hb dX7_told_264 (by decide) ?_
                          refine lv_iinc (v := nI (k + 1)) (lv' := [(5, .int (nI (k + 1))), (3, .long v), (6, .int r29), (2, .int (nI (nowN fn n))), (0, .ref m0), (1, .int wh)]) hx hb dX7_told_267 hl (k := 2) rfl (nI_1 k) (by decide) rfl (fun ls hl => ?_)
                          refine lv_goto (tgt := 113) hx hb dX7_told_270 (by decide) ?_
                          exact ih13 (k + 1) v _ _ _ (by omega) hP hD hS (lv_sub hl [0, 1, 3, 4, 5] rfl)
                        · skip
                          refine lv_iload hx hb dX7_told_256 (lv_at hl 0 rfl) ?_
                          refine lv_i2l hx hb dX7_told_258 rfl ?_
                          refine lv_goto (tgt := 263) hx hb dX7_told_259 (by decide) ?_
                          refine lv_lstore_n (lv' := [(3, .long r29.toInt64), (6, .int r29), (5, .int (nI k)), (2, .int (nI (nowN fn n))), (0, .ref m0), (1, .int wh)]) hx hb dX7_told_263 rfl hl (by decide) rfl (fun ls hl => ?_)
                          refine lv_goto (tgt := 267) hx hb dX7_told_264 (by decide) ?_
                          refine lv_iinc (v := nI (k + 1)) (lv' := [(5, .int (nI (k + 1))), (3, .long r29.toInt64), (6, .int r29), (2, .int (nI (nowN fn n))), (0, .ref m0), (1, .int wh)]) hx hb dX7_told_267 hl (k := 2) rfl (nI_1 k) (by decide) rfl (fun ls hl => ?_)
                          refine lv_goto (tgt := 113) hx hb dX7_told_270 (by decide) ?_
                          exact ih13 (k + 1) r29.toInt64 _ _ _ (by omega) hP hD hS (lv_sub hl [0, 1, 3, 4, 5] rfl)
                      · exact absurd c17 (by first | decide | exact nz_lt (by omega) | exact fun h => h (nz_ge (by omega)))
                    · skip
                      refine lv_if_ne (tgt := 135) hx hb dX7_told_129 (by decide) (fun c31 => ?_) (fun c31 => ?_)
                      · exact absurd c31 (by first | decide | exact nz_lt (by omega) | exact fun h => h (nz_ge (by omega)))
                      · skip
                        refine lv_goto (tgt := 267) hx hb dX7_told_132 (by decide) ?_
                        refine lv_iinc (v := nI (k + 1)) (lv' := [(5, .int (nI (k + 1))), (3, .long v), (2, .int (nI (nowN fn n))), (0, .ref m0), (1, .int wh)]) hx hb dX7_told_267 hl (k := 0) rfl (nI_1 k) (by decide) rfl (fun ls hl => ?_)
                        refine lv_goto (tgt := 113) hx hb dX7_told_270 (by decide) ?_
                        exact ih13 (k + 1) v _ _ _ (by omega) hP hD hS (lv_sub hl [0, 1, 2, 3, 4] rfl)
              exact loop13 (2 ^ n + 1) 0 (lN 0) _ _ _ (by omega) hP hD hS (lv_sub hl [0, 1, 2, 3, 4] rfl)
            · exact absurd c12 (by first | decide | exact nz_lt (by omega) | exact fun h => h (nz_ge (by omega)))
        · exact absurd c5 (by first | decide | exact nz_lt (by omega) | exact fun h => h (nz_ge (by omega)))
      · skip
        refine lv_if_ne (tgt := 38) hx hb dX7_told_31 (by decide) (fun c32 => ?_) (fun c32 => ?_)
        · exact absurd c32 (by first | decide | exact nz_lt (by omega) | exact fun h => h (nz_ge (by omega)))
        · skip
          refine lv_ldc2 (v := (-2 : Int64)) hx hb hown (hts (.constantLong RX7 132 (-2 : Int64)) (by decide +kernel)) dX7_told_34 ?_
          rw [← hQ]
          exact W.lret (v := (-2 : Int64)) hx hb hr (fun tS htS hWS => ⟨⟨(-2 : Int64), (eb, en, ew, ex), rfl, trivial, m_at htS hP⟩, by rw [← has]; exact hS.F htS⟩) (by rw [← has]; exact hS.2.2) dX7_told_37
  · skip
    refine lv_aload_n hx hb dX7_told_9 rfl (lv_at hl 1 rfl) ?_
    refine lv_iload_n hx hb dX7_told_10 rfl (lv_at hl 0 rfl) ?_
    refine pu_l (va_runV (As := [.int (nI (nowN fn n))]) (rest := []) ⟨hx, hb, hml, hown, hts⟩ (c_X7_left l D cI cJ cZ m0 g1 g2 g3 g4 g5 g6 g7 g8 g9 g10 g11 g12 n mr (nI y) (nI q) ml (nI (nowN fn n)) fg fb th (by first | assumption | omega) (by intro z hz; exact m_th0 (hth z hz) hz)) (cwV 1 hts gX7_told_X7_left rfl rfl rfl (by decide +kernel) ⟨Nat.le_of_ble_eq_true rfl, Nat.le_of_ble_eq_true rfl⟩) ⟨pc_blind, va_recv hK hP (ci := 7) (q0 := 0) rfl rfl, fun U hU hW => ⟨rfl, by rw [hU]; exact hP.sub (ws' := [(m0, .inr (7, [.int (nI n), .ref g1, .ref g2, .ref g3, .int mr, .ref g4, .int (nI y), .ref g5, .int (nI q), .ref g6, .int ml, .ref g7, .ref g8, .ref g9, .ref g10, .ref g11, .ref g12])), (g1, .inl (cI, 9, .inl fg)), (g2, .inl (cI, 9, .inl fb)), (g12, .inl (cI, 9, .inl th))]) [0, 1, 2, 7] rfl, hKN.warm hW⟩⟩ rfl rfl hl.1 rfl (lv_room (Nat.le_of_ble_eq_true rfl)) dX7_told_11 ⟨Nat.le_of_ble_eq_true rfl, Nat.le_of_ble_eq_true rfl⟩) hS hP (fun r33 H locs w33r hP hS => ?_)
    have w33 : r33 = mlf fg fb th (nI (nowN fn n)) n := w33r
    clear w33r
    rw [← hQ]
    exact W.lret (v := r33) hx hb hr (fun tS htS hWS => ⟨⟨r33, (eb, en, ew, ex), rfl, trivial, m_at htS hP⟩, by rw [← has]; exact hS.F htS⟩) (by rw [← has]; exact hS.2.2) dX7_told_14
def rm_c_X7_of_g : Room := { frames := 5, cells := 0, slots := 0, locals := 119 }
set_option maxHeartbeats 400000 in
set_option maxRecDepth 100000 in
theorem c_X7_of_g (l : Launch) (D : va_G) (cI cJ cZ : ClassId) (m0 : Nat) (g1 : Nat) (g2 : Nat) (g3 : Nat) (g4 : Nat) (g5 : Nat) (g6 : Nat) (g7 : Nat) (g8 : Nat) (g9 : Nat) (g10 : Nat) (g11 : Nat) (g12 : Nat) (n : Nat) (y : Nat) (q : Nat) (mr : Int32) (ml : Int32) (p0 : Int32) (wh : Int32) (fg : Nat → Int32) (fb : Nat → Int32) (fp : Nat → Int32) (fs : Nat → Int32) (fn : Nat → Int32) (fo : Nat → Int32) (th : Nat → Int32) (eb : Nat → Int64) (en : Nat → Int32) (ew : Nat → Int32) (ex : Nat → Int32) (hn : n ≤ 9) (h1n : 1 ≤ n) (hy : y < 40) (hq : q ≤ 9) (hfo : ∀ z, z < q → ∃ x, x < n ∧ fo z = nI x) (hth : ∀ z, z < 9 → th z = nI (3 ^ z)) (h01 : T01 fs) : Met l yX7_of wsX7_of rm_c_X7_of_g (pm_ D cI cJ cZ [.ref m0, .int p0, .int wh] [(m0, .inr (7, [.int (nI n), .ref g1, .ref g2, .ref g3, .int mr, .ref g4, .int (nI y), .ref g5, .int (nI q), .ref g6, .int ml, .ref g7, .ref g8, .ref g9, .ref g10, .ref g11, .ref g12])), (g1, .inl (cI, 9, .inl fg)), (g2, .inl (cI, 9, .inl fb)), (g3, .inl (cI, 9, .inl fp)), (g4, .inl (cZ, 20480, .inl fs)), (g5, .inl (cI, 9, .inl fn)), (g6, .inl (cI, 9, .inl fo)), (g12, .inl (cI, 9, .inl th)), (g8, .inl (cJ, 19683, .inr (.inl eb))), (g9, .inl (cI, 19683, .inl en)), (g10, .inl (cI, 19683, .inl ew)), (g11, .inl (cI, 19683, .inl ex))]) (va_Ql (fun (r : Int64) (u : (Nat → Int64) × (Nat → Int32) × (Nat → Int32) × (Nat → Int32)) => True) (fun (u : (Nat → Int64) × (Nat → Int32) × (Nat → Int32) × (Nat → Int32)) tS => va_P D vwCl [(m0, .inr (7, [.int (nI n), .ref g1, .ref g2, .ref g3, .int mr, .ref g4, .int (nI y), .ref g5, .int (nI q), .ref g6, .int ml, .ref g7, .ref g8, .ref g9, .ref g10, .ref g11, .ref g12])), (g1, .inl (cI, 9, .inl fg)), (g2, .inl (cI, 9, .inl fb)), (g3, .inl (cI, 9, .inl fp)), (g4, .inl (cZ, 20480, .inl fs)), (g5, .inl (cI, 9, .inl fn)), (g6, .inl (cI, 9, .inl fo)), (g12, .inl (cI, 9, .inl th)), (g8, .inl (cJ, 19683, .inr (.inl u.1))), (g9, .inl (cI, 19683, .inl u.2.1)), (g10, .inl (cI, 19683, .inl u.2.2.1)), (g11, .inl (cI, 19683, .inl u.2.2.2))] tS.heap) (aA [m0, g1, g2, g3, g4, g5, g6, g12, g8, g9, g10, g11])) 0 0 (aA [m0, g1, g2, g3, g4, g5, g6, g12, g8, g9, g10, g11]) := by
  refine Met.ofW (cc := cX7_of) (maxL := 7) (ret := (some .long)) (by decide) rfl ?_
  intro p e s m args below meth c s₁ B hml hv
  obtain ⟨rfl, hP, hKN, hD0⟩ := hv
  have hK := hKN.1
  have hx := B.exec
  have hb := B.bytes
  have hr := B.returns
  have hts := atoms_spec (ws := wsX7_of) B.pre
  have hown : s.vm.findClass RX7 = some m.cls := findClass_of_methodNamed B.named
  have hlocks := B.notSynchronized
  have hiX7 : ∀ w ∈ wsX70, w ∈ wsX7_of := by decide +kernel
  have hf27 := hts (.fieldLink RX7 27 "LookBenchModel" "system" "I") (by decide +kernel)
  have hf30 := hts (.fieldLink RX7 30 "LookBenchModel" "seen" "[I") (by decide +kernel)
  have hf39 := hts (.fieldLink RX7 39 "LookBenchModel" "best" "[J") (by decide +kernel)
  have hf52 := hts (.fieldLink RX7 52 "LookBenchModel" "three" "[I") (by decide +kernel)
  obtain ⟨as, has⟩ : ∃ z : List Nat, z = [m0, g1, g2, g3, g4, g5, g6, g12, g8, g9, g10, g11] := ⟨_, rfl⟩
  have hD := hD0.addr (as := as) (by rw [has]; rfl)
  have hS : va_S (aA as) s.heap s.heap [] := va_S.rf
  have hl := lv_entry ([.ref m0, .int p0, .int wh]) (n := 7) (Nat.le_of_ble_eq_true rfl)
  rw [lg_entry_eq]
  generalize (lg_sl ([.ref m0, .int p0, .int wh]) ++ List.replicate (7 - (lg_sl ([.ref m0, .int p0, .int wh])).length) Slot.unset).toArray = ls at hl ⊢
  have hl : lv_has ls 7 [(0, .ref m0), (1, .int p0), (2, .int wh)] := hl
  generalize hQ : MQ below _ _ s _ _ _ = Q
  obtain ⟨H, hH⟩ : ∃ z, z = s.heap := ⟨_, rfl⟩
  have hP : va_P D vwCl [(m0, .inr (7, [.int (nI n), .ref g1, .ref g2, .ref g3, .int mr, .ref g4, .int (nI y), .ref g5, .int (nI q), .ref g6, .int ml, .ref g7, .ref g8, .ref g9, .ref g10, .ref g11, .ref g12])), (g1, .inl (cI, 9, .inl fg)), (g2, .inl (cI, 9, .inl fb)), (g3, .inl (cI, 9, .inl fp)), (g4, .inl (cZ, 20480, .inl fs)), (g5, .inl (cI, 9, .inl fn)), (g6, .inl (cI, 9, .inl fo)), (g12, .inl (cI, 9, .inl th)), (g8, .inl (cJ, 19683, .inr (.inl eb))), (g9, .inl (cI, 19683, .inl en)), (g10, .inl (cI, 19683, .inl ew)), (g11, .inl (cI, 19683, .inl ex))] H := by rw [hH]; exact hP
  have hS : va_S (aA as) s.heap H [] := by rw [hH]; exact hS
  refine m_heap hH ?_
  clear hH
  have h2n := m_pow hn
  have h2p := m_powp n
  have h3n := m_p3 hn
  have hnl := nowN_lt fn n
  refine lv_aload_n hx hb dX7_of_0 rfl (lv_at hl 0 rfl) ?_
  refine lv_iload_n hx hb dX7_of_1 rfl (lv_at hl 1 rfl) ?_
  refine pu_i (va_runV (As := [.int p0]) (rest := []) ⟨hx, hb, hml, hown, hts⟩ (c_X7_isPart l D cI cJ cZ m0 g1 g2 g3 g4 g5 g6 g7 g8 g9 g10 g11 g12 n mr (nI y) (nI q) ml p0 (by first | assumption | omega) (by first | assumption | omega)) (cwV 1 hts gX7_of_X7_isPart rfl rfl rfl (by decide +kernel) ⟨Nat.le_of_ble_eq_true rfl, Nat.le_of_ble_eq_true rfl⟩) ⟨pc_blind, va_recv hK hP (ci := 7) (q0 := 0) rfl rfl, fun U hU hW => ⟨rfl, by rw [hU]; exact hP.sub (ws' := [(m0, .inr (7, [.int (nI n), .ref g1, .ref g2, .ref g3, .int mr, .ref g4, .int (nI y), .ref g5, .int (nI q), .ref g6, .int ml, .ref g7, .ref g8, .ref g9, .ref g10, .ref g11, .ref g12]))]) [0] rfl, hKN.warm hW⟩⟩ rfl rfl hl.1 rfl (lv_room (Nat.le_of_ble_eq_true rfl)) dX7_of_2 ⟨Nat.le_of_ble_eq_true rfl, Nat.le_of_ble_eq_true rfl⟩) hS hP (fun r1 H locs w1r hP hS => ?_)
  have w1 : B01 r1 (0 ≤ p0.toInt ∧ p0.toInt < n) := w1r
  clear w1r
  rcases w1 with ⟨rfl, w1⟩ | ⟨rfl, w1⟩
  · skip
    obtain ⟨j9, hj9, rfl⟩ := m_nat w1
    have tj9 : (nI j9).toInt = (j9 : Int) := nI_toInt (by omega)
    refine lv_if_eq (tgt := 35) hx hb dX7_of_5 (by decide) (fun c2 => ?_) (fun c2 => ?_)
    · exact absurd c2 (by first | decide | exact nz_lt (by omega) | exact fun h => h (nz_ge (by omega)))
    · skip
      refine lv_iload_n hx hb dX7_of_8 rfl (lv_at hl 2 rfl) ?_
      refine lv_i2l hx hb dX7_of_9 rfl ?_
      refine lv_lconst (v := lN 0) hx hb dX7_of_10 (by decide) ?_
      refine lv_lconst (v := lN 1) hx hb dX7_of_11 (by decide) ?_
      refine pu_i (va_runS (As := [.long wh.toInt64, .long (lN 0), .long (lN 1)]) (rest := []) ⟨hx, hb, hml, hown, hts⟩ (c_X7_in l D cI cJ cZ wh.toInt64 (lN 0) (lN 1)) (va_cwS 3 hts gX7_of_X7_in rfl rfl rfl (by decide +kernel) ⟨Nat.le_of_ble_eq_true rfl, Nat.le_of_ble_eq_true rfl⟩) ⟨pc_blind, fun U hU hW => ⟨rfl, by rw [hU]; exact hP.sub (ws' := []) [] rfl, hKN.warm hW⟩⟩ rfl rfl hl.1 rfl (lv_room (Nat.le_of_ble_eq_true rfl)) dX7_of_12 ⟨Nat.le_of_ble_eq_true rfl, Nat.le_of_ble_eq_true rfl⟩) hS hP (fun r3 H locs w3r hP hS => ?_)
      have w3 : B01 r3 ((lN 0).toInt ≤ wh.toInt64.toInt ∧ wh.toInt64.toInt ≤ (lN 1).toInt) := w3r
      clear w3r
      rw [lN_toInt (n := 0) (by omega), j2 wh, lN_toInt (n := 1) (by omega)] at w3
      rcases w3 with ⟨rfl, w3⟩ | ⟨rfl, w3⟩
      · skip
        refine lv_if_eq (tgt := 35) hx hb dX7_of_15 (by decide) (fun c4 => ?_) (fun c4 => ?_)
        · exact absurd c4 (by first | decide | exact nz_lt (by omega) | exact fun h => h (nz_ge (by omega)))
        · skip
          refine lv_aload_n hx hb dX7_of_18 rfl (lv_at hl 0 rfl) ?_
          refine va_get (D := D) (ci := 7) (v := .ref g5) (C := RX7) (T := TX7) (N := 17) hx hb hts hiX7 hown hK hP 0 rfl rfl 7 (by decide) hf30 (fun _ h9 => h9) rfl dX7_of_19 ?_
          refine lv_iload_n hx hb dX7_of_22 rfl (lv_at hl 1 rfl) ?_
          refine va_iald hx hb hK hP 5 0 rfl rfl (i := nI j9) (vp_in_nI (by omega) (by omega)) dX7_of_23 ?_
          refine cn_i (y := fn j9) (congrArg fn (nI_clamp (by omega))) ?_
          refine lv_iconst (v := (-1 : Int32)) hx hb dX7_of_24 (by decide) ?_
          refine lv_icmp_ne (tgt := 35) hx hb dX7_of_25 (by decide) (fun c5 => ?_) (fun c5 => ?_)
          · skip
            refine lv_ldc2 (v := (-2 : Int64)) hx hb hown (hts (.constantLong RX7 132 (-2 : Int64)) (by decide +kernel)) dX7_of_35 ?_
            rw [← hQ]
            exact W.lret (v := (-2 : Int64)) hx hb hr (fun tS htS hWS => ⟨⟨(-2 : Int64), (eb, en, ew, ex), rfl, trivial, m_at htS hP⟩, by rw [← has]; exact hS.F htS⟩) (by rw [← has]; exact hS.2.2) dX7_of_38
          · skip
            refine lv_aload_n hx hb dX7_of_28 rfl (lv_at hl 0 rfl) ?_
            refine va_get (D := D) (ci := 7) (v := .int (nI y)) (C := RX7) (T := TX7) (N := 17) hx hb hts hiX7 hown hK hP 0 rfl rfl 6 (by decide) hf27 (fun _ h9 => h9) rfl dX7_of_29 ?_
            refine lv_if_ge (tgt := 39) hx hb dX7_of_32 (by decide) (fun c6 => ?_) (fun c6 => ?_)
            · skip
              refine lv_aload_n hx hb dX7_of_39 rfl (lv_at hl 0 rfl) ?_
              refine pu_i (va_runV (As := []) (rest := []) ⟨hx, hb, hml, hown, hts⟩ (c_X7_now_g l D cI cJ cZ m0 g1 g2 g3 g4 g5 g6 g7 g8 g9 g10 g11 g12 n mr (nI y) (nI q) ml fn th (by first | assumption | omega) (by first | assumption | omega)) (cwV 0 hts gX7_of_X7_now rfl rfl rfl (by decide +kernel) ⟨Nat.le_of_ble_eq_true rfl, Nat.le_of_ble_eq_true rfl⟩) ⟨pc_blind, va_recv hK hP (ci := 7) (q0 := 0) rfl rfl, fun U hU hW => ⟨rfl, by rw [hU]; exact hP.sub (ws' := [(m0, .inr (7, [.int (nI n), .ref g1, .ref g2, .ref g3, .int mr, .ref g4, .int (nI y), .ref g5, .int (nI q), .ref g6, .int ml, .ref g7, .ref g8, .ref g9, .ref g10, .ref g11, .ref g12])), (g5, .inl (cI, 9, .inl fn)), (g12, .inl (cI, 9, .inl th))]) [0, 5, 7] rfl, hKN.warm hW⟩⟩ rfl rfl hl.1 rfl (lv_room (Nat.le_of_ble_eq_true rfl)) dX7_of_40 ⟨Nat.le_of_ble_eq_true rfl, Nat.le_of_ble_eq_true rfl⟩) hS hP (fun r7 H locs w7r hP hS => ?_)
              have w7 : r7 = nI (nowN fn n) := w7r
              clear w7r
              obtain rfl : r7 = nI (nowN fn n) := w7
              refine lv_istore_n (lv' := [(3, .int (nI (nowN fn n))), (0, .ref m0), (1, .int (nI j9)), (2, .int wh)]) hx hb dX7_of_43 rfl hl (by decide) rfl (fun ls hl => ?_)
              have hdg9 := nowN_dig (fn := fn) (n := n) (j := j9) (by assumption) (by omega)
              have hup9 := m_up (n := n) hnl (by omega) hdg9
              have hp9 := m_p512 (j := j9) (by omega)
              refine lv_iload_n hx hb dX7_of_44 rfl (lv_at hl 3 rfl) ?_
              refine lv_if_ne (tgt := 89) hx hb dX7_of_45 (by decide) (fun c8 => ?_) (fun c8 => ?_)
              · skip
                refine lv_lconst (v := lN 0) hx hb dX7_of_89 (by decide) ?_
                refine lv_lstore (lv' := [(4, .long (lN 0)), (3, .int (nI (nowN fn n))), (0, .ref m0), (1, .int (nI j9)), (2, .int wh)]) hx hb dX7_of_90 hl (by decide) rfl (fun ls hl => ?_)
                refine lv_iconst (v := nI 0) hx hb dX7_of_92 (by decide) ?_
                refine lv_istore (lv' := [(6, .int (nI 0)), (4, .long (lN 0)), (3, .int (nI (nowN fn n))), (0, .ref m0), (1, .int (nI j9)), (2, .int wh)]) hx hb dX7_of_93 hl (by decide) rfl (fun ls hl => ?_)
                have loop9 : ∀ (fu : Nat) (k : Nat) (v : Int64) (H : Heap) (locs : List Loc) (ls : Array Slot), (k ≤ 2 ^ n ∧ 2 ^ n < k + fu) → va_P D vwCl [(m0, .inr (7, [.int (nI n), .ref g1, .ref g2, .ref g3, .int mr, .ref g4, .int (nI y), .ref g5, .int (nI q), .ref g6, .int ml, .ref g7, .ref g8, .ref g9, .ref g10, .ref g11, .ref g12])), (g1, .inl (cI, 9, .inl fg)), (g2, .inl (cI, 9, .inl fb)), (g3, .inl (cI, 9, .inl fp)), (g4, .inl (cZ, 20480, .inl fs)), (g5, .inl (cI, 9, .inl fn)), (g6, .inl (cI, 9, .inl fo)), (g12, .inl (cI, 9, .inl th)), (g8, .inl (cJ, 19683, .inr (.inl eb))), (g9, .inl (cI, 19683, .inl en)), (g10, .inl (cI, 19683, .inl ew)), (g11, .inl (cI, 19683, .inl ex))] H → va_D (aA as) [(m0, .inr (7, [.int (nI n), .ref g1, .ref g2, .ref g3, .int mr, .ref g4, .int (nI y), .ref g5, .int (nI q), .ref g6, .int ml, .ref g7, .ref g8, .ref g9, .ref g10, .ref g11, .ref g12])), (g1, .inl (cI, 9, .inl fg)), (g2, .inl (cI, 9, .inl fb)), (g3, .inl (cI, 9, .inl fp)), (g4, .inl (cZ, 20480, .inl fs)), (g5, .inl (cI, 9, .inl fn)), (g6, .inl (cI, 9, .inl fo)), (g12, .inl (cI, 9, .inl th)), (g8, .inl (cJ, 19683, .inr (.inl eb))), (g9, .inl (cI, 19683, .inl en)), (g10, .inl (cI, 19683, .inl ew)), (g11, .inl (cI, 19683, .inl ex))] → va_S (aA as) s.heap H locs → lv_has ls 7 [(6, .int (nI k)), (4, .long v), (3, .int (nI (nowN fn n))), (0, .ref m0), (1, .int (nI j9)), (2, .int wh)] → W p l e (headSpec wsX7_of rm_c_X7_of_g).room s m ([.ref m0, .int (nI j9), .int wh] : List Value).toArray below meth c H locs 0 0 Q (F0 m 95 ls []) := by
                  intro fu
                  induction fu with
                  | zero => intro k v H locs ls hk; exact absurd hk (by omega)
                  | succ fu ih9 =>
                    intro k v H locs ls hk hP hD hS hl
                    refine lv_iload hx hb dX7_of_95 (lv_at hl 0 rfl) ?_
                    refine lv_aload_n hx hb dX7_of_97 rfl (lv_at hl 3 rfl) ?_
                    refine pu_i (va_runV (As := []) (rest := [.int (nI k)]) ⟨hx, hb, hml, hown, hts⟩ (c_X7_settings l D cI cJ cZ m0 g1 g2 g3 g4 g5 g6 g7 g8 g9 g10 g11 g12 n mr (nI y) (nI q) ml (by first | assumption | omega)) (cwV 0 hts gX7_of_X7_settings rfl rfl rfl (by decide +kernel) ⟨Nat.le_of_ble_eq_true rfl, Nat.le_of_ble_eq_true rfl⟩) ⟨pc_blind, va_recv hK hP (ci := 7) (q0 := 0) rfl rfl, fun U hU hW => ⟨rfl, by rw [hU]; exact hP.sub (ws' := [(m0, .inr (7, [.int (nI n), .ref g1, .ref g2, .ref g3, .int mr, .ref g4, .int (nI y), .ref g5, .int (nI q), .ref g6, .int ml, .ref g7, .ref g8, .ref g9, .ref g10, .ref g11, .ref g12]))]) [0] rfl, hKN.warm hW⟩⟩ rfl rfl hl.1 rfl (lv_room (Nat.le_of_ble_eq_true rfl)) dX7_of_98 ⟨Nat.le_of_ble_eq_true rfl, Nat.le_of_ble_eq_true rfl⟩) hS hP (fun r10 H locs w10r hP hS => ?_)
                    have w10 : r10 = nI (2 ^ n) := w10r
                    clear w10r
                    obtain rfl : r10 = nI (2 ^ n) := w10
                    refine lv_icmp_ge (tgt := 154) hx hb dX7_of_101 (by decide) (fun c11 => ?_) (fun c11 => ?_)
                    · skip
                      have d11 := c11
                      rw [nI_leI (by omega) (by omega)] at d11
                      refine lv_lload hx hb dX7_of_154 (lv_at hl 1 rfl) ?_
                      rw [← hQ]
                      exact W.lret (v := v) hx hb hr (fun tS htS hWS => ⟨⟨v, (eb, en, ew, ex), rfl, trivial, m_at htS hP⟩, by rw [← has]; exact hS.F htS⟩) (by rw [← has]; exact hS.2.2) dX7_of_156
                    · skip
                      have d11 := c11
                      rw [nI_leI (by omega) (by omega)] at d11
                      refine lv_lload hx hb dX7_of_104 (lv_at hl 1 rfl) ?_
                      refine lv_aload_n hx hb dX7_of_106 rfl (lv_at hl 3 rfl) ?_
                      refine lv_iload hx hb dX7_of_107 (lv_at hl 0 rfl) ?_
                      refine lv_iload_n hx hb dX7_of_109 rfl (lv_at hl 2 rfl) ?_
                      refine pu_i (va_runV (As := [.int (nI k), .int (nI (nowN fn n))]) (rest := [.long v]) ⟨hx, hb, hml, hown, hts⟩ (c_X7_isSuch l D cI cJ cZ m0 g1 g2 g3 g4 g5 g6 g7 g8 g9 g10 g11 g12 n (nowN fn n) mr (nI y) (nI q) ml (nI k) th (by first | assumption | omega) (by first | assumption | omega) (by first | assumption | omega)) (cwV 2 hts gX7_of_X7_isSuch rfl rfl rfl (by decide +kernel) ⟨Nat.le_of_ble_eq_true rfl, Nat.le_of_ble_eq_true rfl⟩) ⟨pc_blind, va_recv hK hP (ci := 7) (q0 := 0) rfl rfl, fun U hU hW => ⟨rfl, by rw [hU]; exact hP.sub (ws' := [(m0, .inr (7, [.int (nI n), .ref g1, .ref g2, .ref g3, .int mr, .ref g4, .int (nI y), .ref g5, .int (nI q), .ref g6, .int ml, .ref g7, .ref g8, .ref g9, .ref g10, .ref g11, .ref g12])), (g12, .inl (cI, 9, .inl th))]) [0, 7] rfl, hKN.warm hW⟩⟩ rfl rfl hl.1 rfl (lv_room (Nat.le_of_ble_eq_true rfl)) dX7_of_110 ⟨Nat.le_of_ble_eq_true rfl, Nat.le_of_ble_eq_true rfl⟩) hS hP (fun r12 H locs w12r hP hS => ?_)
                      have w12 : r12 = nI 1 ∨ r12 = nI 0 := w12r
                      clear w12r
                      rcases w12 with rfl | rfl
                      · skip
                        refine lv_if_eq (tgt := 144) hx hb dX7_of_113 (by decide) (fun c13 => ?_) (fun c13 => ?_)
                        · exact absurd c13 (by first | decide | exact nz_lt (by omega) | exact fun h => h (nz_ge (by omega)))
                        · skip
                          refine lv_aload_n hx hb dX7_of_116 rfl (lv_at hl 3 rfl) ?_
                          refine lv_iload hx hb dX7_of_117 (lv_at hl 0 rfl) ?_
                          refine pu_i (va_runV (As := [.int (nI k)]) (rest := [.long v]) ⟨hx, hb, hml, hown, hts⟩ (c_X7_isGood l D cI cJ cZ m0 g1 g2 g3 g4 g5 g6 g7 g8 g9 g10 g11 g12 y k (nI n) mr (nI q) ml fs (by first | assumption | omega) (by first | assumption | omega) (by first | assumption | omega)) (cwV 1 hts gX7_of_X7_isGood rfl rfl rfl (by decide +kernel) ⟨Nat.le_of_ble_eq_true rfl, Nat.le_of_ble_eq_true rfl⟩) ⟨pc_blind, va_recv hK hP (ci := 7) (q0 := 0) rfl rfl, fun U hU hW => ⟨rfl, by rw [hU]; exact hP.sub (ws' := [(m0, .inr (7, [.int (nI n), .ref g1, .ref g2, .ref g3, .int mr, .ref g4, .int (nI y), .ref g5, .int (nI q), .ref g6, .int ml, .ref g7, .ref g8, .ref g9, .ref g10, .ref g11, .ref g12])), (g4, .inl (cZ, 20480, .inl fs))]) [0, 4] rfl, hKN.warm hW⟩⟩ rfl rfl hl.1 rfl (lv_room (Nat.le_of_ble_eq_true rfl)) dX7_of_119 ⟨Nat.le_of_ble_eq_true rfl, Nat.le_of_ble_eq_true rfl⟩) hS hP (fun r14 H locs w14r hP hS => ?_)
                          have w14 : B01 r14 (Sg fs y k) := w14r
                          clear w14r
                          rcases w14 with ⟨rfl, w14⟩ | ⟨rfl, w14⟩
                          · skip
                            refine lv_aload_n hx hb dX7_of_122 rfl (lv_at hl 3 rfl) ?_
                            refine lv_iload hx hb dX7_of_123 (lv_at hl 0 rfl) ?_
                            refine lv_iconst (v := nI 1) hx hb dX7_of_125 (by decide) ?_
                            refine lv_iload_n hx hb dX7_of_126 rfl (lv_at hl 4 rfl) ?_
                            refine lv_ishl hx hb dX7_of_127 ?_
                            refine cn_i (y := nI (2 ^ j9)) (m_shl1 (by omega)) ?_
                            refine lv_ixor hx hb dX7_of_128 ?_
                            refine cn_i (y := nI (k ^^^ (2 ^ j9))) (mb_xor k (2 ^ j9)) ?_
                            refine pu_i (va_runV (As := [.int (nI (k ^^^ (2 ^ j9)))]) (rest := [.int (nI 1), .long v]) ⟨hx, hb, hml, hown, hts⟩ (c_X7_isGood l D cI cJ cZ m0 g1 g2 g3 g4 g5 g6 g7 g8 g9 g10 g11 g12 y (k ^^^ (2 ^ j9)) (nI n) mr (nI q) ml fs (by first | assumption | omega) (by exact m_x512 (by omega) (m_p512 (by omega))) (by first | assumption | omega)) (cwV 1 hts gX7_of_X7_isGood rfl rfl rfl (by decide +kernel) ⟨Nat.le_of_ble_eq_true rfl, Nat.le_of_ble_eq_true rfl⟩) ⟨pc_blind, va_recv hK hP (ci := 7) (q0 := 0) rfl rfl, fun U hU hW => ⟨rfl, by rw [hU]; exact hP.sub (ws' := [(m0, .inr (7, [.int (nI n), .ref g1, .ref g2, .ref g3, .int mr, .ref g4, .int (nI y), .ref g5, .int (nI q), .ref g6, .int ml, .ref g7, .ref g8, .ref g9, .ref g10, .ref g11, .ref g12])), (g4, .inl (cZ, 20480, .inl fs))]) [0, 4] rfl, hKN.warm hW⟩⟩ rfl rfl hl.1 rfl (lv_room (Nat.le_of_ble_eq_true rfl)) dX7_of_129 ⟨Nat.le_of_ble_eq_true rfl, Nat.le_of_ble_eq_true rfl⟩) hS hP (fun r15 H locs w15r hP hS => ?_)
                            have w15 : B01 r15 (Sg fs y (k ^^^ (2 ^ j9))) := w15r
                            clear w15r
                            rcases w15 with ⟨rfl, w15⟩ | ⟨rfl, w15⟩
                            · skip
                              refine lv_icmp_eq (tgt := 144) hx hb dX7_of_132 (by decide) (fun c16 => ?_) (fun c16 => ?_)
                              · skip
                                refine lv_lconst (v := lN 0) hx hb dX7_of_144 (by decide) ?_
                                refine lv_ladd hx hb dX7_of_145 ?_
                                refine lv_lstore (lv' := [(4, .long (v + (lN 0))), (6, .int (nI k)), (3, .int (nI (nowN fn n))), (0, .ref m0), (1, .int (nI j9)), (2, .int wh)]) hx hb dX7_of_146 hl (by decide) rfl (fun ls hl => ?_)
                                refine lv_iinc (v := nI (k + 1)) (lv' := [(6, .int (nI (k + 1))), (4, .long (v + (lN 0))), (3, .int (nI (nowN fn n))), (0, .ref m0), (1, .int (nI j9)), (2, .int wh)]) hx hb dX7_of_148 hl (k := 1) rfl (nI_1 k) (by decide) rfl (fun ls hl => ?_)
                                refine lv_goto (tgt := 95) hx hb dX7_of_151 (by decide) ?_
                                exact ih9 (k + 1) (v + (lN 0)) _ _ _ (by omega) hP hD hS (lv_sub hl [0, 1, 2, 3, 4, 5] rfl)
                              · exact absurd c16 (by first | decide | exact nz_lt (by omega) | exact fun h => h (nz_ge (by omega)))
                            · skip
                              refine lv_icmp_eq (tgt := 144) hx hb dX7_of_132 (by decide) (fun c17 => ?_) (fun c17 => ?_)
                              · exact absurd c17 (by first | decide | exact nz_lt (by omega) | exact fun h => h (nz_ge (by omega)))
                              · skip
                                refine lv_aload_n hx hb dX7_of_135 rfl (lv_at hl 3 rfl) ?_
                                refine lv_iload hx hb dX7_of_136 (lv_at hl 0 rfl) ?_
                                refine pu_l (va_runV (As := [.int (nI k)]) (rest := [.long v]) ⟨hx, hb, hml, hown, hts⟩ (c_X7_weight l D cI cJ cZ m0 g1 g2 g3 g4 g5 g6 g7 g8 g9 g10 g11 g12 n mr (nI y) (nI q) ml (nI k) fg fb (by first | assumption | omega)) (cwV 1 hts gX7_of_X7_weight rfl rfl rfl (by decide +kernel) ⟨Nat.le_of_ble_eq_true rfl, Nat.le_of_ble_eq_true rfl⟩) ⟨pc_blind, va_recv hK hP (ci := 7) (q0 := 0) rfl rfl, fun U hU hW => ⟨rfl, by rw [hU]; exact hP.sub (ws' := [(m0, .inr (7, [.int (nI n), .ref g1, .ref g2, .ref g3, .int mr, .ref g4, .int (nI y), .ref g5, .int (nI q), .ref g6, .int ml, .ref g7, .ref g8, .ref g9, .ref g10, .ref g11, .ref g12])), (g1, .inl (cI, 9, .inl fg)), (g2, .inl (cI, 9, .inl fb))]) [0, 1, 2] rfl, hKN.warm hW⟩⟩ rfl rfl hl.1 rfl (lv_room (Nat.le_of_ble_eq_true rfl)) dX7_of_138 ⟨Nat.le_of_ble_eq_true rfl, Nat.le_of_ble_eq_true rfl⟩) hS hP (fun r18 H locs w18r hP hS => ?_)
                                have w18 : True := w18r
                                clear w18r
                                refine lv_goto (tgt := 145) hx hb dX7_of_141 (by decide) ?_
                                refine lv_ladd hx hb dX7_of_145 ?_
                                refine lv_lstore (lv' := [(4, .long (v + r18)), (6, .int (nI k)), (3, .int (nI (nowN fn n))), (0, .ref m0), (1, .int (nI j9)), (2, .int wh)]) hx hb dX7_of_146 hl (by decide) rfl (fun ls hl => ?_)
                                refine lv_iinc (v := nI (k + 1)) (lv' := [(6, .int (nI (k + 1))), (4, .long (v + r18)), (3, .int (nI (nowN fn n))), (0, .ref m0), (1, .int (nI j9)), (2, .int wh)]) hx hb dX7_of_148 hl (k := 1) rfl (nI_1 k) (by decide) rfl (fun ls hl => ?_)
                                refine lv_goto (tgt := 95) hx hb dX7_of_151 (by decide) ?_
                                exact ih9 (k + 1) (v + r18) _ _ _ (by omega) hP hD hS (lv_sub hl [0, 1, 2, 3, 4, 5] rfl)
                          · skip
                            refine lv_aload_n hx hb dX7_of_122 rfl (lv_at hl 3 rfl) ?_
                            refine lv_iload hx hb dX7_of_123 (lv_at hl 0 rfl) ?_
                            refine lv_iconst (v := nI 1) hx hb dX7_of_125 (by decide) ?_
                            refine lv_iload_n hx hb dX7_of_126 rfl (lv_at hl 4 rfl) ?_
                            refine lv_ishl hx hb dX7_of_127 ?_
                            refine cn_i (y := nI (2 ^ j9)) (m_shl1 (by omega)) ?_
                            refine lv_ixor hx hb dX7_of_128 ?_
                            refine cn_i (y := nI (k ^^^ (2 ^ j9))) (mb_xor k (2 ^ j9)) ?_
                            refine pu_i (va_runV (As := [.int (nI (k ^^^ (2 ^ j9)))]) (rest := [.int (nI 0), .long v]) ⟨hx, hb, hml, hown, hts⟩ (c_X7_isGood l D cI cJ cZ m0 g1 g2 g3 g4 g5 g6 g7 g8 g9 g10 g11 g12 y (k ^^^ (2 ^ j9)) (nI n) mr (nI q) ml fs (by first | assumption | omega) (by exact m_x512 (by omega) (m_p512 (by omega))) (by first | assumption | omega)) (cwV 1 hts gX7_of_X7_isGood rfl rfl rfl (by decide +kernel) ⟨Nat.le_of_ble_eq_true rfl, Nat.le_of_ble_eq_true rfl⟩) ⟨pc_blind, va_recv hK hP (ci := 7) (q0 := 0) rfl rfl, fun U hU hW => ⟨rfl, by rw [hU]; exact hP.sub (ws' := [(m0, .inr (7, [.int (nI n), .ref g1, .ref g2, .ref g3, .int mr, .ref g4, .int (nI y), .ref g5, .int (nI q), .ref g6, .int ml, .ref g7, .ref g8, .ref g9, .ref g10, .ref g11, .ref g12])), (g4, .inl (cZ, 20480, .inl fs))]) [0, 4] rfl, hKN.warm hW⟩⟩ rfl rfl hl.1 rfl (lv_room (Nat.le_of_ble_eq_true rfl)) dX7_of_129 ⟨Nat.le_of_ble_eq_true rfl, Nat.le_of_ble_eq_true rfl⟩) hS hP (fun r19 H locs w19r hP hS => ?_)
                            have w19 : B01 r19 (Sg fs y (k ^^^ (2 ^ j9))) := w19r
                            clear w19r
                            rcases w19 with ⟨rfl, w19⟩ | ⟨rfl, w19⟩
                            · skip
                              refine lv_icmp_eq (tgt := 144) hx hb dX7_of_132 (by decide) (fun c20 => ?_) (fun c20 => ?_)
                              · exact absurd c20 (by first | decide | exact nz_lt (by omega) | exact fun h => h (nz_ge (by omega)))
                              · skip
                                refine lv_aload_n hx hb dX7_of_135 rfl (lv_at hl 3 rfl) ?_
                                refine lv_iload hx hb dX7_of_136 (lv_at hl 0 rfl) ?_
                                refine pu_l (va_runV (As := [.int (nI k)]) (rest := [.long v]) ⟨hx, hb, hml, hown, hts⟩ (c_X7_weight l D cI cJ cZ m0 g1 g2 g3 g4 g5 g6 g7 g8 g9 g10 g11 g12 n mr (nI y) (nI q) ml (nI k) fg fb (by first | assumption | omega)) (cwV 1 hts gX7_of_X7_weight rfl rfl rfl (by decide +kernel) ⟨Nat.le_of_ble_eq_true rfl, Nat.le_of_ble_eq_true rfl⟩) ⟨pc_blind, va_recv hK hP (ci := 7) (q0 := 0) rfl rfl, fun U hU hW => ⟨rfl, by rw [hU]; exact hP.sub (ws' := [(m0, .inr (7, [.int (nI n), .ref g1, .ref g2, .ref g3, .int mr, .ref g4, .int (nI y), .ref g5, .int (nI q), .ref g6, .int ml, .ref g7, .ref g8, .ref g9, .ref g10, .ref g11, .ref g12])), (g1, .inl (cI, 9, .inl fg)), (g2, .inl (cI, 9, .inl fb))]) [0, 1, 2] rfl, hKN.warm hW⟩⟩ rfl rfl hl.1 rfl (lv_room (Nat.le_of_ble_eq_true rfl)) dX7_of_138 ⟨Nat.le_of_ble_eq_true rfl, Nat.le_of_ble_eq_true rfl⟩) hS hP (fun r21 H locs w21r hP hS => ?_)
                                have w21 : True := w21r
                                clear w21r
                                refine lv_goto (tgt := 145) hx hb dX7_of_141 (by decide) ?_
                                refine lv_ladd hx hb dX7_of_145 ?_
                                refine lv_lstore (lv' := [(4, .long (v + r21)), (6, .int (nI k)), (3, .int (nI (nowN fn n))), (0, .ref m0), (1, .int (nI j9)), (2, .int wh)]) hx hb dX7_of_146 hl (by decide) rfl (fun ls hl => ?_)
                                refine lv_iinc (v := nI (k + 1)) (lv' := [(6, .int (nI (k + 1))), (4, .long (v + r21)), (3, .int (nI (nowN fn n))), (0, .ref m0), (1, .int (nI j9)), (2, .int wh)]) hx hb dX7_of_148 hl (k := 1) rfl (nI_1 k) (by decide) rfl (fun ls hl => ?_)
                                refine lv_goto (tgt := 95) hx hb dX7_of_151 (by decide) ?_
                                exact ih9 (k + 1) (v + r21) _ _ _ (by omega) hP hD hS (lv_sub hl [0, 1, 2, 3, 4, 5] rfl)
                            · skip
                              refine lv_icmp_eq (tgt := 144) hx hb dX7_of_132 (by decide) (fun c22 => ?_) (fun c22 => ?_)
                              · skip
                                refine lv_lconst (v := lN 0) hx hb dX7_of_144 (by decide) ?_
                                refine lv_ladd hx hb dX7_of_145 ?_
                                refine lv_lstore (lv' := [(4, .long (v + (lN 0))), (6, .int (nI k)), (3, .int (nI (nowN fn n))), (0, .ref m0), (1, .int (nI j9)), (2, .int wh)]) hx hb dX7_of_146 hl (by decide) rfl (fun ls hl => ?_)
                                refine lv_iinc (v := nI (k + 1)) (lv' := [(6, .int (nI (k + 1))), (4, .long (v + (lN 0))), (3, .int (nI (nowN fn n))), (0, .ref m0), (1, .int (nI j9)), (2, .int wh)]) hx hb dX7_of_148 hl (k := 1) rfl (nI_1 k) (by decide) rfl (fun ls hl => ?_)
                                refine lv_goto (tgt := 95) hx hb dX7_of_151 (by decide) ?_
                                exact ih9 (k + 1) (v + (lN 0)) _ _ _ (by omega) hP hD hS (lv_sub hl [0, 1, 2, 3, 4, 5] rfl)
                              · exact absurd c22 (by first | decide | exact nz_lt (by omega) | exact fun h => h (nz_ge (by omega)))
                      · skip
                        refine lv_if_eq (tgt := 144) hx hb dX7_of_113 (by decide) (fun c23 => ?_) (fun c23 => ?_)
                        · skip
                          refine lv_lconst (v := lN 0) hx hb dX7_of_144 (by decide) ?_
                          refine lv_ladd hx hb dX7_of_145 ?_
                          refine lv_lstore (lv' := [(4, .long (v + (lN 0))), (6, .int (nI k)), (3, .int (nI (nowN fn n))), (0, .ref m0), (1, .int (nI j9)), (2, .int wh)]) hx hb dX7_of_146 hl (by decide) rfl (fun ls hl => ?_)
                          refine lv_iinc (v := nI (k + 1)) (lv' := [(6, .int (nI (k + 1))), (4, .long (v + (lN 0))), (3, .int (nI (nowN fn n))), (0, .ref m0), (1, .int (nI j9)), (2, .int wh)]) hx hb dX7_of_148 hl (k := 1) rfl (nI_1 k) (by decide) rfl (fun ls hl => ?_)
                          refine lv_goto (tgt := 95) hx hb dX7_of_151 (by decide) ?_
                          exact ih9 (k + 1) (v + (lN 0)) _ _ _ (by omega) hP hD hS (lv_sub hl [0, 1, 2, 3, 4, 5] rfl)
                        · exact absurd c23 (by first | decide | exact nz_lt (by omega) | exact fun h => h (nz_ge (by omega)))
                exact loop9 (2 ^ n + 1) 0 (lN 0) _ _ _ (by omega) hP hD hS (lv_sub hl [0, 1, 2, 3, 4, 5] rfl)
              · skip
                refine lv_aload_n hx hb dX7_of_48 rfl (lv_at hl 1 rfl) ?_
                refine mu2_v (n := 12) (wc := [(m0, .inr (7, [.int (nI n), .ref g1, .ref g2, .ref g3, .int mr, .ref g4, .int (nI y), .ref g5, .int (nI q), .ref g6, .int ml, .ref g7, .ref g8, .ref g9, .ref g10, .ref g11, .ref g12])), (g1, .inl (cI, 9, .inl fg)), (g2, .inl (cI, 9, .inl fb)), (g3, .inl (cI, 9, .inl fp)), (g4, .inl (cZ, 20480, .inl fs)), (g12, .inl (cI, 9, .inl th)), (g8, .inl (cJ, 19683, .inr (.inl eb))), (g9, .inl (cI, 19683, .inl en)), (g10, .inl (cI, 19683, .inl ew)), (g11, .inl (cI, 19683, .inl ex))]) (wr := [(g5, .inl (cI, 9, .inl fn)), (g6, .inl (cI, 9, .inl fo))]) (as0 := [m0, g1, g2, g3, g4, g5, g6, g12, g8, g9, g10, g11]) (va_runV (As := []) (rest := []) ⟨hx, hb, hml, hown, hts⟩ (c_X7_plans l D cI cJ cZ m0 g1 g2 g3 g4 g5 g6 g7 g8 g9 g10 g11 g12 n y mr (nI q) ml fg fb fp fs th eb en ew ex (by first | assumption | omega) (by first | assumption | omega) (by first | assumption | omega) (by first | assumption | omega) (by first | assumption | omega)) (cwV 0 hts gX7_of_X7_plans rfl rfl rfl (by decide +kernel) ⟨Nat.le_of_ble_eq_true rfl, Nat.le_of_ble_eq_true rfl⟩) ⟨pm_blind, va_recv hK hP (ci := 7) (q0 := 0) rfl rfl, fun U hU hW => ⟨rfl, by rw [hU]; exact hP.sub (ws' := [(m0, .inr (7, [.int (nI n), .ref g1, .ref g2, .ref g3, .int mr, .ref g4, .int (nI y), .ref g5, .int (nI q), .ref g6, .int ml, .ref g7, .ref g8, .ref g9, .ref g10, .ref g11, .ref g12])), (g1, .inl (cI, 9, .inl fg)), (g2, .inl (cI, 9, .inl fb)), (g3, .inl (cI, 9, .inl fp)), (g4, .inl (cZ, 20480, .inl fs)), (g12, .inl (cI, 9, .inl th)), (g8, .inl (cJ, 19683, .inr (.inl eb))), (g9, .inl (cI, 19683, .inl en)), (g10, .inl (cI, 19683, .inl ew)), (g11, .inl (cI, 19683, .inl ex))]) [0, 1, 2, 3, 4, 7, 8, 9, 10, 11] rfl, hKN.warm hW, (hD.sub (ws' := [(m0, .inr (7, [.int (nI n), .ref g1, .ref g2, .ref g3, .int mr, .ref g4, .int (nI y), .ref g5, .int (nI q), .ref g6, .int ml, .ref g7, .ref g8, .ref g9, .ref g10, .ref g11, .ref g12])), (g1, .inl (cI, 9, .inl fg)), (g2, .inl (cI, 9, .inl fb)), (g3, .inl (cI, 9, .inl fp)), (g4, .inl (cZ, 20480, .inl fs)), (g12, .inl (cI, 9, .inl th)), (g8, .inl (cJ, 19683, .inr (.inl eb))), (g9, .inl (cI, 19683, .inl en)), (g10, .inl (cI, 19683, .inl ew)), (g11, .inl (cI, 19683, .inl ex))]) [0, 1, 2, 3, 4, 7, 8, 9, 10, 11] (by decide) rfl).weaken (fun _ _ _ _ => trivial)⟩⟩ rfl rfl hl.1 rfl (lv_room (Nat.le_of_ble_eq_true rfl)) dX7_of_49 ⟨Nat.le_of_ble_eq_true rfl, Nat.le_of_ble_eq_true rfl⟩) hS hP hD (fun (u : (Nat → Int64) × (Nat → Int32) × (Nat → Int32) × (Nat → Int32)) => [(m0, .inr (7, [.int (nI n), .ref g1, .ref g2, .ref g3, .int mr, .ref g4, .int (nI y), .ref g5, .int (nI q), .ref g6, .int ml, .ref g7, .ref g8, .ref g9, .ref g10, .ref g11, .ref g12])), (g1, .inl (cI, 9, .inl fg)), (g2, .inl (cI, 9, .inl fb)), (g3, .inl (cI, 9, .inl fp)), (g4, .inl (cZ, 20480, .inl fs)), (g5, .inl (cI, 9, .inl fn)), (g6, .inl (cI, 9, .inl fo)), (g12, .inl (cI, 9, .inl th)), (g8, .inl (cJ, 19683, .inr (.inl u.1))), (g9, .inl (cI, 19683, .inl u.2.1)), (g10, .inl (cI, 19683, .inl u.2.2.1)), (g11, .inl (cI, 19683, .inl u.2.2.2))]) [0, 1, 2, 3, 4, 7, 8, 9, 10, 11] [5, 6] rfl rfl rfl (fun _ => rfl) (fun _ => rfl) rfl (fun _ => rfl) (fun _ => rfl) (m_cov rfl) (m_dis rfl) (fun u24 H locs w24r hP hD hS => ?_)
                obtain ⟨u24_ub, u24_un, u24_uw, u24_ux⟩ := u24
                have hP : va_P D vwCl [(m0, .inr (7, [.int (nI n), .ref g1, .ref g2, .ref g3, .int mr, .ref g4, .int (nI y), .ref g5, .int (nI q), .ref g6, .int ml, .ref g7, .ref g8, .ref g9, .ref g10, .ref g11, .ref g12])), (g1, .inl (cI, 9, .inl fg)), (g2, .inl (cI, 9, .inl fb)), (g3, .inl (cI, 9, .inl fp)), (g4, .inl (cZ, 20480, .inl fs)), (g5, .inl (cI, 9, .inl fn)), (g6, .inl (cI, 9, .inl fo)), (g12, .inl (cI, 9, .inl th)), (g8, .inl (cJ, 19683, .inr (.inl u24_ub))), (g9, .inl (cI, 19683, .inl u24_un)), (g10, .inl (cI, 19683, .inl u24_uw)), (g11, .inl (cI, 19683, .inl u24_ux))] H := hP
                have hD : va_D (aA as) [(m0, .inr (7, [.int (nI n), .ref g1, .ref g2, .ref g3, .int mr, .ref g4, .int (nI y), .ref g5, .int (nI q), .ref g6, .int ml, .ref g7, .ref g8, .ref g9, .ref g10, .ref g11, .ref g12])), (g1, .inl (cI, 9, .inl fg)), (g2, .inl (cI, 9, .inl fb)), (g3, .inl (cI, 9, .inl fp)), (g4, .inl (cZ, 20480, .inl fs)), (g5, .inl (cI, 9, .inl fn)), (g6, .inl (cI, 9, .inl fo)), (g12, .inl (cI, 9, .inl th)), (g8, .inl (cJ, 19683, .inr (.inl u24_ub))), (g9, .inl (cI, 19683, .inl u24_un)), (g10, .inl (cI, 19683, .inl u24_uw)), (g11, .inl (cI, 19683, .inl u24_ux))] := hD
                have w24 : ∀ z, z < 3 ^ n → VV fs y n u24_un u24_ux z := w24r
                clear w24r
                refine lv_aload_n hx hb dX7_of_52 rfl (lv_at hl 1 rfl) ?_
                refine va_get (D := D) (ci := 7) (v := .ref g8) (C := RX7) (T := TX7) (N := 17) hx hb hts hiX7 hown hK hP 0 rfl rfl 12 (by decide) hf39 (fun _ h9 => h9) rfl dX7_of_53 ?_
                refine lv_iload_n hx hb dX7_of_56 rfl (lv_at hl 0 rfl) ?_
                refine va_lald hx hb hK hP 8 1 rfl rfl (i := nI (nowN fn n)) (vp_in_nI (by omega) (by omega)) dX7_of_57 ?_
                refine cn_l (y := u24_ub (nowN fn n)) (congrArg u24_ub (nI_clamp (by omega))) ?_
                refine lv_aload_n hx hb dX7_of_58 rfl (lv_at hl 1 rfl) ?_
                refine va_get (D := D) (ci := 7) (v := .ref g8) (C := RX7) (T := TX7) (N := 17) hx hb hts hiX7 hown hK hP 0 rfl rfl 12 (by decide) hf39 (fun _ h9 => h9) rfl dX7_of_59 ?_
                refine lv_iload_n hx hb dX7_of_62 rfl (lv_at hl 0 rfl) ?_
                refine lv_aload_n hx hb dX7_of_63 rfl (lv_at hl 1 rfl) ?_
                refine va_get (D := D) (ci := 7) (v := .ref g12) (C := RX7) (T := TX7) (N := 17) hx hb hts hiX7 hown hK hP 0 rfl rfl 16 (by decide) hf52 (fun _ h9 => h9) rfl dX7_of_64 ?_
                refine lv_iload_n hx hb dX7_of_67 rfl (lv_at hl 2 rfl) ?_
                refine va_iald hx hb hK hP 7 0 rfl rfl (i := nI j9) (vp_in_nI (by omega) (by omega)) dX7_of_68 ?_
                refine cn_i (y := nI (3 ^ j9)) ((congrArg th (nI_clamp (by omega))).trans (hth j9 (by omega))) ?_
                refine lv_iadd hx hb dX7_of_69 ?_
                refine cn_i (y := nI ((nowN fn n) + (3 ^ j9))) (nI_add (nowN fn n) (3 ^ j9)) ?_
                refine va_lald hx hb hK hP 8 1 rfl rfl (i := nI ((nowN fn n) + (3 ^ j9))) (vp_in_nI (by omega) (by omega)) dX7_of_70 ?_
                refine cn_l (y := u24_ub ((nowN fn n) + (3 ^ j9))) (congrArg u24_ub (nI_clamp (by omega))) ?_
                refine lv_lsub hx hb dX7_of_71 ?_
                refine lv_aload_n hx hb dX7_of_72 rfl (lv_at hl 1 rfl) ?_
                refine va_get (D := D) (ci := 7) (v := .ref g8) (C := RX7) (T := TX7) (N := 17) hx hb hts hiX7 hown hK hP 0 rfl rfl 12 (by decide) hf39 (fun _ h9 => h9) rfl dX7_of_73 ?_
                refine lv_iload_n hx hb dX7_of_76 rfl (lv_at hl 0 rfl) ?_
                refine lv_iconst (v := nI 2) hx hb dX7_of_77 (by decide) ?_
                refine lv_aload_n hx hb dX7_of_78 rfl (lv_at hl 1 rfl) ?_
                refine va_get (D := D) (ci := 7) (v := .ref g12) (C := RX7) (T := TX7) (N := 17) hx hb hts hiX7 hown hK hP 0 rfl rfl 16 (by decide) hf52 (fun _ h9 => h9) rfl dX7_of_79 ?_
                refine lv_iload_n hx hb dX7_of_82 rfl (lv_at hl 2 rfl) ?_
                refine va_iald hx hb hK hP 7 0 rfl rfl (i := nI j9) (vp_in_nI (by omega) (by omega)) dX7_of_83 ?_
                refine cn_i (y := nI (3 ^ j9)) ((congrArg th (nI_clamp (by omega))).trans (hth j9 (by omega))) ?_
                refine lv_imul hx hb dX7_of_84 ?_
                refine cn_i (y := nI (2 * (3 ^ j9))) (pk_mul 2 (3 ^ j9)) ?_
                refine lv_iadd hx hb dX7_of_85 ?_
                refine cn_i (y := nI ((nowN fn n) + (2 * (3 ^ j9)))) (nI_add (nowN fn n) (2 * (3 ^ j9))) ?_
                refine va_lald hx hb hK hP 8 1 rfl rfl (i := nI ((nowN fn n) + (2 * (3 ^ j9)))) (vp_in_nI (by omega) (by omega)) dX7_of_86 ?_
                refine cn_l (y := u24_ub ((nowN fn n) + (2 * (3 ^ j9)))) (congrArg u24_ub (nI_clamp (by omega))) ?_
                refine lv_lsub hx hb dX7_of_87 ?_
                rw [← hQ]
                exact W.lret (v := ((u24_ub (nowN fn n)) - (u24_ub ((nowN fn n) + (3 ^ j9)))) - (u24_ub ((nowN fn n) + (2 * (3 ^ j9))))) hx hb hr (fun tS htS hWS => ⟨⟨(((u24_ub (nowN fn n)) - (u24_ub ((nowN fn n) + (3 ^ j9)))) - (u24_ub ((nowN fn n) + (2 * (3 ^ j9))))), (u24_ub, u24_un, u24_uw, u24_ux), rfl, trivial, m_at htS hP⟩, by rw [← has]; exact hS.F htS⟩) (by rw [← has]; exact hS.2.2) dX7_of_88
            · exact absurd c6 (by first | decide | exact nz_lt (by omega) | exact fun h => h (nz_ge (by omega)))
      · skip
        refine lv_if_eq (tgt := 35) hx hb dX7_of_15 (by decide) (fun c25 => ?_) (fun c25 => ?_)
        · skip
          refine lv_ldc2 (v := (-2 : Int64)) hx hb hown (hts (.constantLong RX7 132 (-2 : Int64)) (by decide +kernel)) dX7_of_35 ?_
          rw [← hQ]
          exact W.lret (v := (-2 : Int64)) hx hb hr (fun tS htS hWS => ⟨⟨(-2 : Int64), (eb, en, ew, ex), rfl, trivial, m_at htS hP⟩, by rw [← has]; exact hS.F htS⟩) (by rw [← has]; exact hS.2.2) dX7_of_38
        · exact absurd c25 (by first | decide | exact nz_lt (by omega) | exact fun h => h (nz_ge (by omega)))
  · skip
    refine lv_if_eq (tgt := 35) hx hb dX7_of_5 (by decide) (fun c26 => ?_) (fun c26 => ?_)
    · skip
      refine lv_ldc2 (v := (-2 : Int64)) hx hb hown (hts (.constantLong RX7 132 (-2 : Int64)) (by decide +kernel)) dX7_of_35 ?_
      rw [← hQ]
      exact W.lret (v := (-2 : Int64)) hx hb hr (fun tS htS hWS => ⟨⟨(-2 : Int64), (eb, en, ew, ex), rfl, trivial, m_at htS hP⟩, by rw [← has]; exact hS.F htS⟩) (by rw [← has]; exact hS.2.2) dX7_of_38
    · exact absurd c26 (by first | decide | exact nz_lt (by omega) | exact fun h => h (nz_ge (by omega)))
def rm_c_X7_run_g : Room := { frames := 5, cells := 0, slots := 0, locals := 119 }
set_option maxHeartbeats 400000 in
set_option maxRecDepth 100000 in
theorem c_X7_run_g (l : Launch) (D : va_G) (cI cJ cZ : ClassId) (m0 : Nat) (g1 : Nat) (g2 : Nat) (g3 : Nat) (g4 : Nat) (g5 : Nat) (g6 : Nat) (g7 : Nat) (g8 : Nat) (g9 : Nat) (g10 : Nat) (g11 : Nat) (g12 : Nat) (n : Nat) (y : Nat) (q : Nat) (mr : Int32) (ml : Int32) (p0 : Int32) (p1 : Int32) (fg : Nat → Int32) (fb : Nat → Int32) (fp : Nat → Int32) (fs : Nat → Int32) (fn : Nat → Int32) (fo : Nat → Int32) (fl : Nat → Int32) (th : Nat → Int32) (eb : Nat → Int64) (en : Nat → Int32) (ew : Nat → Int32) (ex : Nat → Int32) (hn : n ≤ 9) (h1n : 1 ≤ n) (hy : y < 40) (hq : q ≤ 9) (hfo : ∀ z, z < q → ∃ x, x < n ∧ fo z = nI x) (hth : ∀ z, z < 9 → th z = nI (3 ^ z)) (h01 : T01 fs) : Met l yX7_run wsX7_run rm_c_X7_run_g (pm_ D cI cJ cZ [.ref m0, .int p0, .int p1] [(m0, .inr (7, [.int (nI n), .ref g1, .ref g2, .ref g3, .int mr, .ref g4, .int (nI y), .ref g5, .int (nI q), .ref g6, .int ml, .ref g7, .ref g8, .ref g9, .ref g10, .ref g11, .ref g12])), (g1, .inl (cI, 9, .inl fg)), (g2, .inl (cI, 9, .inl fb)), (g3, .inl (cI, 9, .inl fp)), (g4, .inl (cZ, 20480, .inl fs)), (g5, .inl (cI, 9, .inl fn)), (g6, .inl (cI, 9, .inl fo)), (g7, .inl (cI, 9, .inl fl)), (g12, .inl (cI, 9, .inl th)), (g8, .inl (cJ, 19683, .inr (.inl eb))), (g9, .inl (cI, 19683, .inl en)), (g10, .inl (cI, 19683, .inl ew)), (g11, .inl (cI, 19683, .inl ex))]) (va_Qi (fun (r : Int32) (u : Int32 × (Nat → Int32) × (Nat → Int64) × (Nat → Int32) × (Nat → Int32) × (Nat → Int32)) => (r = -1 ∧ u.1 = ml ∧ u.2.1 = fl) ∨ (∃ x, x ≤ n ∧ u.1 = nI x)) (fun (u : Int32 × (Nat → Int32) × (Nat → Int64) × (Nat → Int32) × (Nat → Int32) × (Nat → Int32)) tS => va_P D vwCl [(m0, .inr (7, [.int (nI n), .ref g1, .ref g2, .ref g3, .int mr, .ref g4, .int (nI y), .ref g5, .int (nI q), .ref g6, .int u.1, .ref g7, .ref g8, .ref g9, .ref g10, .ref g11, .ref g12])), (g1, .inl (cI, 9, .inl fg)), (g2, .inl (cI, 9, .inl fb)), (g3, .inl (cI, 9, .inl fp)), (g4, .inl (cZ, 20480, .inl fs)), (g5, .inl (cI, 9, .inl fn)), (g6, .inl (cI, 9, .inl fo)), (g7, .inl (cI, 9, .inl u.2.1)), (g12, .inl (cI, 9, .inl th)), (g8, .inl (cJ, 19683, .inr (.inl u.2.2.1))), (g9, .inl (cI, 19683, .inl u.2.2.2.1)), (g10, .inl (cI, 19683, .inl u.2.2.2.2.1)), (g11, .inl (cI, 19683, .inl u.2.2.2.2.2))] tS.heap) (aA [m0, g1, g2, g3, g4, g5, g6, g7, g12, g8, g9, g10, g11])) 0 0 (aA [m0, g1, g2, g3, g4, g5, g6, g7, g12, g8, g9, g10, g11]) := by
  refine Met.ofW (cc := cX7_run) (maxL := 6) (ret := (some .int)) (by decide) rfl ?_
  intro p e s m args below meth c s₁ B hml hv
  obtain ⟨rfl, hP, hKN, hD0⟩ := hv
  have hK := hKN.1
  have hx := B.exec
  have hb := B.bytes
  have hr := B.returns
  have hts := atoms_spec (ws := wsX7_run) B.pre
  have hown : s.vm.findClass RX7 = some m.cls := findClass_of_methodNamed B.named
  have hlocks := B.notSynchronized
  have hiX7 : ∀ w ∈ wsX70, w ∈ wsX7_run := by decide +kernel
  have hf20 := hts (.fieldLink RX7 20 "LookBenchModel" "price" "[I") (by decide +kernel)
  have hf27 := hts (.fieldLink RX7 27 "LookBenchModel" "system" "I") (by decide +kernel)
  have hf36 := hts (.fieldLink RX7 36 "LookBenchModel" "looked" "[I") (by decide +kernel)
  have hf43 := hts (.fieldLink RX7 43 "LookBenchModel" "bestNext" "[I") (by decide +kernel)
  have hf49 := hts (.fieldLink RX7 49 "LookBenchModel" "worstNext" "[I") (by decide +kernel)
  have hf52 := hts (.fieldLink RX7 52 "LookBenchModel" "three" "[I") (by decide +kernel)
  have hf67 := hts (.fieldLink RX7 67 "LookBenchModel" "looks" "I") (by decide +kernel)
  obtain ⟨as, has⟩ : ∃ z : List Nat, z = [m0, g1, g2, g3, g4, g5, g6, g7, g12, g8, g9, g10, g11] := ⟨_, rfl⟩
  have hD := hD0.addr (as := as) (by rw [has]; rfl)
  have hS : va_S (aA as) s.heap s.heap [] := va_S.rf
  have hl := lv_entry ([.ref m0, .int p0, .int p1]) (n := 6) (Nat.le_of_ble_eq_true rfl)
  rw [lg_entry_eq]
  generalize (lg_sl ([.ref m0, .int p0, .int p1]) ++ List.replicate (6 - (lg_sl ([.ref m0, .int p0, .int p1])).length) Slot.unset).toArray = ls at hl ⊢
  have hl : lv_has ls 6 [(0, .ref m0), (1, .int p0), (2, .int p1)] := hl
  generalize hQ : MQ below _ _ s _ _ _ = Q
  obtain ⟨H, hH⟩ : ∃ z, z = s.heap := ⟨_, rfl⟩
  have hP : va_P D vwCl [(m0, .inr (7, [.int (nI n), .ref g1, .ref g2, .ref g3, .int mr, .ref g4, .int (nI y), .ref g5, .int (nI q), .ref g6, .int ml, .ref g7, .ref g8, .ref g9, .ref g10, .ref g11, .ref g12])), (g1, .inl (cI, 9, .inl fg)), (g2, .inl (cI, 9, .inl fb)), (g3, .inl (cI, 9, .inl fp)), (g4, .inl (cZ, 20480, .inl fs)), (g5, .inl (cI, 9, .inl fn)), (g6, .inl (cI, 9, .inl fo)), (g7, .inl (cI, 9, .inl fl)), (g12, .inl (cI, 9, .inl th)), (g8, .inl (cJ, 19683, .inr (.inl eb))), (g9, .inl (cI, 19683, .inl en)), (g10, .inl (cI, 19683, .inl ew)), (g11, .inl (cI, 19683, .inl ex))] H := by rw [hH]; exact hP
  have hS : va_S (aA as) s.heap H [] := by rw [hH]; exact hS
  refine m_heap hH ?_
  clear hH
  have h2n := m_pow hn
  have h2p := m_powp n
  have h3n := m_p3 hn
  have hnl := nowN_lt fn n
  refine lv_aload_n hx hb dX7_run_0 rfl (lv_at hl 0 rfl) ?_
  refine pu_i (va_runV (As := []) (rest := []) ⟨hx, hb, hml, hown, hts⟩ (c_X7_now_g l D cI cJ cZ m0 g1 g2 g3 g4 g5 g6 g7 g8 g9 g10 g11 g12 n mr (nI y) (nI q) ml fn th (by first | assumption | omega) (by first | assumption | omega)) (cwV 0 hts gX7_run_X7_now rfl rfl rfl (by decide +kernel) ⟨Nat.le_of_ble_eq_true rfl, Nat.le_of_ble_eq_true rfl⟩) ⟨pc_blind, va_recv hK hP (ci := 7) (q0 := 0) rfl rfl, fun U hU hW => ⟨rfl, by rw [hU]; exact hP.sub (ws' := [(m0, .inr (7, [.int (nI n), .ref g1, .ref g2, .ref g3, .int mr, .ref g4, .int (nI y), .ref g5, .int (nI q), .ref g6, .int ml, .ref g7, .ref g8, .ref g9, .ref g10, .ref g11, .ref g12])), (g5, .inl (cI, 9, .inl fn)), (g12, .inl (cI, 9, .inl th))]) [0, 5, 8] rfl, hKN.warm hW⟩⟩ rfl rfl hl.1 rfl (lv_room (Nat.le_of_ble_eq_true rfl)) dX7_run_1 ⟨Nat.le_of_ble_eq_true rfl, Nat.le_of_ble_eq_true rfl⟩) hS hP (fun r1 H locs w1r hP hS => ?_)
  have w1 : r1 = nI (nowN fn n) := w1r
  clear w1r
  obtain rfl : r1 = nI (nowN fn n) := w1
  refine lv_istore_n (lv' := [(3, .int (nI (nowN fn n))), (0, .ref m0), (1, .int p0), (2, .int p1)]) hx hb dX7_run_4 rfl hl (by decide) rfl (fun ls hl => ?_)
  refine lv_iload_n hx hb dX7_run_5 rfl (lv_at hl 2 rfl) ?_
  refine lv_i2l hx hb dX7_run_6 rfl ?_
  refine lv_lconst (v := lN 0) hx hb dX7_run_7 (by decide) ?_
  refine lv_ldc2 (v := lN 2) hx hb hown (hts (.constantLong RX7 134 (lN 2)) (by decide +kernel)) dX7_run_8 ?_
  refine pu_i (va_runS (As := [.long p0.toInt64, .long (lN 0), .long (lN 2)]) (rest := []) ⟨hx, hb, hml, hown, hts⟩ (c_X7_in l D cI cJ cZ p0.toInt64 (lN 0) (lN 2)) (va_cwS 3 hts gX7_run_X7_in rfl rfl rfl (by decide +kernel) ⟨Nat.le_of_ble_eq_true rfl, Nat.le_of_ble_eq_true rfl⟩) ⟨pc_blind, fun U hU hW => ⟨rfl, by rw [hU]; exact hP.sub (ws' := []) [] rfl, hKN.warm hW⟩⟩ rfl rfl hl.1 rfl (lv_room (Nat.le_of_ble_eq_true rfl)) dX7_run_11 ⟨Nat.le_of_ble_eq_true rfl, Nat.le_of_ble_eq_true rfl⟩) hS hP (fun r2 H locs w2r hP hS => ?_)
  have w2 : B01 r2 ((lN 0).toInt ≤ p0.toInt64.toInt ∧ p0.toInt64.toInt ≤ (lN 2).toInt) := w2r
  clear w2r
  rw [lN_toInt (n := 0) (by omega), j2 p0, lN_toInt (n := 2) (by omega)] at w2
  rcases w2 with ⟨rfl, w2⟩ | ⟨rfl, w2⟩
  · skip
    refine lv_if_eq (tgt := 49) hx hb dX7_run_14 (by decide) (fun c3 => ?_) (fun c3 => ?_)
    · exact absurd c3 (by first | decide | exact nz_lt (by omega) | exact fun h => h (nz_ge (by omega)))
    · skip
      refine lv_iload_n hx hb dX7_run_17 rfl (lv_at hl 3 rfl) ?_
      refine lv_i2l hx hb dX7_run_18 rfl ?_
      refine lv_lconst (v := lN 0) hx hb dX7_run_19 (by decide) ?_
      refine lv_aload_n hx hb dX7_run_20 rfl (lv_at hl 1 rfl) ?_
      refine pu_i (va_runV (As := []) (rest := [.long (lN 0), .long p1.toInt64]) ⟨hx, hb, hml, hown, hts⟩ (c_X7_settings l D cI cJ cZ m0 g1 g2 g3 g4 g5 g6 g7 g8 g9 g10 g11 g12 n mr (nI y) (nI q) ml (by first | assumption | omega)) (cwV 0 hts gX7_run_X7_settings rfl rfl rfl (by decide +kernel) ⟨Nat.le_of_ble_eq_true rfl, Nat.le_of_ble_eq_true rfl⟩) ⟨pc_blind, va_recv hK hP (ci := 7) (q0 := 0) rfl rfl, fun U hU hW => ⟨rfl, by rw [hU]; exact hP.sub (ws' := [(m0, .inr (7, [.int (nI n), .ref g1, .ref g2, .ref g3, .int mr, .ref g4, .int (nI y), .ref g5, .int (nI q), .ref g6, .int ml, .ref g7, .ref g8, .ref g9, .ref g10, .ref g11, .ref g12]))]) [0] rfl, hKN.warm hW⟩⟩ rfl rfl hl.1 rfl (lv_room (Nat.le_of_ble_eq_true rfl)) dX7_run_21 ⟨Nat.le_of_ble_eq_true rfl, Nat.le_of_ble_eq_true rfl⟩) hS hP (fun r4 H locs w4r hP hS => ?_)
      have w4 : r4 = nI (2 ^ n) := w4r
      clear w4r
      obtain rfl : r4 = nI (2 ^ n) := w4
      refine lv_iconst (v := nI 1) hx hb dX7_run_24 (by decide) ?_
      refine lv_isub hx hb dX7_run_25 ?_
      refine cn_i (y := nI ((2 ^ n) - 1)) (pk_sub (a := (2 ^ n)) (b := 1) (by omega)) ?_
      refine lv_i2l hx hb dX7_run_26 rfl ?_
      refine cn_l (y := lN ((2 ^ n) - 1)) (nI_l (by omega)) ?_
      refine pu_i (va_runS (As := [.long p1.toInt64, .long (lN 0), .long (lN ((2 ^ n) - 1))]) (rest := []) ⟨hx, hb, hml, hown, hts⟩ (c_X7_in l D cI cJ cZ p1.toInt64 (lN 0) (lN ((2 ^ n) - 1))) (va_cwS 3 hts gX7_run_X7_in rfl rfl rfl (by decide +kernel) ⟨Nat.le_of_ble_eq_true rfl, Nat.le_of_ble_eq_true rfl⟩) ⟨pc_blind, fun U hU hW => ⟨rfl, by rw [hU]; exact hP.sub (ws' := []) [] rfl, hKN.warm hW⟩⟩ rfl rfl hl.1 rfl (lv_room (Nat.le_of_ble_eq_true rfl)) dX7_run_27 ⟨Nat.le_of_ble_eq_true rfl, Nat.le_of_ble_eq_true rfl⟩) hS hP (fun r5 H locs w5r hP hS => ?_)
      have w5 : B01 r5 ((lN 0).toInt ≤ p1.toInt64.toInt ∧ p1.toInt64.toInt ≤ (lN ((2 ^ n) - 1)).toInt) := w5r
      clear w5r
      rw [lN_toInt (n := 0) (by omega), j2 p1, lN_toInt (n := ((2 ^ n) - 1)) (by omega)] at w5
      rcases w5 with ⟨rfl, w5⟩ | ⟨rfl, w5⟩
      · skip
        refine lv_if_eq (tgt := 49) hx hb dX7_run_30 (by decide) (fun c6 => ?_) (fun c6 => ?_)
        · exact absurd c6 (by first | decide | exact nz_lt (by omega) | exact fun h => h (nz_ge (by omega)))
        · skip
          refine lv_aload_n hx hb dX7_run_33 rfl (lv_at hl 1 rfl) ?_
          refine va_get (D := D) (ci := 7) (v := .int (nI y)) (C := RX7) (T := TX7) (N := 17) hx hb hts hiX7 hown hK hP 0 rfl rfl 6 (by decide) hf27 (fun _ h9 => h9) rfl dX7_run_34 ?_
          refine lv_if_lt (tgt := 49) hx hb dX7_run_37 (by decide) (fun c7 => ?_) (fun c7 => ?_)
          · exact absurd c7 (by first | decide | exact nz_lt (by omega) | exact fun h => h (nz_ge (by omega)))
          · skip
            refine lv_aload_n hx hb dX7_run_40 rfl (lv_at hl 1 rfl) ?_
            refine lv_iload_n hx hb dX7_run_41 rfl (lv_at hl 3 rfl) ?_
            refine lv_iload_n hx hb dX7_run_42 rfl (lv_at hl 0 rfl) ?_
            refine pu_i (va_runV (As := [.int p1, .int (nI (nowN fn n))]) (rest := []) ⟨hx, hb, hml, hown, hts⟩ (c_X7_isSuch l D cI cJ cZ m0 g1 g2 g3 g4 g5 g6 g7 g8 g9 g10 g11 g12 n (nowN fn n) mr (nI y) (nI q) ml p1 th (by first | assumption | omega) (by first | assumption | omega) (by first | assumption | omega)) (cwV 2 hts gX7_run_X7_isSuch rfl rfl rfl (by decide +kernel) ⟨Nat.le_of_ble_eq_true rfl, Nat.le_of_ble_eq_true rfl⟩) ⟨pc_blind, va_recv hK hP (ci := 7) (q0 := 0) rfl rfl, fun U hU hW => ⟨rfl, by rw [hU]; exact hP.sub (ws' := [(m0, .inr (7, [.int (nI n), .ref g1, .ref g2, .ref g3, .int mr, .ref g4, .int (nI y), .ref g5, .int (nI q), .ref g6, .int ml, .ref g7, .ref g8, .ref g9, .ref g10, .ref g11, .ref g12])), (g12, .inl (cI, 9, .inl th))]) [0, 8] rfl, hKN.warm hW⟩⟩ rfl rfl hl.1 rfl (lv_room (Nat.le_of_ble_eq_true rfl)) dX7_run_43 ⟨Nat.le_of_ble_eq_true rfl, Nat.le_of_ble_eq_true rfl⟩) hS hP (fun r8 H locs w8r hP hS => ?_)
            have w8 : r8 = nI 1 ∨ r8 = nI 0 := w8r
            clear w8r
            rcases w8 with rfl | rfl
            · skip
              refine lv_if_ne (tgt := 51) hx hb dX7_run_46 (by decide) (fun c9 => ?_) (fun c9 => ?_)
              · skip
                refine lv_iload_n hx hb dX7_run_51 rfl (lv_at hl 2 rfl) ?_
                refine lv_iconst (v := nI 2) hx hb dX7_run_52 (by decide) ?_
                refine lv_icmp_ge (tgt := 60) hx hb dX7_run_53 (by decide) (fun c10 => ?_) (fun c10 => ?_)
                · skip
                  have d10 := c10
                  rw [i_le, nI_toInt (n := 2) (by omega)] at d10
                  refine lv_iconst (v := nI 0) hx hb dX7_run_60 (by decide) ?_
                  refine lv_istore (lv' := [(4, .int (nI 0)), (3, .int (nI (nowN fn n))), (0, .ref m0), (1, .int p0), (2, .int p1)]) hx hb dX7_run_61 hl (by decide) rfl (fun ls hl => ?_)
                  refine lv_aload_n hx hb dX7_run_63 rfl (lv_at hl 2 rfl) ?_
                  refine lv_iconst (v := nI 0) hx hb dX7_run_64 (by decide) ?_
                  refine va_put (D := D) (ci := 7) (v := .int (nI 0)) (ty := tyX7 10) (C := RX7) (T := TX7) (N := 17) hx hb hts hiX7 tyX7 tyX7_ok nmX7 hown hK hP hD hS 0 rfl rfl 10 (by decide) hf67 (fun _ h9 => h9) rfl (by decide +kernel) rfl rfl (Nat.le_of_ble_eq_true rfl) dX7_run_65 (fun H locs hP hD hS => ?_)
                  have hP : va_P D vwCl [(m0, .inr (7, [.int (nI n), .ref g1, .ref g2, .ref g3, .int mr, .ref g4, .int (nI y), .ref g5, .int (nI q), .ref g6, .int (nI 0), .ref g7, .ref g8, .ref g9, .ref g10, .ref g11, .ref g12])), (g1, .inl (cI, 9, .inl fg)), (g2, .inl (cI, 9, .inl fb)), (g3, .inl (cI, 9, .inl fp)), (g4, .inl (cZ, 20480, .inl fs)), (g5, .inl (cI, 9, .inl fn)), (g6, .inl (cI, 9, .inl fo)), (g7, .inl (cI, 9, .inl fl)), (g12, .inl (cI, 9, .inl th)), (g8, .inl (cJ, 19683, .inr (.inl eb))), (g9, .inl (cI, 19683, .inl en)), (g10, .inl (cI, 19683, .inl ew)), (g11, .inl (cI, 19683, .inl ex))] H := hP
                  have hD : va_D (aA as) [(m0, .inr (7, [.int (nI n), .ref g1, .ref g2, .ref g3, .int mr, .ref g4, .int (nI y), .ref g5, .int (nI q), .ref g6, .int (nI 0), .ref g7, .ref g8, .ref g9, .ref g10, .ref g11, .ref g12])), (g1, .inl (cI, 9, .inl fg)), (g2, .inl (cI, 9, .inl fb)), (g3, .inl (cI, 9, .inl fp)), (g4, .inl (cZ, 20480, .inl fs)), (g5, .inl (cI, 9, .inl fn)), (g6, .inl (cI, 9, .inl fo)), (g7, .inl (cI, 9, .inl fl)), (g12, .inl (cI, 9, .inl th)), (g8, .inl (cJ, 19683, .inr (.inl eb))), (g9, .inl (cI, 19683, .inl en)), (g10, .inl (cI, 19683, .inl ew)), (g11, .inl (cI, 19683, .inl ex))] := hD
                  have loop11 : ∀ (fu : Nat) (u0 : Nat) (v : Int32) (lq : Nat) (ul : Nat → Int32) (H : Heap) (locs : List Loc) (ls : Array Slot), (u0 < 3 ^ n ∧ 3 ^ n ≤ u0 + fu) → (lq ≤ seenN u0 n) → va_P D vwCl [(m0, .inr (7, [.int (nI n), .ref g1, .ref g2, .ref g3, .int mr, .ref g4, .int (nI y), .ref g5, .int (nI q), .ref g6, .int (nI lq), .ref g7, .ref g8, .ref g9, .ref g10, .ref g11, .ref g12])), (g1, .inl (cI, 9, .inl fg)), (g2, .inl (cI, 9, .inl fb)), (g3, .inl (cI, 9, .inl fp)), (g4, .inl (cZ, 20480, .inl fs)), (g5, .inl (cI, 9, .inl fn)), (g6, .inl (cI, 9, .inl fo)), (g7, .inl (cI, 9, .inl ul)), (g12, .inl (cI, 9, .inl th)), (g8, .inl (cJ, 19683, .inr (.inl eb))), (g9, .inl (cI, 19683, .inl en)), (g10, .inl (cI, 19683, .inl ew)), (g11, .inl (cI, 19683, .inl ex))] H → va_D (aA as) [(m0, .inr (7, [.int (nI n), .ref g1, .ref g2, .ref g3, .int mr, .ref g4, .int (nI y), .ref g5, .int (nI q), .ref g6, .int (nI lq), .ref g7, .ref g8, .ref g9, .ref g10, .ref g11, .ref g12])), (g1, .inl (cI, 9, .inl fg)), (g2, .inl (cI, 9, .inl fb)), (g3, .inl (cI, 9, .inl fp)), (g4, .inl (cZ, 20480, .inl fs)), (g5, .inl (cI, 9, .inl fn)), (g6, .inl (cI, 9, .inl fo)), (g7, .inl (cI, 9, .inl ul)), (g12, .inl (cI, 9, .inl th)), (g8, .inl (cJ, 19683, .inr (.inl eb))), (g9, .inl (cI, 19683, .inl en)), (g10, .inl (cI, 19683, .inl ew)), (g11, .inl (cI, 19683, .inl ex))] → va_S (aA as) s.heap H locs → lv_has ls 6 [(4, .int v), (3, .int (nI u0)), (0, .ref m0), (1, .int p0), (2, .int p1)] → W p l e (headSpec wsX7_run rm_c_X7_run_g).room s m ([.ref m0, .int p0, .int p1] : List Value).toArray below meth c H locs 0 0 Q (F0 m 68 ls []) := by
                    intro fu
                    induction fu with
                    | zero => intro u0 v lq ul H locs ls hu hlq; exact absurd hu (by omega)
                    | succ fu ih11 =>
                      intro u0 v lq ul H locs ls hu hlq hP hD hS hl
                      refine lv_aload_n hx hb dX7_run_68 rfl (lv_at hl 2 rfl) ?_
                      refine lv_iload_n hx hb dX7_run_69 rfl (lv_at hl 1 rfl) ?_
                      refine pu_i (va_runV (As := [.int (nI u0)]) (rest := []) ⟨hx, hb, hml, hown, hts⟩ (c_X7_sureAt l D cI cJ cZ m0 g1 g2 g3 g4 g5 g6 g7 g8 g9 g10 g11 g12 n u0 y mr (nI q) (nI lq) fs th (by first | assumption | omega) (by first | assumption | omega) (by first | assumption | omega) (by first | assumption | omega) (by first | assumption | omega)) (cwV 1 hts gX7_run_X7_sureAt rfl rfl rfl (by decide +kernel) ⟨Nat.le_of_ble_eq_true rfl, Nat.le_of_ble_eq_true rfl⟩) ⟨pc_blind, va_recv hK hP (ci := 7) (q0 := 0) rfl rfl, fun U hU hW => ⟨rfl, by rw [hU]; exact hP.sub (ws' := [(m0, .inr (7, [.int (nI n), .ref g1, .ref g2, .ref g3, .int mr, .ref g4, .int (nI y), .ref g5, .int (nI q), .ref g6, .int (nI lq), .ref g7, .ref g8, .ref g9, .ref g10, .ref g11, .ref g12])), (g4, .inl (cZ, 20480, .inl fs)), (g12, .inl (cI, 9, .inl th))]) [0, 4, 8] rfl, hKN.warm hW⟩⟩ rfl rfl hl.1 rfl (lv_room (Nat.le_of_ble_eq_true rfl)) dX7_run_70 ⟨Nat.le_of_ble_eq_true rfl, Nat.le_of_ble_eq_true rfl⟩) hS hP (fun r12 H locs w12r hP hS => ?_)
                      have w12 : (r12 = nI 1 ∧ Sg fs y (setN u0 1 n)) ∨ (r12 = -1 ∧ ¬ Sg fs y (setN u0 1 n) ∧ Sg fs y (2 ^ n - 1 - setN u0 2 n)) ∨ (r12 = nI 0 ∧ ¬ Sg fs y (setN u0 1 n) ∧ ¬ Sg fs y (2 ^ n - 1 - setN u0 2 n)) := w12r
                      clear w12r
                      rcases w12 with ⟨rfl, w12⟩ | ⟨rfl, w12⟩ | ⟨rfl, w12⟩
                      · skip
                        refine lv_iconst (v := (-1 : Int32)) hx hb dX7_run_73 (by decide) ?_
                        refine lv_icmp_ne (tgt := 173) hx hb dX7_run_74 (by decide) (fun c13 => ?_) (fun c13 => ?_)
                        · skip
                          refine lv_iload hx hb dX7_run_173 (lv_at hl 0 rfl) ?_
                          rw [← hQ]
                          exact W.iret (v := v) hx hb hr (fun tS htS hWS => ⟨⟨v, (nI lq, ul, eb, en, ew, ex), rfl, Or.inr ⟨lq, by have := seenN_le u0 n; omega, rfl⟩, m_at htS hP⟩, by rw [← has]; exact hS.F htS⟩) (by rw [← has]; exact hS.2.2) dX7_run_175
                        · exact absurd c13 (by first | decide | exact nz_lt (by omega) | exact fun h => h (nz_ge (by omega)))
                      · skip
                        refine lv_iconst (v := (-1 : Int32)) hx hb dX7_run_73 (by decide) ?_
                        refine lv_icmp_ne (tgt := 173) hx hb dX7_run_74 (by decide) (fun c14 => ?_) (fun c14 => ?_)
                        · exact absurd c14 (by first | decide | exact nz_lt (by omega) | exact fun h => h (nz_ge (by omega)))
                        · skip
                          refine lv_iload_n hx hb dX7_run_77 rfl (lv_at hl 3 rfl) ?_
                          refine lv_if_ne (tgt := 90) hx hb dX7_run_78 (by decide) (fun c15 => ?_) (fun c15 => ?_)
                          · skip
                            have d15 := c15
                            rw [i_eq, i_z] at d15
                            refine lv_iload_n hx hb dX7_run_90 rfl (lv_at hl 3 rfl) ?_
                            refine lv_iconst (v := nI 1) hx hb dX7_run_91 (by decide) ?_
                            refine lv_icmp_ne (tgt := 104) hx hb dX7_run_92 (by decide) (fun c16 => ?_) (fun c16 => ?_)
                            · skip
                              have d16 := c16
                              rw [i_eq, nI_toInt (n := 1) (by omega)] at d16
                              refine lv_aload_n hx hb dX7_run_104 rfl (lv_at hl 2 rfl) ?_
                              refine lv_iload_n hx hb dX7_run_105 rfl (lv_at hl 1 rfl) ?_
                              refine pu_i (va_runV (As := [.int (nI u0)]) (rest := []) ⟨hx, hb, hml, hown, hts⟩ (c_X7_orderNext l D cI cJ cZ m0 g1 g2 g3 g4 g5 g6 g7 g8 g9 g10 g11 g12 n q u0 mr (nI y) (nI lq) fo th (by first | assumption | omega) (by first | assumption | omega) (by first | assumption | omega) (by first | assumption | omega) (by first | assumption | omega)) (cwV 1 hts gX7_run_X7_orderNext rfl rfl rfl (by decide +kernel) ⟨Nat.le_of_ble_eq_true rfl, Nat.le_of_ble_eq_true rfl⟩) ⟨pc_blind, va_recv hK hP (ci := 7) (q0 := 0) rfl rfl, fun U hU hW => ⟨rfl, by rw [hU]; exact hP.sub (ws' := [(m0, .inr (7, [.int (nI n), .ref g1, .ref g2, .ref g3, .int mr, .ref g4, .int (nI y), .ref g5, .int (nI q), .ref g6, .int (nI lq), .ref g7, .ref g8, .ref g9, .ref g10, .ref g11, .ref g12])), (g6, .inl (cI, 9, .inl fo)), (g12, .inl (cI, 9, .inl th))]) [0, 6, 8] rfl, hKN.warm hW⟩⟩ rfl rfl hl.1 rfl (lv_room (Nat.le_of_ble_eq_true rfl)) dX7_run_106 ⟨Nat.le_of_ble_eq_true rfl, Nat.le_of_ble_eq_true rfl⟩) hS hP (fun r17 H locs w17r hP hS => ?_)
                              have w17 : (r17 = -1 ∧ ∀ z, z < n → ¬ u0 / 3 ^ z % 3 = 0) ∨ (∃ x, x < n ∧ r17 = nI x ∧ u0 / 3 ^ x % 3 = 0) := w17r
                              clear w17r
                              rcases w17 with ⟨rfl, w17⟩ | ⟨x9, hx9, rfl, w17⟩
                              · exact absurd w17 (uns_no w12)
                              · skip
                                refine lv_istore (lv' := [(5, .int (nI x9)), (4, .int v), (3, .int (nI u0)), (0, .ref m0), (1, .int p0), (2, .int p1)]) hx hb dX7_run_109 hl (by decide) rfl (fun ls hl => ?_)
                                refine lv_aload_n hx hb dX7_run_111 rfl (lv_at hl 3 rfl) ?_
                                refine va_get (D := D) (ci := 7) (v := .ref g7) (C := RX7) (T := TX7) (N := 17) hx hb hts hiX7 hown hK hP 0 rfl rfl 11 (by decide) hf36 (fun _ h9 => h9) rfl dX7_run_112 ?_
                                have hsl9 := seenN_le u0 n
                                have hsu1 := seenN_up (d := 1) (cv := u0) (x := x9) (by assumption) (by omega) (by omega) n
                                have hsu2 := seenN_up (d := 2) (cv := u0) (x := x9) (by assumption) (by omega) (by omega) n
                                rw [if_pos hx9] at hsu1 hsu2
                                have hsl1 := seenN_le (u0 + 3 ^ x9 * 1) n
                                refine lv_aload_n hx hb dX7_run_115 rfl (lv_at hl 3 rfl) ?_
                                refine va_get (D := D) (ci := 7) (v := .int (nI lq)) (C := RX7) (T := TX7) (N := 17) hx hb hts hiX7 hown hK hP 0 rfl rfl 10 (by decide) hf67 (fun _ h9 => h9) rfl dX7_run_116 ?_
                                refine lv_iload hx hb dX7_run_119 (lv_at hl 0 rfl) ?_
                                refine va_iast hx hb hK hP hD hS 7 0 rfl rfl (i := nI lq) (vp_in_nI (by omega) (by omega)) dX7_run_121 (fun H locs hP hD hS => ?_)
                                have hP : va_P D vwCl [(m0, .inr (7, [.int (nI n), .ref g1, .ref g2, .ref g3, .int mr, .ref g4, .int (nI y), .ref g5, .int (nI q), .ref g6, .int (nI lq), .ref g7, .ref g8, .ref g9, .ref g10, .ref g11, .ref g12])), (g1, .inl (cI, 9, .inl fg)), (g2, .inl (cI, 9, .inl fb)), (g3, .inl (cI, 9, .inl fp)), (g4, .inl (cZ, 20480, .inl fs)), (g5, .inl (cI, 9, .inl fn)), (g6, .inl (cI, 9, .inl fo)), (g7, .inl (cI, 9, .inl (upd ul (nI lq).toNatClampNeg (nI x9)))), (g12, .inl (cI, 9, .inl th)), (g8, .inl (cJ, 19683, .inr (.inl eb))), (g9, .inl (cI, 19683, .inl en)), (g10, .inl (cI, 19683, .inl ew)), (g11, .inl (cI, 19683, .inl ex))] H := hP
                                have hD : va_D (aA as) [(m0, .inr (7, [.int (nI n), .ref g1, .ref g2, .ref g3, .int mr, .ref g4, .int (nI y), .ref g5, .int (nI q), .ref g6, .int (nI lq), .ref g7, .ref g8, .ref g9, .ref g10, .ref g11, .ref g12])), (g1, .inl (cI, 9, .inl fg)), (g2, .inl (cI, 9, .inl fb)), (g3, .inl (cI, 9, .inl fp)), (g4, .inl (cZ, 20480, .inl fs)), (g5, .inl (cI, 9, .inl fn)), (g6, .inl (cI, 9, .inl fo)), (g7, .inl (cI, 9, .inl (upd ul (nI lq).toNatClampNeg (nI x9)))), (g12, .inl (cI, 9, .inl th)), (g8, .inl (cJ, 19683, .inr (.inl eb))), (g9, .inl (cI, 19683, .inl en)), (g10, .inl (cI, 19683, .inl ew)), (g11, .inl (cI, 19683, .inl ex))] := hD
                                rw [nI_clamp (n := lq) (by omega)] at hP hD
                                refine lv_aload_n hx hb dX7_run_122 rfl (lv_at hl 3 rfl) ?_
                                refine lv_dup hx hb dX7_run_123 rfl ?_
                                refine va_get (D := D) (ci := 7) (v := .int (nI lq)) (C := RX7) (T := TX7) (N := 17) hx hb hts hiX7 hown hK hP 0 rfl rfl 10 (by decide) hf67 (fun _ h9 => h9) rfl dX7_run_124 ?_
                                refine lv_iconst (v := nI 1) hx hb dX7_run_127 (by decide) ?_
                                refine lv_iadd hx hb dX7_run_128 ?_
                                refine cn_i (y := nI (lq + 1)) (nI_add lq 1) ?_
                                refine va_put (D := D) (ci := 7) (v := .int (nI (lq + 1))) (ty := tyX7 10) (C := RX7) (T := TX7) (N := 17) hx hb hts hiX7 tyX7 tyX7_ok nmX7 hown hK hP hD hS 0 rfl rfl 10 (by decide) hf67 (fun _ h9 => h9) rfl (by decide +kernel) rfl rfl (Nat.le_of_ble_eq_true rfl) dX7_run_129 (fun H locs hP hD hS => ?_)
                                have hP : va_P D vwCl [(m0, .inr (7, [.int (nI n), .ref g1, .ref g2, .ref g3, .int mr, .ref g4, .int (nI y), .ref g5, .int (nI q), .ref g6, .int (nI (lq + 1)), .ref g7, .ref g8, .ref g9, .ref g10, .ref g11, .ref g12])), (g1, .inl (cI, 9, .inl fg)), (g2, .inl (cI, 9, .inl fb)), (g3, .inl (cI, 9, .inl fp)), (g4, .inl (cZ, 20480, .inl fs)), (g5, .inl (cI, 9, .inl fn)), (g6, .inl (cI, 9, .inl fo)), (g7, .inl (cI, 9, .inl (upd ul lq (nI x9)))), (g12, .inl (cI, 9, .inl th)), (g8, .inl (cJ, 19683, .inr (.inl eb))), (g9, .inl (cI, 19683, .inl en)), (g10, .inl (cI, 19683, .inl ew)), (g11, .inl (cI, 19683, .inl ex))] H := hP
                                have hD : va_D (aA as) [(m0, .inr (7, [.int (nI n), .ref g1, .ref g2, .ref g3, .int mr, .ref g4, .int (nI y), .ref g5, .int (nI q), .ref g6, .int (nI (lq + 1)), .ref g7, .ref g8, .ref g9, .ref g10, .ref g11, .ref g12])), (g1, .inl (cI, 9, .inl fg)), (g2, .inl (cI, 9, .inl fb)), (g3, .inl (cI, 9, .inl fp)), (g4, .inl (cZ, 20480, .inl fs)), (g5, .inl (cI, 9, .inl fn)), (g6, .inl (cI, 9, .inl fo)), (g7, .inl (cI, 9, .inl (upd ul lq (nI x9)))), (g12, .inl (cI, 9, .inl th)), (g8, .inl (cJ, 19683, .inr (.inl eb))), (g9, .inl (cI, 19683, .inl en)), (g10, .inl (cI, 19683, .inl ew)), (g11, .inl (cI, 19683, .inl ex))] := hD
                                refine lv_iload hx hb dX7_run_132 (lv_at hl 1 rfl) ?_
                                refine lv_aload_n hx hb dX7_run_134 rfl (lv_at hl 3 rfl) ?_
                                refine va_get (D := D) (ci := 7) (v := .ref g3) (C := RX7) (T := TX7) (N := 17) hx hb hts hiX7 hown hK hP 0 rfl rfl 3 (by decide) hf20 (fun _ h9 => h9) rfl dX7_run_135 ?_
                                refine lv_iload hx hb dX7_run_138 (lv_at hl 0 rfl) ?_
                                refine va_iald hx hb hK hP 3 0 rfl rfl (i := nI x9) (vp_in_nI (by omega) (by omega)) dX7_run_140 ?_
                                refine cn_i (y := fp x9) (congrArg fp (nI_clamp (by omega))) ?_
                                refine lv_iadd hx hb dX7_run_141 ?_
                                refine lv_istore (lv' := [(4, .int (v + (fp x9))), (5, .int (nI x9)), (3, .int (nI u0)), (0, .ref m0), (1, .int p0), (2, .int p1)]) hx hb dX7_run_142 hl (by decide) rfl (fun ls hl => ?_)
                                refine lv_iload_n hx hb dX7_run_144 rfl (lv_at hl 2 rfl) ?_
                                refine lv_aload_n hx hb dX7_run_145 rfl (lv_at hl 3 rfl) ?_
                                refine va_get (D := D) (ci := 7) (v := .ref g12) (C := RX7) (T := TX7) (N := 17) hx hb hts hiX7 hown hK hP 0 rfl rfl 16 (by decide) hf52 (fun _ h9 => h9) rfl dX7_run_146 ?_
                                refine lv_iload hx hb dX7_run_149 (lv_at hl 1 rfl) ?_
                                refine va_iald hx hb hK hP 8 0 rfl rfl (i := nI x9) (vp_in_nI (by omega) (by omega)) dX7_run_151 ?_
                                refine cn_i (y := nI (3 ^ x9)) ((congrArg th (nI_clamp (by omega))).trans (hth x9 (by omega))) ?_
                                have hs1 := sb_lt p1 x9
                                refine lv_iload_n hx hb dX7_run_152 rfl (lv_at hl 5 rfl) ?_
                                refine lv_iload hx hb dX7_run_153 (lv_at hl 1 rfl) ?_
                                refine lv_ishr hx hb dX7_run_155 ?_
                                refine lv_iconst (v := nI 1) hx hb dX7_run_156 (by decide) ?_
                                refine lv_iand hx hb dX7_run_157 ?_
                                refine cn_i (y := nI (sb p1 x9)) (sb_ok p1 x9) ?_
                                refine lv_iconst (v := nI 1) hx hb dX7_run_158 (by decide) ?_
                                refine lv_icmp_ne (tgt := 166) hx hb dX7_run_159 (by decide) (fun c18 => ?_) (fun c18 => ?_)
                                · skip
                                  have d18 := c18
                                  rw [nI_eq (by omega) (by omega)] at d18
                                  refine lv_iconst (v := nI 2) hx hb dX7_run_166 (by decide) ?_
                                  refine lv_imul hx hb dX7_run_167 ?_
                                  refine cn_i (y := nI ((3 ^ x9) * 2)) (pk_mul (3 ^ x9) 2) ?_
                                  refine lv_iadd hx hb dX7_run_168 ?_
                                  refine cn_i (y := nI (u0 + ((3 ^ x9) * 2))) (nI_add u0 ((3 ^ x9) * 2)) ?_
                                  refine lv_istore_n (lv' := [(3, .int (nI (u0 + ((3 ^ x9) * 2)))), (4, .int (v + (fp x9))), (5, .int (nI x9)), (0, .ref m0), (1, .int p0), (2, .int p1)]) hx hb dX7_run_169 rfl hl (by decide) rfl (fun ls hl => ?_)
                                  refine lv_goto (tgt := 68) hx hb dX7_run_170 (by decide) ?_
                                  exact ih11 (u0 + ((3 ^ x9) * 2)) (v + (fp x9)) (lq + 1) (upd ul lq (nI x9)) _ _ _ (by have h8 := m_up (n := n) hu.1 hx9 (by assumption); have h9 := m_p3p x9; omega) (by omega) hP hD hS (lv_sub hl [1, 0, 3, 4, 5] rfl)
                                · skip
                                  have d18 := c18
                                  rw [nI_eq (by omega) (by omega)] at d18
                                  refine lv_iconst (v := nI 1) hx hb dX7_run_162 (by decide) ?_
                                  refine lv_goto (tgt := 167) hx hb dX7_run_163 (by decide) ?_
                                  refine lv_imul hx hb dX7_run_167 ?_
                                  refine cn_i (y := nI ((3 ^ x9) * 1)) (pk_mul (3 ^ x9) 1) ?_
                                  refine lv_iadd hx hb dX7_run_168 ?_
                                  refine cn_i (y := nI (u0 + ((3 ^ x9) * 1))) (nI_add u0 ((3 ^ x9) * 1)) ?_
                                  refine lv_istore_n (lv' := [(3, .int (nI (u0 + ((3 ^ x9) * 1)))), (4, .int (v + (fp x9))), (5, .int (nI x9)), (0, .ref m0), (1, .int p0), (2, .int p1)]) hx hb dX7_run_169 rfl hl (by decide) rfl (fun ls hl => ?_)
                                  refine lv_goto (tgt := 68) hx hb dX7_run_170 (by decide) ?_
                                  exact ih11 (u0 + ((3 ^ x9) * 1)) (v + (fp x9)) (lq + 1) (upd ul lq (nI x9)) _ _ _ (by have h8 := m_up (n := n) hu.1 hx9 (by assumption); have h9 := m_p3p x9; omega) (by omega) hP hD hS (lv_sub hl [1, 0, 3, 4, 5] rfl)
                            · skip
                              have d16 := c16
                              rw [i_eq, nI_toInt (n := 1) (by omega)] at d16
                              exfalso; omega
                          · skip
                            have d15 := c15
                            rw [i_eq, i_z] at d15
                            exfalso; omega
                      · skip
                        refine lv_iconst (v := (-1 : Int32)) hx hb dX7_run_73 (by decide) ?_
                        refine lv_icmp_ne (tgt := 173) hx hb dX7_run_74 (by decide) (fun c19 => ?_) (fun c19 => ?_)
                        · skip
                          refine lv_iload hx hb dX7_run_173 (lv_at hl 0 rfl) ?_
                          rw [← hQ]
                          exact W.iret (v := v) hx hb hr (fun tS htS hWS => ⟨⟨v, (nI lq, ul, eb, en, ew, ex), rfl, Or.inr ⟨lq, by have := seenN_le u0 n; omega, rfl⟩, m_at htS hP⟩, by rw [← has]; exact hS.F htS⟩) (by rw [← has]; exact hS.2.2) dX7_run_175
                        · exact absurd c19 (by first | decide | exact nz_lt (by omega) | exact fun h => h (nz_ge (by omega)))
                  exact loop11 (3 ^ n) (nowN fn n) (nI 0) 0 fl _ _ _ (by omega) (by omega) hP hD hS (lv_sub hl [0, 1, 2, 3, 4] rfl)
                · skip
                  have d10 := c10
                  rw [i_le, nI_toInt (n := 2) (by omega)] at d10
                  refine lv_aload_n hx hb dX7_run_56 rfl (lv_at hl 1 rfl) ?_
                  refine mu2_v (n := 13) (wc := [(m0, .inr (7, [.int (nI n), .ref g1, .ref g2, .ref g3, .int mr, .ref g4, .int (nI y), .ref g5, .int (nI q), .ref g6, .int ml, .ref g7, .ref g8, .ref g9, .ref g10, .ref g11, .ref g12])), (g1, .inl (cI, 9, .inl fg)), (g2, .inl (cI, 9, .inl fb)), (g3, .inl (cI, 9, .inl fp)), (g4, .inl (cZ, 20480, .inl fs)), (g12, .inl (cI, 9, .inl th)), (g8, .inl (cJ, 19683, .inr (.inl eb))), (g9, .inl (cI, 19683, .inl en)), (g10, .inl (cI, 19683, .inl ew)), (g11, .inl (cI, 19683, .inl ex))]) (wr := [(g5, .inl (cI, 9, .inl fn)), (g6, .inl (cI, 9, .inl fo)), (g7, .inl (cI, 9, .inl fl))]) (as0 := [m0, g1, g2, g3, g4, g5, g6, g7, g12, g8, g9, g10, g11]) (va_runV (As := []) (rest := []) ⟨hx, hb, hml, hown, hts⟩ (c_X7_plans l D cI cJ cZ m0 g1 g2 g3 g4 g5 g6 g7 g8 g9 g10 g11 g12 n y mr (nI q) ml fg fb fp fs th eb en ew ex (by first | assumption | omega) (by first | assumption | omega) (by first | assumption | omega) (by first | assumption | omega) (by first | assumption | omega)) (cwV 0 hts gX7_run_X7_plans rfl rfl rfl (by decide +kernel) ⟨Nat.le_of_ble_eq_true rfl, Nat.le_of_ble_eq_true rfl⟩) ⟨pm_blind, va_recv hK hP (ci := 7) (q0 := 0) rfl rfl, fun U hU hW => ⟨rfl, by rw [hU]; exact hP.sub (ws' := [(m0, .inr (7, [.int (nI n), .ref g1, .ref g2, .ref g3, .int mr, .ref g4, .int (nI y), .ref g5, .int (nI q), .ref g6, .int ml, .ref g7, .ref g8, .ref g9, .ref g10, .ref g11, .ref g12])), (g1, .inl (cI, 9, .inl fg)), (g2, .inl (cI, 9, .inl fb)), (g3, .inl (cI, 9, .inl fp)), (g4, .inl (cZ, 20480, .inl fs)), (g12, .inl (cI, 9, .inl th)), (g8, .inl (cJ, 19683, .inr (.inl eb))), (g9, .inl (cI, 19683, .inl en)), (g10, .inl (cI, 19683, .inl ew)), (g11, .inl (cI, 19683, .inl ex))]) [0, 1, 2, 3, 4, 8, 9, 10, 11, 12] rfl, hKN.warm hW, (hD.sub (ws' := [(m0, .inr (7, [.int (nI n), .ref g1, .ref g2, .ref g3, .int mr, .ref g4, .int (nI y), .ref g5, .int (nI q), .ref g6, .int ml, .ref g7, .ref g8, .ref g9, .ref g10, .ref g11, .ref g12])), (g1, .inl (cI, 9, .inl fg)), (g2, .inl (cI, 9, .inl fb)), (g3, .inl (cI, 9, .inl fp)), (g4, .inl (cZ, 20480, .inl fs)), (g12, .inl (cI, 9, .inl th)), (g8, .inl (cJ, 19683, .inr (.inl eb))), (g9, .inl (cI, 19683, .inl en)), (g10, .inl (cI, 19683, .inl ew)), (g11, .inl (cI, 19683, .inl ex))]) [0, 1, 2, 3, 4, 8, 9, 10, 11, 12] (by decide) rfl).weaken (fun _ _ _ _ => trivial)⟩⟩ rfl rfl hl.1 rfl (lv_room (Nat.le_of_ble_eq_true rfl)) dX7_run_57 ⟨Nat.le_of_ble_eq_true rfl, Nat.le_of_ble_eq_true rfl⟩) hS hP hD (fun (u : (Nat → Int64) × (Nat → Int32) × (Nat → Int32) × (Nat → Int32)) => [(m0, .inr (7, [.int (nI n), .ref g1, .ref g2, .ref g3, .int mr, .ref g4, .int (nI y), .ref g5, .int (nI q), .ref g6, .int ml, .ref g7, .ref g8, .ref g9, .ref g10, .ref g11, .ref g12])), (g1, .inl (cI, 9, .inl fg)), (g2, .inl (cI, 9, .inl fb)), (g3, .inl (cI, 9, .inl fp)), (g4, .inl (cZ, 20480, .inl fs)), (g5, .inl (cI, 9, .inl fn)), (g6, .inl (cI, 9, .inl fo)), (g7, .inl (cI, 9, .inl fl)), (g12, .inl (cI, 9, .inl th)), (g8, .inl (cJ, 19683, .inr (.inl u.1))), (g9, .inl (cI, 19683, .inl u.2.1)), (g10, .inl (cI, 19683, .inl u.2.2.1)), (g11, .inl (cI, 19683, .inl u.2.2.2))]) [0, 1, 2, 3, 4, 8, 9, 10, 11, 12] [5, 6, 7] rfl rfl rfl (fun _ => rfl) (fun _ => rfl) rfl (fun _ => rfl) (fun _ => rfl) (m_cov rfl) (m_dis rfl) (fun u20 H locs w20r hP hD hS => ?_)
                  obtain ⟨u20_ub, u20_un, u20_uw, u20_ux⟩ := u20
                  have hP : va_P D vwCl [(m0, .inr (7, [.int (nI n), .ref g1, .ref g2, .ref g3, .int mr, .ref g4, .int (nI y), .ref g5, .int (nI q), .ref g6, .int ml, .ref g7, .ref g8, .ref g9, .ref g10, .ref g11, .ref g12])), (g1, .inl (cI, 9, .inl fg)), (g2, .inl (cI, 9, .inl fb)), (g3, .inl (cI, 9, .inl fp)), (g4, .inl (cZ, 20480, .inl fs)), (g5, .inl (cI, 9, .inl fn)), (g6, .inl (cI, 9, .inl fo)), (g7, .inl (cI, 9, .inl fl)), (g12, .inl (cI, 9, .inl th)), (g8, .inl (cJ, 19683, .inr (.inl u20_ub))), (g9, .inl (cI, 19683, .inl u20_un)), (g10, .inl (cI, 19683, .inl u20_uw)), (g11, .inl (cI, 19683, .inl u20_ux))] H := hP
                  have hD : va_D (aA as) [(m0, .inr (7, [.int (nI n), .ref g1, .ref g2, .ref g3, .int mr, .ref g4, .int (nI y), .ref g5, .int (nI q), .ref g6, .int ml, .ref g7, .ref g8, .ref g9, .ref g10, .ref g11, .ref g12])), (g1, .inl (cI, 9, .inl fg)), (g2, .inl (cI, 9, .inl fb)), (g3, .inl (cI, 9, .inl fp)), (g4, .inl (cZ, 20480, .inl fs)), (g5, .inl (cI, 9, .inl fn)), (g6, .inl (cI, 9, .inl fo)), (g7, .inl (cI, 9, .inl fl)), (g12, .inl (cI, 9, .inl th)), (g8, .inl (cJ, 19683, .inr (.inl u20_ub))), (g9, .inl (cI, 19683, .inl u20_un)), (g10, .inl (cI, 19683, .inl u20_uw)), (g11, .inl (cI, 19683, .inl u20_ux))] := hD
                  have w20 : ∀ z, z < 3 ^ n → VV fs y n u20_un u20_ux z := w20r
                  clear w20r
                  have hvv := w20
                  refine lv_iconst (v := nI 0) hx hb dX7_run_60 (by decide) ?_
                  refine lv_istore (lv' := [(4, .int (nI 0)), (3, .int (nI (nowN fn n))), (0, .ref m0), (1, .int p0), (2, .int p1)]) hx hb dX7_run_61 hl (by decide) rfl (fun ls hl => ?_)
                  refine lv_aload_n hx hb dX7_run_63 rfl (lv_at hl 2 rfl) ?_
                  refine lv_iconst (v := nI 0) hx hb dX7_run_64 (by decide) ?_
                  refine va_put (D := D) (ci := 7) (v := .int (nI 0)) (ty := tyX7 10) (C := RX7) (T := TX7) (N := 17) hx hb hts hiX7 tyX7 tyX7_ok nmX7 hown hK hP hD hS 0 rfl rfl 10 (by decide) hf67 (fun _ h9 => h9) rfl (by decide +kernel) rfl rfl (Nat.le_of_ble_eq_true rfl) dX7_run_65 (fun H locs hP hD hS => ?_)
                  have hP : va_P D vwCl [(m0, .inr (7, [.int (nI n), .ref g1, .ref g2, .ref g3, .int mr, .ref g4, .int (nI y), .ref g5, .int (nI q), .ref g6, .int (nI 0), .ref g7, .ref g8, .ref g9, .ref g10, .ref g11, .ref g12])), (g1, .inl (cI, 9, .inl fg)), (g2, .inl (cI, 9, .inl fb)), (g3, .inl (cI, 9, .inl fp)), (g4, .inl (cZ, 20480, .inl fs)), (g5, .inl (cI, 9, .inl fn)), (g6, .inl (cI, 9, .inl fo)), (g7, .inl (cI, 9, .inl fl)), (g12, .inl (cI, 9, .inl th)), (g8, .inl (cJ, 19683, .inr (.inl u20_ub))), (g9, .inl (cI, 19683, .inl u20_un)), (g10, .inl (cI, 19683, .inl u20_uw)), (g11, .inl (cI, 19683, .inl u20_ux))] H := hP
                  have hD : va_D (aA as) [(m0, .inr (7, [.int (nI n), .ref g1, .ref g2, .ref g3, .int mr, .ref g4, .int (nI y), .ref g5, .int (nI q), .ref g6, .int (nI 0), .ref g7, .ref g8, .ref g9, .ref g10, .ref g11, .ref g12])), (g1, .inl (cI, 9, .inl fg)), (g2, .inl (cI, 9, .inl fb)), (g3, .inl (cI, 9, .inl fp)), (g4, .inl (cZ, 20480, .inl fs)), (g5, .inl (cI, 9, .inl fn)), (g6, .inl (cI, 9, .inl fo)), (g7, .inl (cI, 9, .inl fl)), (g12, .inl (cI, 9, .inl th)), (g8, .inl (cJ, 19683, .inr (.inl u20_ub))), (g9, .inl (cI, 19683, .inl u20_un)), (g10, .inl (cI, 19683, .inl u20_uw)), (g11, .inl (cI, 19683, .inl u20_ux))] := hD
                  have loop21 : ∀ (fu : Nat) (u0 : Nat) (v : Int32) (lq : Nat) (ul : Nat → Int32) (H : Heap) (locs : List Loc) (ls : Array Slot), (u0 < 3 ^ n ∧ 3 ^ n ≤ u0 + fu) → (lq ≤ seenN u0 n) → va_P D vwCl [(m0, .inr (7, [.int (nI n), .ref g1, .ref g2, .ref g3, .int mr, .ref g4, .int (nI y), .ref g5, .int (nI q), .ref g6, .int (nI lq), .ref g7, .ref g8, .ref g9, .ref g10, .ref g11, .ref g12])), (g1, .inl (cI, 9, .inl fg)), (g2, .inl (cI, 9, .inl fb)), (g3, .inl (cI, 9, .inl fp)), (g4, .inl (cZ, 20480, .inl fs)), (g5, .inl (cI, 9, .inl fn)), (g6, .inl (cI, 9, .inl fo)), (g7, .inl (cI, 9, .inl ul)), (g12, .inl (cI, 9, .inl th)), (g8, .inl (cJ, 19683, .inr (.inl u20_ub))), (g9, .inl (cI, 19683, .inl u20_un)), (g10, .inl (cI, 19683, .inl u20_uw)), (g11, .inl (cI, 19683, .inl u20_ux))] H → va_D (aA as) [(m0, .inr (7, [.int (nI n), .ref g1, .ref g2, .ref g3, .int mr, .ref g4, .int (nI y), .ref g5, .int (nI q), .ref g6, .int (nI lq), .ref g7, .ref g8, .ref g9, .ref g10, .ref g11, .ref g12])), (g1, .inl (cI, 9, .inl fg)), (g2, .inl (cI, 9, .inl fb)), (g3, .inl (cI, 9, .inl fp)), (g4, .inl (cZ, 20480, .inl fs)), (g5, .inl (cI, 9, .inl fn)), (g6, .inl (cI, 9, .inl fo)), (g7, .inl (cI, 9, .inl ul)), (g12, .inl (cI, 9, .inl th)), (g8, .inl (cJ, 19683, .inr (.inl u20_ub))), (g9, .inl (cI, 19683, .inl u20_un)), (g10, .inl (cI, 19683, .inl u20_uw)), (g11, .inl (cI, 19683, .inl u20_ux))] → va_S (aA as) s.heap H locs → lv_has ls 6 [(4, .int v), (3, .int (nI u0)), (0, .ref m0), (1, .int p0), (2, .int p1)] → W p l e (headSpec wsX7_run rm_c_X7_run_g).room s m ([.ref m0, .int p0, .int p1] : List Value).toArray below meth c H locs 0 0 Q (F0 m 68 ls []) := by
                    intro fu
                    induction fu with
                    | zero => intro u0 v lq ul H locs ls hu hlq; exact absurd hu (by omega)
                    | succ fu ih21 =>
                      intro u0 v lq ul H locs ls hu hlq hP hD hS hl
                      refine lv_aload_n hx hb dX7_run_68 rfl (lv_at hl 2 rfl) ?_
                      refine lv_iload_n hx hb dX7_run_69 rfl (lv_at hl 1 rfl) ?_
                      refine pu_i (va_runV (As := [.int (nI u0)]) (rest := []) ⟨hx, hb, hml, hown, hts⟩ (c_X7_sureAt l D cI cJ cZ m0 g1 g2 g3 g4 g5 g6 g7 g8 g9 g10 g11 g12 n u0 y mr (nI q) (nI lq) fs th (by first | assumption | omega) (by first | assumption | omega) (by first | assumption | omega) (by first | assumption | omega) (by first | assumption | omega)) (cwV 1 hts gX7_run_X7_sureAt rfl rfl rfl (by decide +kernel) ⟨Nat.le_of_ble_eq_true rfl, Nat.le_of_ble_eq_true rfl⟩) ⟨pc_blind, va_recv hK hP (ci := 7) (q0 := 0) rfl rfl, fun U hU hW => ⟨rfl, by rw [hU]; exact hP.sub (ws' := [(m0, .inr (7, [.int (nI n), .ref g1, .ref g2, .ref g3, .int mr, .ref g4, .int (nI y), .ref g5, .int (nI q), .ref g6, .int (nI lq), .ref g7, .ref g8, .ref g9, .ref g10, .ref g11, .ref g12])), (g4, .inl (cZ, 20480, .inl fs)), (g12, .inl (cI, 9, .inl th))]) [0, 4, 8] rfl, hKN.warm hW⟩⟩ rfl rfl hl.1 rfl (lv_room (Nat.le_of_ble_eq_true rfl)) dX7_run_70 ⟨Nat.le_of_ble_eq_true rfl, Nat.le_of_ble_eq_true rfl⟩) hS hP (fun r22 H locs w22r hP hS => ?_)
                      have w22 : (r22 = nI 1 ∧ Sg fs y (setN u0 1 n)) ∨ (r22 = -1 ∧ ¬ Sg fs y (setN u0 1 n) ∧ Sg fs y (2 ^ n - 1 - setN u0 2 n)) ∨ (r22 = nI 0 ∧ ¬ Sg fs y (setN u0 1 n) ∧ ¬ Sg fs y (2 ^ n - 1 - setN u0 2 n)) := w22r
                      clear w22r
                      rcases w22 with ⟨rfl, w22⟩ | ⟨rfl, w22⟩ | ⟨rfl, w22⟩
                      · skip
                        refine lv_iconst (v := (-1 : Int32)) hx hb dX7_run_73 (by decide) ?_
                        refine lv_icmp_ne (tgt := 173) hx hb dX7_run_74 (by decide) (fun c23 => ?_) (fun c23 => ?_)
                        · skip
                          refine lv_iload hx hb dX7_run_173 (lv_at hl 0 rfl) ?_
                          rw [← hQ]
                          exact W.iret (v := v) hx hb hr (fun tS htS hWS => ⟨⟨v, (nI lq, ul, u20_ub, u20_un, u20_uw, u20_ux), rfl, Or.inr ⟨lq, by have := seenN_le u0 n; omega, rfl⟩, m_at htS hP⟩, by rw [← has]; exact hS.F htS⟩) (by rw [← has]; exact hS.2.2) dX7_run_175
                        · exact absurd c23 (by first | decide | exact nz_lt (by omega) | exact fun h => h (nz_ge (by omega)))
                      · skip
                        refine lv_iconst (v := (-1 : Int32)) hx hb dX7_run_73 (by decide) ?_
                        refine lv_icmp_ne (tgt := 173) hx hb dX7_run_74 (by decide) (fun c24 => ?_) (fun c24 => ?_)
                        · exact absurd c24 (by first | decide | exact nz_lt (by omega) | exact fun h => h (nz_ge (by omega)))
                        · skip
                          refine lv_iload_n hx hb dX7_run_77 rfl (lv_at hl 3 rfl) ?_
                          refine lv_if_ne (tgt := 90) hx hb dX7_run_78 (by decide) (fun c25 => ?_) (fun c25 => ?_)
                          · skip
                            have d25 := c25
                            rw [i_eq, i_z] at d25
                            refine lv_iload_n hx hb dX7_run_90 rfl (lv_at hl 3 rfl) ?_
                            refine lv_iconst (v := nI 1) hx hb dX7_run_91 (by decide) ?_
                            refine lv_icmp_ne (tgt := 104) hx hb dX7_run_92 (by decide) (fun c26 => ?_) (fun c26 => ?_)
                            · skip
                              have d26 := c26
                              rw [i_eq, nI_toInt (n := 1) (by omega)] at d26
                              refine lv_aload_n hx hb dX7_run_104 rfl (lv_at hl 2 rfl) ?_
                              refine lv_iload_n hx hb dX7_run_105 rfl (lv_at hl 1 rfl) ?_
                              refine pu_i (va_runV (As := [.int (nI u0)]) (rest := []) ⟨hx, hb, hml, hown, hts⟩ (c_X7_orderNext l D cI cJ cZ m0 g1 g2 g3 g4 g5 g6 g7 g8 g9 g10 g11 g12 n q u0 mr (nI y) (nI lq) fo th (by first | assumption | omega) (by first | assumption | omega) (by first | assumption | omega) (by first | assumption | omega) (by first | assumption | omega)) (cwV 1 hts gX7_run_X7_orderNext rfl rfl rfl (by decide +kernel) ⟨Nat.le_of_ble_eq_true rfl, Nat.le_of_ble_eq_true rfl⟩) ⟨pc_blind, va_recv hK hP (ci := 7) (q0 := 0) rfl rfl, fun U hU hW => ⟨rfl, by rw [hU]; exact hP.sub (ws' := [(m0, .inr (7, [.int (nI n), .ref g1, .ref g2, .ref g3, .int mr, .ref g4, .int (nI y), .ref g5, .int (nI q), .ref g6, .int (nI lq), .ref g7, .ref g8, .ref g9, .ref g10, .ref g11, .ref g12])), (g6, .inl (cI, 9, .inl fo)), (g12, .inl (cI, 9, .inl th))]) [0, 6, 8] rfl, hKN.warm hW⟩⟩ rfl rfl hl.1 rfl (lv_room (Nat.le_of_ble_eq_true rfl)) dX7_run_106 ⟨Nat.le_of_ble_eq_true rfl, Nat.le_of_ble_eq_true rfl⟩) hS hP (fun r27 H locs w27r hP hS => ?_)
                              have w27 : (r27 = -1 ∧ ∀ z, z < n → ¬ u0 / 3 ^ z % 3 = 0) ∨ (∃ x, x < n ∧ r27 = nI x ∧ u0 / 3 ^ x % 3 = 0) := w27r
                              clear w27r
                              rcases w27 with ⟨rfl, w27⟩ | ⟨x9, hx9, rfl, w27⟩
                              · exact absurd w27 (uns_no w22)
                              · skip
                                refine lv_istore (lv' := [(5, .int (nI x9)), (4, .int v), (3, .int (nI u0)), (0, .ref m0), (1, .int p0), (2, .int p1)]) hx hb dX7_run_109 hl (by decide) rfl (fun ls hl => ?_)
                                refine lv_aload_n hx hb dX7_run_111 rfl (lv_at hl 3 rfl) ?_
                                refine va_get (D := D) (ci := 7) (v := .ref g7) (C := RX7) (T := TX7) (N := 17) hx hb hts hiX7 hown hK hP 0 rfl rfl 11 (by decide) hf36 (fun _ h9 => h9) rfl dX7_run_112 ?_
                                have hsl9 := seenN_le u0 n
                                have hsu1 := seenN_up (d := 1) (cv := u0) (x := x9) (by assumption) (by omega) (by omega) n
                                have hsu2 := seenN_up (d := 2) (cv := u0) (x := x9) (by assumption) (by omega) (by omega) n
                                rw [if_pos hx9] at hsu1 hsu2
                                have hsl1 := seenN_le (u0 + 3 ^ x9 * 1) n
                                refine lv_aload_n hx hb dX7_run_115 rfl (lv_at hl 3 rfl) ?_
                                refine va_get (D := D) (ci := 7) (v := .int (nI lq)) (C := RX7) (T := TX7) (N := 17) hx hb hts hiX7 hown hK hP 0 rfl rfl 10 (by decide) hf67 (fun _ h9 => h9) rfl dX7_run_116 ?_
                                refine lv_iload hx hb dX7_run_119 (lv_at hl 0 rfl) ?_
                                refine va_iast hx hb hK hP hD hS 7 0 rfl rfl (i := nI lq) (vp_in_nI (by omega) (by omega)) dX7_run_121 (fun H locs hP hD hS => ?_)
                                have hP : va_P D vwCl [(m0, .inr (7, [.int (nI n), .ref g1, .ref g2, .ref g3, .int mr, .ref g4, .int (nI y), .ref g5, .int (nI q), .ref g6, .int (nI lq), .ref g7, .ref g8, .ref g9, .ref g10, .ref g11, .ref g12])), (g1, .inl (cI, 9, .inl fg)), (g2, .inl (cI, 9, .inl fb)), (g3, .inl (cI, 9, .inl fp)), (g4, .inl (cZ, 20480, .inl fs)), (g5, .inl (cI, 9, .inl fn)), (g6, .inl (cI, 9, .inl fo)), (g7, .inl (cI, 9, .inl (upd ul (nI lq).toNatClampNeg (nI x9)))), (g12, .inl (cI, 9, .inl th)), (g8, .inl (cJ, 19683, .inr (.inl u20_ub))), (g9, .inl (cI, 19683, .inl u20_un)), (g10, .inl (cI, 19683, .inl u20_uw)), (g11, .inl (cI, 19683, .inl u20_ux))] H := hP
                                have hD : va_D (aA as) [(m0, .inr (7, [.int (nI n), .ref g1, .ref g2, .ref g3, .int mr, .ref g4, .int (nI y), .ref g5, .int (nI q), .ref g6, .int (nI lq), .ref g7, .ref g8, .ref g9, .ref g10, .ref g11, .ref g12])), (g1, .inl (cI, 9, .inl fg)), (g2, .inl (cI, 9, .inl fb)), (g3, .inl (cI, 9, .inl fp)), (g4, .inl (cZ, 20480, .inl fs)), (g5, .inl (cI, 9, .inl fn)), (g6, .inl (cI, 9, .inl fo)), (g7, .inl (cI, 9, .inl (upd ul (nI lq).toNatClampNeg (nI x9)))), (g12, .inl (cI, 9, .inl th)), (g8, .inl (cJ, 19683, .inr (.inl u20_ub))), (g9, .inl (cI, 19683, .inl u20_un)), (g10, .inl (cI, 19683, .inl u20_uw)), (g11, .inl (cI, 19683, .inl u20_ux))] := hD
                                rw [nI_clamp (n := lq) (by omega)] at hP hD
                                refine lv_aload_n hx hb dX7_run_122 rfl (lv_at hl 3 rfl) ?_
                                refine lv_dup hx hb dX7_run_123 rfl ?_
                                refine va_get (D := D) (ci := 7) (v := .int (nI lq)) (C := RX7) (T := TX7) (N := 17) hx hb hts hiX7 hown hK hP 0 rfl rfl 10 (by decide) hf67 (fun _ h9 => h9) rfl dX7_run_124 ?_
                                refine lv_iconst (v := nI 1) hx hb dX7_run_127 (by decide) ?_
                                refine lv_iadd hx hb dX7_run_128 ?_
                                refine cn_i (y := nI (lq + 1)) (nI_add lq 1) ?_
                                refine va_put (D := D) (ci := 7) (v := .int (nI (lq + 1))) (ty := tyX7 10) (C := RX7) (T := TX7) (N := 17) hx hb hts hiX7 tyX7 tyX7_ok nmX7 hown hK hP hD hS 0 rfl rfl 10 (by decide) hf67 (fun _ h9 => h9) rfl (by decide +kernel) rfl rfl (Nat.le_of_ble_eq_true rfl) dX7_run_129 (fun H locs hP hD hS => ?_)
                                have hP : va_P D vwCl [(m0, .inr (7, [.int (nI n), .ref g1, .ref g2, .ref g3, .int mr, .ref g4, .int (nI y), .ref g5, .int (nI q), .ref g6, .int (nI (lq + 1)), .ref g7, .ref g8, .ref g9, .ref g10, .ref g11, .ref g12])), (g1, .inl (cI, 9, .inl fg)), (g2, .inl (cI, 9, .inl fb)), (g3, .inl (cI, 9, .inl fp)), (g4, .inl (cZ, 20480, .inl fs)), (g5, .inl (cI, 9, .inl fn)), (g6, .inl (cI, 9, .inl fo)), (g7, .inl (cI, 9, .inl (upd ul lq (nI x9)))), (g12, .inl (cI, 9, .inl th)), (g8, .inl (cJ, 19683, .inr (.inl u20_ub))), (g9, .inl (cI, 19683, .inl u20_un)), (g10, .inl (cI, 19683, .inl u20_uw)), (g11, .inl (cI, 19683, .inl u20_ux))] H := hP
                                have hD : va_D (aA as) [(m0, .inr (7, [.int (nI n), .ref g1, .ref g2, .ref g3, .int mr, .ref g4, .int (nI y), .ref g5, .int (nI q), .ref g6, .int (nI (lq + 1)), .ref g7, .ref g8, .ref g9, .ref g10, .ref g11, .ref g12])), (g1, .inl (cI, 9, .inl fg)), (g2, .inl (cI, 9, .inl fb)), (g3, .inl (cI, 9, .inl fp)), (g4, .inl (cZ, 20480, .inl fs)), (g5, .inl (cI, 9, .inl fn)), (g6, .inl (cI, 9, .inl fo)), (g7, .inl (cI, 9, .inl (upd ul lq (nI x9)))), (g12, .inl (cI, 9, .inl th)), (g8, .inl (cJ, 19683, .inr (.inl u20_ub))), (g9, .inl (cI, 19683, .inl u20_un)), (g10, .inl (cI, 19683, .inl u20_uw)), (g11, .inl (cI, 19683, .inl u20_ux))] := hD
                                refine lv_iload hx hb dX7_run_132 (lv_at hl 1 rfl) ?_
                                refine lv_aload_n hx hb dX7_run_134 rfl (lv_at hl 3 rfl) ?_
                                refine va_get (D := D) (ci := 7) (v := .ref g3) (C := RX7) (T := TX7) (N := 17) hx hb hts hiX7 hown hK hP 0 rfl rfl 3 (by decide) hf20 (fun _ h9 => h9) rfl dX7_run_135 ?_
                                refine lv_iload hx hb dX7_run_138 (lv_at hl 0 rfl) ?_
                                refine va_iald hx hb hK hP 3 0 rfl rfl (i := nI x9) (vp_in_nI (by omega) (by omega)) dX7_run_140 ?_
                                refine cn_i (y := fp x9) (congrArg fp (nI_clamp (by omega))) ?_
                                refine lv_iadd hx hb dX7_run_141 ?_
                                refine lv_istore (lv' := [(4, .int (v + (fp x9))), (5, .int (nI x9)), (3, .int (nI u0)), (0, .ref m0), (1, .int p0), (2, .int p1)]) hx hb dX7_run_142 hl (by decide) rfl (fun ls hl => ?_)
                                refine lv_iload_n hx hb dX7_run_144 rfl (lv_at hl 2 rfl) ?_
                                refine lv_aload_n hx hb dX7_run_145 rfl (lv_at hl 3 rfl) ?_
                                refine va_get (D := D) (ci := 7) (v := .ref g12) (C := RX7) (T := TX7) (N := 17) hx hb hts hiX7 hown hK hP 0 rfl rfl 16 (by decide) hf52 (fun _ h9 => h9) rfl dX7_run_146 ?_
                                refine lv_iload hx hb dX7_run_149 (lv_at hl 1 rfl) ?_
                                refine va_iald hx hb hK hP 8 0 rfl rfl (i := nI x9) (vp_in_nI (by omega) (by omega)) dX7_run_151 ?_
                                refine cn_i (y := nI (3 ^ x9)) ((congrArg th (nI_clamp (by omega))).trans (hth x9 (by omega))) ?_
                                have hs1 := sb_lt p1 x9
                                refine lv_iload_n hx hb dX7_run_152 rfl (lv_at hl 5 rfl) ?_
                                refine lv_iload hx hb dX7_run_153 (lv_at hl 1 rfl) ?_
                                refine lv_ishr hx hb dX7_run_155 ?_
                                refine lv_iconst (v := nI 1) hx hb dX7_run_156 (by decide) ?_
                                refine lv_iand hx hb dX7_run_157 ?_
                                refine cn_i (y := nI (sb p1 x9)) (sb_ok p1 x9) ?_
                                refine lv_iconst (v := nI 1) hx hb dX7_run_158 (by decide) ?_
                                refine lv_icmp_ne (tgt := 166) hx hb dX7_run_159 (by decide) (fun c28 => ?_) (fun c28 => ?_)
                                · skip
                                  have d28 := c28
                                  rw [nI_eq (by omega) (by omega)] at d28
                                  refine lv_iconst (v := nI 2) hx hb dX7_run_166 (by decide) ?_
                                  refine lv_imul hx hb dX7_run_167 ?_
                                  refine cn_i (y := nI ((3 ^ x9) * 2)) (pk_mul (3 ^ x9) 2) ?_
                                  refine lv_iadd hx hb dX7_run_168 ?_
                                  refine cn_i (y := nI (u0 + ((3 ^ x9) * 2))) (nI_add u0 ((3 ^ x9) * 2)) ?_
                                  refine lv_istore_n (lv' := [(3, .int (nI (u0 + ((3 ^ x9) * 2)))), (4, .int (v + (fp x9))), (5, .int (nI x9)), (0, .ref m0), (1, .int p0), (2, .int p1)]) hx hb dX7_run_169 rfl hl (by decide) rfl (fun ls hl => ?_)
                                  refine lv_goto (tgt := 68) hx hb dX7_run_170 (by decide) ?_
                                  exact ih21 (u0 + ((3 ^ x9) * 2)) (v + (fp x9)) (lq + 1) (upd ul lq (nI x9)) _ _ _ (by have h8 := m_up (n := n) hu.1 hx9 (by assumption); have h9 := m_p3p x9; omega) (by omega) hP hD hS (lv_sub hl [1, 0, 3, 4, 5] rfl)
                                · skip
                                  have d28 := c28
                                  rw [nI_eq (by omega) (by omega)] at d28
                                  refine lv_iconst (v := nI 1) hx hb dX7_run_162 (by decide) ?_
                                  refine lv_goto (tgt := 167) hx hb dX7_run_163 (by decide) ?_
                                  refine lv_imul hx hb dX7_run_167 ?_
                                  refine cn_i (y := nI ((3 ^ x9) * 1)) (pk_mul (3 ^ x9) 1) ?_
                                  refine lv_iadd hx hb dX7_run_168 ?_
                                  refine cn_i (y := nI (u0 + ((3 ^ x9) * 1))) (nI_add u0 ((3 ^ x9) * 1)) ?_
                                  refine lv_istore_n (lv' := [(3, .int (nI (u0 + ((3 ^ x9) * 1)))), (4, .int (v + (fp x9))), (5, .int (nI x9)), (0, .ref m0), (1, .int p0), (2, .int p1)]) hx hb dX7_run_169 rfl hl (by decide) rfl (fun ls hl => ?_)
                                  refine lv_goto (tgt := 68) hx hb dX7_run_170 (by decide) ?_
                                  exact ih21 (u0 + ((3 ^ x9) * 1)) (v + (fp x9)) (lq + 1) (upd ul lq (nI x9)) _ _ _ (by have h8 := m_up (n := n) hu.1 hx9 (by assumption); have h9 := m_p3p x9; omega) (by omega) hP hD hS (lv_sub hl [1, 0, 3, 4, 5] rfl)
                            · skip
                              have d26 := c26
                              rw [i_eq, nI_toInt (n := 1) (by omega)] at d26
                              refine lv_aload_n hx hb dX7_run_95 rfl (lv_at hl 2 rfl) ?_
                              refine va_get (D := D) (ci := 7) (v := .ref g11) (C := RX7) (T := TX7) (N := 17) hx hb hts hiX7 hown hK hP 0 rfl rfl 15 (by decide) hf49 (fun _ h9 => h9) rfl dX7_run_96 ?_
                              refine lv_iload_n hx hb dX7_run_99 rfl (lv_at hl 1 rfl) ?_
                              obtain ⟨x9, hx9, ex9, hd9⟩ := (hvv u0 hu.1 (by assumption)).2
                              refine va_iald hx hb hK hP 12 0 rfl rfl (i := nI u0) (vp_in_nI (by omega) (by omega)) dX7_run_100 ?_
                              refine cn_i (y := nI x9) ((congrArg _ (nI_clamp (by omega))).trans ex9) ?_
                              refine lv_goto (tgt := 109) hx hb dX7_run_101 (by decide) ?_
                              refine lv_istore (lv' := [(5, .int (nI x9)), (4, .int v), (3, .int (nI u0)), (0, .ref m0), (1, .int p0), (2, .int p1)]) hx hb dX7_run_109 hl (by decide) rfl (fun ls hl => ?_)
                              refine lv_aload_n hx hb dX7_run_111 rfl (lv_at hl 3 rfl) ?_
                              refine va_get (D := D) (ci := 7) (v := .ref g7) (C := RX7) (T := TX7) (N := 17) hx hb hts hiX7 hown hK hP 0 rfl rfl 11 (by decide) hf36 (fun _ h9 => h9) rfl dX7_run_112 ?_
                              have hsl9 := seenN_le u0 n
                              have hsu1 := seenN_up (d := 1) (cv := u0) (x := x9) (by assumption) (by omega) (by omega) n
                              have hsu2 := seenN_up (d := 2) (cv := u0) (x := x9) (by assumption) (by omega) (by omega) n
                              rw [if_pos hx9] at hsu1 hsu2
                              have hsl1 := seenN_le (u0 + 3 ^ x9 * 1) n
                              refine lv_aload_n hx hb dX7_run_115 rfl (lv_at hl 3 rfl) ?_
                              refine va_get (D := D) (ci := 7) (v := .int (nI lq)) (C := RX7) (T := TX7) (N := 17) hx hb hts hiX7 hown hK hP 0 rfl rfl 10 (by decide) hf67 (fun _ h9 => h9) rfl dX7_run_116 ?_
                              refine lv_iload hx hb dX7_run_119 (lv_at hl 0 rfl) ?_
                              refine va_iast hx hb hK hP hD hS 7 0 rfl rfl (i := nI lq) (vp_in_nI (by omega) (by omega)) dX7_run_121 (fun H locs hP hD hS => ?_)
                              have hP : va_P D vwCl [(m0, .inr (7, [.int (nI n), .ref g1, .ref g2, .ref g3, .int mr, .ref g4, .int (nI y), .ref g5, .int (nI q), .ref g6, .int (nI lq), .ref g7, .ref g8, .ref g9, .ref g10, .ref g11, .ref g12])), (g1, .inl (cI, 9, .inl fg)), (g2, .inl (cI, 9, .inl fb)), (g3, .inl (cI, 9, .inl fp)), (g4, .inl (cZ, 20480, .inl fs)), (g5, .inl (cI, 9, .inl fn)), (g6, .inl (cI, 9, .inl fo)), (g7, .inl (cI, 9, .inl (upd ul (nI lq).toNatClampNeg (nI x9)))), (g12, .inl (cI, 9, .inl th)), (g8, .inl (cJ, 19683, .inr (.inl u20_ub))), (g9, .inl (cI, 19683, .inl u20_un)), (g10, .inl (cI, 19683, .inl u20_uw)), (g11, .inl (cI, 19683, .inl u20_ux))] H := hP
                              have hD : va_D (aA as) [(m0, .inr (7, [.int (nI n), .ref g1, .ref g2, .ref g3, .int mr, .ref g4, .int (nI y), .ref g5, .int (nI q), .ref g6, .int (nI lq), .ref g7, .ref g8, .ref g9, .ref g10, .ref g11, .ref g12])), (g1, .inl (cI, 9, .inl fg)), (g2, .inl (cI, 9, .inl fb)), (g3, .inl (cI, 9, .inl fp)), (g4, .inl (cZ, 20480, .inl fs)), (g5, .inl (cI, 9, .inl fn)), (g6, .inl (cI, 9, .inl fo)), (g7, .inl (cI, 9, .inl (upd ul (nI lq).toNatClampNeg (nI x9)))), (g12, .inl (cI, 9, .inl th)), (g8, .inl (cJ, 19683, .inr (.inl u20_ub))), (g9, .inl (cI, 19683, .inl u20_un)), (g10, .inl (cI, 19683, .inl u20_uw)), (g11, .inl (cI, 19683, .inl u20_ux))] := hD
                              rw [nI_clamp (n := lq) (by omega)] at hP hD
                              refine lv_aload_n hx hb dX7_run_122 rfl (lv_at hl 3 rfl) ?_
                              refine lv_dup hx hb dX7_run_123 rfl ?_
                              refine va_get (D := D) (ci := 7) (v := .int (nI lq)) (C := RX7) (T := TX7) (N := 17) hx hb hts hiX7 hown hK hP 0 rfl rfl 10 (by decide) hf67 (fun _ h9 => h9) rfl dX7_run_124 ?_
                              refine lv_iconst (v := nI 1) hx hb dX7_run_127 (by decide) ?_
                              refine lv_iadd hx hb dX7_run_128 ?_
                              refine cn_i (y := nI (lq + 1)) (nI_add lq 1) ?_
                              refine va_put (D := D) (ci := 7) (v := .int (nI (lq + 1))) (ty := tyX7 10) (C := RX7) (T := TX7) (N := 17) hx hb hts hiX7 tyX7 tyX7_ok nmX7 hown hK hP hD hS 0 rfl rfl 10 (by decide) hf67 (fun _ h9 => h9) rfl (by decide +kernel) rfl rfl (Nat.le_of_ble_eq_true rfl) dX7_run_129 (fun H locs hP hD hS => ?_)
                              have hP : va_P D vwCl [(m0, .inr (7, [.int (nI n), .ref g1, .ref g2, .ref g3, .int mr, .ref g4, .int (nI y), .ref g5, .int (nI q), .ref g6, .int (nI (lq + 1)), .ref g7, .ref g8, .ref g9, .ref g10, .ref g11, .ref g12])), (g1, .inl (cI, 9, .inl fg)), (g2, .inl (cI, 9, .inl fb)), (g3, .inl (cI, 9, .inl fp)), (g4, .inl (cZ, 20480, .inl fs)), (g5, .inl (cI, 9, .inl fn)), (g6, .inl (cI, 9, .inl fo)), (g7, .inl (cI, 9, .inl (upd ul lq (nI x9)))), (g12, .inl (cI, 9, .inl th)), (g8, .inl (cJ, 19683, .inr (.inl u20_ub))), (g9, .inl (cI, 19683, .inl u20_un)), (g10, .inl (cI, 19683, .inl u20_uw)), (g11, .inl (cI, 19683, .inl u20_ux))] H := hP
                              have hD : va_D (aA as) [(m0, .inr (7, [.int (nI n), .ref g1, .ref g2, .ref g3, .int mr, .ref g4, .int (nI y), .ref g5, .int (nI q), .ref g6, .int (nI (lq + 1)), .ref g7, .ref g8, .ref g9, .ref g10, .ref g11, .ref g12])), (g1, .inl (cI, 9, .inl fg)), (g2, .inl (cI, 9, .inl fb)), (g3, .inl (cI, 9, .inl fp)), (g4, .inl (cZ, 20480, .inl fs)), (g5, .inl (cI, 9, .inl fn)), (g6, .inl (cI, 9, .inl fo)), (g7, .inl (cI, 9, .inl (upd ul lq (nI x9)))), (g12, .inl (cI, 9, .inl th)), (g8, .inl (cJ, 19683, .inr (.inl u20_ub))), (g9, .inl (cI, 19683, .inl u20_un)), (g10, .inl (cI, 19683, .inl u20_uw)), (g11, .inl (cI, 19683, .inl u20_ux))] := hD
                              refine lv_iload hx hb dX7_run_132 (lv_at hl 1 rfl) ?_
                              refine lv_aload_n hx hb dX7_run_134 rfl (lv_at hl 3 rfl) ?_
                              refine va_get (D := D) (ci := 7) (v := .ref g3) (C := RX7) (T := TX7) (N := 17) hx hb hts hiX7 hown hK hP 0 rfl rfl 3 (by decide) hf20 (fun _ h9 => h9) rfl dX7_run_135 ?_
                              refine lv_iload hx hb dX7_run_138 (lv_at hl 0 rfl) ?_
                              refine va_iald hx hb hK hP 3 0 rfl rfl (i := nI x9) (vp_in_nI (by omega) (by omega)) dX7_run_140 ?_
                              refine cn_i (y := fp x9) (congrArg fp (nI_clamp (by omega))) ?_
                              refine lv_iadd hx hb dX7_run_141 ?_
                              refine lv_istore (lv' := [(4, .int (v + (fp x9))), (5, .int (nI x9)), (3, .int (nI u0)), (0, .ref m0), (1, .int p0), (2, .int p1)]) hx hb dX7_run_142 hl (by decide) rfl (fun ls hl => ?_)
                              refine lv_iload_n hx hb dX7_run_144 rfl (lv_at hl 2 rfl) ?_
                              refine lv_aload_n hx hb dX7_run_145 rfl (lv_at hl 3 rfl) ?_
                              refine va_get (D := D) (ci := 7) (v := .ref g12) (C := RX7) (T := TX7) (N := 17) hx hb hts hiX7 hown hK hP 0 rfl rfl 16 (by decide) hf52 (fun _ h9 => h9) rfl dX7_run_146 ?_
                              refine lv_iload hx hb dX7_run_149 (lv_at hl 1 rfl) ?_
                              refine va_iald hx hb hK hP 8 0 rfl rfl (i := nI x9) (vp_in_nI (by omega) (by omega)) dX7_run_151 ?_
                              refine cn_i (y := nI (3 ^ x9)) ((congrArg th (nI_clamp (by omega))).trans (hth x9 (by omega))) ?_
                              have hs1 := sb_lt p1 x9
                              refine lv_iload_n hx hb dX7_run_152 rfl (lv_at hl 5 rfl) ?_
                              refine lv_iload hx hb dX7_run_153 (lv_at hl 1 rfl) ?_
                              refine lv_ishr hx hb dX7_run_155 ?_
                              refine lv_iconst (v := nI 1) hx hb dX7_run_156 (by decide) ?_
                              refine lv_iand hx hb dX7_run_157 ?_
                              refine cn_i (y := nI (sb p1 x9)) (sb_ok p1 x9) ?_
                              refine lv_iconst (v := nI 1) hx hb dX7_run_158 (by decide) ?_
                              refine lv_icmp_ne (tgt := 166) hx hb dX7_run_159 (by decide) (fun c29 => ?_) (fun c29 => ?_)
                              · skip
                                have d29 := c29
                                rw [nI_eq (by omega) (by omega)] at d29
                                refine lv_iconst (v := nI 2) hx hb dX7_run_166 (by decide) ?_
                                refine lv_imul hx hb dX7_run_167 ?_
                                refine cn_i (y := nI ((3 ^ x9) * 2)) (pk_mul (3 ^ x9) 2) ?_
                                refine lv_iadd hx hb dX7_run_168 ?_
                                refine cn_i (y := nI (u0 + ((3 ^ x9) * 2))) (nI_add u0 ((3 ^ x9) * 2)) ?_
                                refine lv_istore_n (lv' := [(3, .int (nI (u0 + ((3 ^ x9) * 2)))), (4, .int (v + (fp x9))), (5, .int (nI x9)), (0, .ref m0), (1, .int p0), (2, .int p1)]) hx hb dX7_run_169 rfl hl (by decide) rfl (fun ls hl => ?_)
                                refine lv_goto (tgt := 68) hx hb dX7_run_170 (by decide) ?_
                                exact ih21 (u0 + ((3 ^ x9) * 2)) (v + (fp x9)) (lq + 1) (upd ul lq (nI x9)) _ _ _ (by have h8 := m_up (n := n) hu.1 hx9 (by assumption); have h9 := m_p3p x9; omega) (by omega) hP hD hS (lv_sub hl [1, 0, 3, 4, 5] rfl)
                              · skip
                                have d29 := c29
                                rw [nI_eq (by omega) (by omega)] at d29
                                refine lv_iconst (v := nI 1) hx hb dX7_run_162 (by decide) ?_
                                refine lv_goto (tgt := 167) hx hb dX7_run_163 (by decide) ?_
                                refine lv_imul hx hb dX7_run_167 ?_
                                refine cn_i (y := nI ((3 ^ x9) * 1)) (pk_mul (3 ^ x9) 1) ?_
                                refine lv_iadd hx hb dX7_run_168 ?_
                                refine cn_i (y := nI (u0 + ((3 ^ x9) * 1))) (nI_add u0 ((3 ^ x9) * 1)) ?_
                                refine lv_istore_n (lv' := [(3, .int (nI (u0 + ((3 ^ x9) * 1)))), (4, .int (v + (fp x9))), (5, .int (nI x9)), (0, .ref m0), (1, .int p0), (2, .int p1)]) hx hb dX7_run_169 rfl hl (by decide) rfl (fun ls hl => ?_)
                                refine lv_goto (tgt := 68) hx hb dX7_run_170 (by decide) ?_
                                exact ih21 (u0 + ((3 ^ x9) * 1)) (v + (fp x9)) (lq + 1) (upd ul lq (nI x9)) _ _ _ (by have h8 := m_up (n := n) hu.1 hx9 (by assumption); have h9 := m_p3p x9; omega) (by omega) hP hD hS (lv_sub hl [1, 0, 3, 4, 5] rfl)
                          · skip
                            have d25 := c25
                            rw [i_eq, i_z] at d25
                            refine lv_aload_n hx hb dX7_run_81 rfl (lv_at hl 2 rfl) ?_
                            refine va_get (D := D) (ci := 7) (v := .ref g9) (C := RX7) (T := TX7) (N := 17) hx hb hts hiX7 hown hK hP 0 rfl rfl 13 (by decide) hf43 (fun _ h9 => h9) rfl dX7_run_82 ?_
                            refine lv_iload_n hx hb dX7_run_85 rfl (lv_at hl 1 rfl) ?_
                            obtain ⟨x9, hx9, ex9, hd9⟩ := (hvv u0 hu.1 (by assumption)).1
                            refine va_iald hx hb hK hP 10 0 rfl rfl (i := nI u0) (vp_in_nI (by omega) (by omega)) dX7_run_86 ?_
                            refine cn_i (y := nI x9) ((congrArg _ (nI_clamp (by omega))).trans ex9) ?_
                            refine lv_goto (tgt := 109) hx hb dX7_run_87 (by decide) ?_
                            refine lv_istore (lv' := [(5, .int (nI x9)), (4, .int v), (3, .int (nI u0)), (0, .ref m0), (1, .int p0), (2, .int p1)]) hx hb dX7_run_109 hl (by decide) rfl (fun ls hl => ?_)
                            refine lv_aload_n hx hb dX7_run_111 rfl (lv_at hl 3 rfl) ?_
                            refine va_get (D := D) (ci := 7) (v := .ref g7) (C := RX7) (T := TX7) (N := 17) hx hb hts hiX7 hown hK hP 0 rfl rfl 11 (by decide) hf36 (fun _ h9 => h9) rfl dX7_run_112 ?_
                            have hsl9 := seenN_le u0 n
                            have hsu1 := seenN_up (d := 1) (cv := u0) (x := x9) (by assumption) (by omega) (by omega) n
                            have hsu2 := seenN_up (d := 2) (cv := u0) (x := x9) (by assumption) (by omega) (by omega) n
                            rw [if_pos hx9] at hsu1 hsu2
                            have hsl1 := seenN_le (u0 + 3 ^ x9 * 1) n
                            refine lv_aload_n hx hb dX7_run_115 rfl (lv_at hl 3 rfl) ?_
                            refine va_get (D := D) (ci := 7) (v := .int (nI lq)) (C := RX7) (T := TX7) (N := 17) hx hb hts hiX7 hown hK hP 0 rfl rfl 10 (by decide) hf67 (fun _ h9 => h9) rfl dX7_run_116 ?_
                            refine lv_iload hx hb dX7_run_119 (lv_at hl 0 rfl) ?_
                            refine va_iast hx hb hK hP hD hS 7 0 rfl rfl (i := nI lq) (vp_in_nI (by omega) (by omega)) dX7_run_121 (fun H locs hP hD hS => ?_)
                            have hP : va_P D vwCl [(m0, .inr (7, [.int (nI n), .ref g1, .ref g2, .ref g3, .int mr, .ref g4, .int (nI y), .ref g5, .int (nI q), .ref g6, .int (nI lq), .ref g7, .ref g8, .ref g9, .ref g10, .ref g11, .ref g12])), (g1, .inl (cI, 9, .inl fg)), (g2, .inl (cI, 9, .inl fb)), (g3, .inl (cI, 9, .inl fp)), (g4, .inl (cZ, 20480, .inl fs)), (g5, .inl (cI, 9, .inl fn)), (g6, .inl (cI, 9, .inl fo)), (g7, .inl (cI, 9, .inl (upd ul (nI lq).toNatClampNeg (nI x9)))), (g12, .inl (cI, 9, .inl th)), (g8, .inl (cJ, 19683, .inr (.inl u20_ub))), (g9, .inl (cI, 19683, .inl u20_un)), (g10, .inl (cI, 19683, .inl u20_uw)), (g11, .inl (cI, 19683, .inl u20_ux))] H := hP
                            have hD : va_D (aA as) [(m0, .inr (7, [.int (nI n), .ref g1, .ref g2, .ref g3, .int mr, .ref g4, .int (nI y), .ref g5, .int (nI q), .ref g6, .int (nI lq), .ref g7, .ref g8, .ref g9, .ref g10, .ref g11, .ref g12])), (g1, .inl (cI, 9, .inl fg)), (g2, .inl (cI, 9, .inl fb)), (g3, .inl (cI, 9, .inl fp)), (g4, .inl (cZ, 20480, .inl fs)), (g5, .inl (cI, 9, .inl fn)), (g6, .inl (cI, 9, .inl fo)), (g7, .inl (cI, 9, .inl (upd ul (nI lq).toNatClampNeg (nI x9)))), (g12, .inl (cI, 9, .inl th)), (g8, .inl (cJ, 19683, .inr (.inl u20_ub))), (g9, .inl (cI, 19683, .inl u20_un)), (g10, .inl (cI, 19683, .inl u20_uw)), (g11, .inl (cI, 19683, .inl u20_ux))] := hD
                            rw [nI_clamp (n := lq) (by omega)] at hP hD
                            refine lv_aload_n hx hb dX7_run_122 rfl (lv_at hl 3 rfl) ?_
                            refine lv_dup hx hb dX7_run_123 rfl ?_
                            refine va_get (D := D) (ci := 7) (v := .int (nI lq)) (C := RX7) (T := TX7) (N := 17) hx hb hts hiX7 hown hK hP 0 rfl rfl 10 (by decide) hf67 (fun _ h9 => h9) rfl dX7_run_124 ?_
                            refine lv_iconst (v := nI 1) hx hb dX7_run_127 (by decide) ?_
                            refine lv_iadd hx hb dX7_run_128 ?_
                            refine cn_i (y := nI (lq + 1)) (nI_add lq 1) ?_
                            refine va_put (D := D) (ci := 7) (v := .int (nI (lq + 1))) (ty := tyX7 10) (C := RX7) (T := TX7) (N := 17) hx hb hts hiX7 tyX7 tyX7_ok nmX7 hown hK hP hD hS 0 rfl rfl 10 (by decide) hf67 (fun _ h9 => h9) rfl (by decide +kernel) rfl rfl (Nat.le_of_ble_eq_true rfl) dX7_run_129 (fun H locs hP hD hS => ?_)
                            have hP : va_P D vwCl [(m0, .inr (7, [.int (nI n), .ref g1, .ref g2, .ref g3, .int mr, .ref g4, .int (nI y), .ref g5, .int (nI q), .ref g6, .int (nI (lq + 1)), .ref g7, .ref g8, .ref g9, .ref g10, .ref g11, .ref g12])), (g1, .inl (cI, 9, .inl fg)), (g2, .inl (cI, 9, .inl fb)), (g3, .inl (cI, 9, .inl fp)), (g4, .inl (cZ, 20480, .inl fs)), (g5, .inl (cI, 9, .inl fn)), (g6, .inl (cI, 9, .inl fo)), (g7, .inl (cI, 9, .inl (upd ul lq (nI x9)))), (g12, .inl (cI, 9, .inl th)), (g8, .inl (cJ, 19683, .inr (.inl u20_ub))), (g9, .inl (cI, 19683, .inl u20_un)), (g10, .inl (cI, 19683, .inl u20_uw)), (g11, .inl (cI, 19683, .inl u20_ux))] H := hP
                            have hD : va_D (aA as) [(m0, .inr (7, [.int (nI n), .ref g1, .ref g2, .ref g3, .int mr, .ref g4, .int (nI y), .ref g5, .int (nI q), .ref g6, .int (nI (lq + 1)), .ref g7, .ref g8, .ref g9, .ref g10, .ref g11, .ref g12])), (g1, .inl (cI, 9, .inl fg)), (g2, .inl (cI, 9, .inl fb)), (g3, .inl (cI, 9, .inl fp)), (g4, .inl (cZ, 20480, .inl fs)), (g5, .inl (cI, 9, .inl fn)), (g6, .inl (cI, 9, .inl fo)), (g7, .inl (cI, 9, .inl (upd ul lq (nI x9)))), (g12, .inl (cI, 9, .inl th)), (g8, .inl (cJ, 19683, .inr (.inl u20_ub))), (g9, .inl (cI, 19683, .inl u20_un)), (g10, .inl (cI, 19683, .inl u20_uw)), (g11, .inl (cI, 19683, .inl u20_ux))] := hD
                            refine lv_iload hx hb dX7_run_132 (lv_at hl 1 rfl) ?_
                            refine lv_aload_n hx hb dX7_run_134 rfl (lv_at hl 3 rfl) ?_
                            refine va_get (D := D) (ci := 7) (v := .ref g3) (C := RX7) (T := TX7) (N := 17) hx hb hts hiX7 hown hK hP 0 rfl rfl 3 (by decide) hf20 (fun _ h9 => h9) rfl dX7_run_135 ?_
                            refine lv_iload hx hb dX7_run_138 (lv_at hl 0 rfl) ?_
                            refine va_iald hx hb hK hP 3 0 rfl rfl (i := nI x9) (vp_in_nI (by omega) (by omega)) dX7_run_140 ?_
                            refine cn_i (y := fp x9) (congrArg fp (nI_clamp (by omega))) ?_
                            refine lv_iadd hx hb dX7_run_141 ?_
                            refine lv_istore (lv' := [(4, .int (v + (fp x9))), (5, .int (nI x9)), (3, .int (nI u0)), (0, .ref m0), (1, .int p0), (2, .int p1)]) hx hb dX7_run_142 hl (by decide) rfl (fun ls hl => ?_)
                            refine lv_iload_n hx hb dX7_run_144 rfl (lv_at hl 2 rfl) ?_
                            refine lv_aload_n hx hb dX7_run_145 rfl (lv_at hl 3 rfl) ?_
                            refine va_get (D := D) (ci := 7) (v := .ref g12) (C := RX7) (T := TX7) (N := 17) hx hb hts hiX7 hown hK hP 0 rfl rfl 16 (by decide) hf52 (fun _ h9 => h9) rfl dX7_run_146 ?_
                            refine lv_iload hx hb dX7_run_149 (lv_at hl 1 rfl) ?_
                            refine va_iald hx hb hK hP 8 0 rfl rfl (i := nI x9) (vp_in_nI (by omega) (by omega)) dX7_run_151 ?_
                            refine cn_i (y := nI (3 ^ x9)) ((congrArg th (nI_clamp (by omega))).trans (hth x9 (by omega))) ?_
                            have hs1 := sb_lt p1 x9
                            refine lv_iload_n hx hb dX7_run_152 rfl (lv_at hl 5 rfl) ?_
                            refine lv_iload hx hb dX7_run_153 (lv_at hl 1 rfl) ?_
                            refine lv_ishr hx hb dX7_run_155 ?_
                            refine lv_iconst (v := nI 1) hx hb dX7_run_156 (by decide) ?_
                            refine lv_iand hx hb dX7_run_157 ?_
                            refine cn_i (y := nI (sb p1 x9)) (sb_ok p1 x9) ?_
                            refine lv_iconst (v := nI 1) hx hb dX7_run_158 (by decide) ?_
                            refine lv_icmp_ne (tgt := 166) hx hb dX7_run_159 (by decide) (fun c30 => ?_) (fun c30 => ?_)
                            · skip
                              have d30 := c30
                              rw [nI_eq (by omega) (by omega)] at d30
                              refine lv_iconst (v := nI 2) hx hb dX7_run_166 (by decide) ?_
                              refine lv_imul hx hb dX7_run_167 ?_
                              refine cn_i (y := nI ((3 ^ x9) * 2)) (pk_mul (3 ^ x9) 2) ?_
                              refine lv_iadd hx hb dX7_run_168 ?_
                              refine cn_i (y := nI (u0 + ((3 ^ x9) * 2))) (nI_add u0 ((3 ^ x9) * 2)) ?_
                              refine lv_istore_n (lv' := [(3, .int (nI (u0 + ((3 ^ x9) * 2)))), (4, .int (v + (fp x9))), (5, .int (nI x9)), (0, .ref m0), (1, .int p0), (2, .int p1)]) hx hb dX7_run_169 rfl hl (by decide) rfl (fun ls hl => ?_)
                              refine lv_goto (tgt := 68) hx hb dX7_run_170 (by decide) ?_
                              exact ih21 (u0 + ((3 ^ x9) * 2)) (v + (fp x9)) (lq + 1) (upd ul lq (nI x9)) _ _ _ (by have h8 := m_up (n := n) hu.1 hx9 (by assumption); have h9 := m_p3p x9; omega) (by omega) hP hD hS (lv_sub hl [1, 0, 3, 4, 5] rfl)
                            · skip
                              have d30 := c30
                              rw [nI_eq (by omega) (by omega)] at d30
                              refine lv_iconst (v := nI 1) hx hb dX7_run_162 (by decide) ?_
                              refine lv_goto (tgt := 167) hx hb dX7_run_163 (by decide) ?_
                              refine lv_imul hx hb dX7_run_167 ?_
                              refine cn_i (y := nI ((3 ^ x9) * 1)) (pk_mul (3 ^ x9) 1) ?_
                              refine lv_iadd hx hb dX7_run_168 ?_
                              refine cn_i (y := nI (u0 + ((3 ^ x9) * 1))) (nI_add u0 ((3 ^ x9) * 1)) ?_
                              refine lv_istore_n (lv' := [(3, .int (nI (u0 + ((3 ^ x9) * 1)))), (4, .int (v + (fp x9))), (5, .int (nI x9)), (0, .ref m0), (1, .int p0), (2, .int p1)]) hx hb dX7_run_169 rfl hl (by decide) rfl (fun ls hl => ?_)
                              refine lv_goto (tgt := 68) hx hb dX7_run_170 (by decide) ?_
                              exact ih21 (u0 + ((3 ^ x9) * 1)) (v + (fp x9)) (lq + 1) (upd ul lq (nI x9)) _ _ _ (by have h8 := m_up (n := n) hu.1 hx9 (by assumption); have h9 := m_p3p x9; omega) (by omega) hP hD hS (lv_sub hl [1, 0, 3, 4, 5] rfl)
                      · skip
                        refine lv_iconst (v := (-1 : Int32)) hx hb dX7_run_73 (by decide) ?_
                        refine lv_icmp_ne (tgt := 173) hx hb dX7_run_74 (by decide) (fun c31 => ?_) (fun c31 => ?_)
                        · skip
                          refine lv_iload hx hb dX7_run_173 (lv_at hl 0 rfl) ?_
                          rw [← hQ]
                          exact W.iret (v := v) hx hb hr (fun tS htS hWS => ⟨⟨v, (nI lq, ul, u20_ub, u20_un, u20_uw, u20_ux), rfl, Or.inr ⟨lq, by have := seenN_le u0 n; omega, rfl⟩, m_at htS hP⟩, by rw [← has]; exact hS.F htS⟩) (by rw [← has]; exact hS.2.2) dX7_run_175
                        · exact absurd c31 (by first | decide | exact nz_lt (by omega) | exact fun h => h (nz_ge (by omega)))
                  exact loop21 (3 ^ n) (nowN fn n) (nI 0) 0 fl _ _ _ (by omega) (by omega) hP hD hS (lv_sub hl [0, 1, 2, 3, 4] rfl)
              · exact absurd c9 (by first | decide | exact nz_lt (by omega) | exact fun h => h (nz_ge (by omega)))
            · skip
              refine lv_if_ne (tgt := 51) hx hb dX7_run_46 (by decide) (fun c32 => ?_) (fun c32 => ?_)
              · exact absurd c32 (by first | decide | exact nz_lt (by omega) | exact fun h => h (nz_ge (by omega)))
              · skip
                refine lv_iconst (v := (-1 : Int32)) hx hb dX7_run_49 (by decide) ?_
                rw [← hQ]
                exact W.iret (v := (-1 : Int32)) hx hb hr (fun tS htS hWS => ⟨⟨(-1 : Int32), (ml, fl, eb, en, ew, ex), rfl, Or.inl ⟨rfl, rfl, rfl⟩, m_at htS hP⟩, by rw [← has]; exact hS.F htS⟩) (by rw [← has]; exact hS.2.2) dX7_run_50
      · skip
        refine lv_if_eq (tgt := 49) hx hb dX7_run_30 (by decide) (fun c33 => ?_) (fun c33 => ?_)
        · skip
          refine lv_iconst (v := (-1 : Int32)) hx hb dX7_run_49 (by decide) ?_
          rw [← hQ]
          exact W.iret (v := (-1 : Int32)) hx hb hr (fun tS htS hWS => ⟨⟨(-1 : Int32), (ml, fl, eb, en, ew, ex), rfl, Or.inl ⟨rfl, rfl, rfl⟩, m_at htS hP⟩, by rw [← has]; exact hS.F htS⟩) (by rw [← has]; exact hS.2.2) dX7_run_50
        · exact absurd c33 (by first | decide | exact nz_lt (by omega) | exact fun h => h (nz_ge (by omega)))
  · skip
    refine lv_if_eq (tgt := 49) hx hb dX7_run_14 (by decide) (fun c34 => ?_) (fun c34 => ?_)
    · skip
      refine lv_iconst (v := (-1 : Int32)) hx hb dX7_run_49 (by decide) ?_
      rw [← hQ]
      exact W.iret (v := (-1 : Int32)) hx hb hr (fun tS htS hWS => ⟨⟨(-1 : Int32), (ml, fl, eb, en, ew, ex), rfl, Or.inl ⟨rfl, rfl, rfl⟩, m_at htS hP⟩, by rw [← has]; exact hS.F htS⟩) (by rw [← has]; exact hS.2.2) dX7_run_50
    · exact absurd c34 (by first | decide | exact nz_lt (by omega) | exact fun h => h (nz_ge (by omega)))
