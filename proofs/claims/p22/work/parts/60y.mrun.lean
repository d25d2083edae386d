def rm_c_X7_run_v : Room := { frames := 5, cells := 0, slots := 0, locals := 119 }
set_option maxHeartbeats 400000 in
set_option maxRecDepth 100000 in
theorem c_X7_run_v (l : Launch) (D : va_G) (cI cJ cZ : ClassId) (m0 : Nat) (g1 : Nat) (g2 : Nat) (g3 : Nat) (g4 : Nat) (g5 : Nat) (g6 : Nat) (g7 : Nat) (g8 : Nat) (g9 : Nat) (g10 : Nat) (g11 : Nat) (g12 : Nat) (n : Nat) (y : Nat) (q : Nat) (mr : Int32) (ml : Int32) (p0 : Int32) (p1 : Int32) (fg : Nat → Int32) (fb : Nat → Int32) (fp : Nat → Int32) (fs : Nat → Int32) (fn : Nat → Int32) (fo : Nat → Int32) (fl : Nat → Int32) (th : Nat → Int32) (eb : Nat → Int64) (en : Nat → Int32) (ew : Nat → Int32) (ex : Nat → Int32) (hn : n ≤ 9) (h1n : 1 ≤ n) (hy : y < 40) (hq : q ≤ 9) (hfo : ∀ z, z < q → ∃ x, x < n ∧ fo z = nI x) (hth : ∀ z, z < 9 → th z = nI (3 ^ z)) (h01 : T01 fs) : Met l yX7_run wsX7_run rm_c_X7_run_v (pm_ D cI cJ cZ [.ref m0, .int p0, .int p1] [(m0, .inr (7, [.int (nI n), .ref g1, .ref g2, .ref g3, .int mr, .ref g4, .int (nI y), .ref g5, .int (nI q), .ref g6, .int ml, .ref g7, .ref g8, .ref g9, .ref g10, .ref g11, .ref g12])), (g1, .inl (cI, 9, .inl fg)), (g2, .inl (cI, 9, .inl fb)), (g3, .inl (cI, 9, .inl fp)), (g4, .inl (cZ, 20480, .inl fs)), (g5, .inl (cI, 9, .inl fn)), (g6, .inl (cI, 9, .inl fo)), (g7, .inl (cI, 9, .inl fl)), (g12, .inl (cI, 9, .inl th)), (g8, .inl (cJ, 19683, .inr (.inl eb))), (g9, .inl (cI, 19683, .inl en)), (g10, .inl (cI, 19683, .inl ew)), (g11, .inl (cI, 19683, .inl ex))]) (va_Qi (fun (r : Int32) (u : Int32 × (Nat → Int32) × (Nat → Int64) × (Nat → Int32) × (Nat → Int32) × (Nat → Int32)) => (r = -1 ∧ u.1 = ml ∧ u.2.1 = fl ∧ ¬ ((0 ≤ p0.toInt ∧ p0.toInt ≤ 2) ∧ (0 ≤ p1.toInt ∧ p1.toInt < (2 ^ n : Nat)) ∧ SCH (nowN fn n) n p1)) ∨ (∃ x, x ≤ n ∧ u.1 = nI x ∧ ((0 ≤ p0.toInt ∧ p0.toInt ≤ 2) ∧ (0 ≤ p1.toInt ∧ p1.toInt < (2 ^ n : Nat)) ∧ SCH (nowN fn n) n p1) ∧ RUNP (NXM (Sg fs y) n (fun c9 => mlf fg fb th (nI c9) n) fp fo q p0) (US (Sg fs y) n 1 2) fp (stM p1.toInt.toNat) x (nowN fn n) r)) (fun (u : Int32 × (Nat → Int32) × (Nat → Int64) × (Nat → Int32) × (Nat → Int32) × (Nat → Int32)) tS => va_P D vwCl [(m0, .inr (7, [.int (nI n), .ref g1, .ref g2, .ref g3, .int mr, .ref g4, .int (nI y), .ref g5, .int (nI q), .ref g6, .int u.1, .ref g7, .ref g8, .ref g9, .ref g10, .ref g11, .ref g12])), (g1, .inl (cI, 9, .inl fg)), (g2, .inl (cI, 9, .inl fb)), (g3, .inl (cI, 9, .inl fp)), (g4, .inl (cZ, 20480, .inl fs)), (g5, .inl (cI, 9, .inl fn)), (g6, .inl (cI, 9, .inl fo)), (g7, .inl (cI, 9, .inl u.2.1)), (g12, .inl (cI, 9, .inl th)), (g8, .inl (cJ, 19683, .inr (.inl u.2.2.1))), (g9, .inl (cI, 19683, .inl u.2.2.2.1)), (g10, .inl (cI, 19683, .inl u.2.2.2.2.1)), (g11, .inl (cI, 19683, .inl u.2.2.2.2.2))] tS.heap) (aA [m0, g1, g2, g3, g4, g5, g6, g7, g12, g8, g9, g10, g11])) 0 0 (aA [m0, g1, g2, g3, g4, g5, g6, g7, g12, g8, g9, g10, g11]) := by
  refine Met.ofW (cc := cX7_run) (maxL := 6) (ret := (some .int)) (by decide) rfl ?_
  intro p e s m args below meth c s₁ B hml hv
  obtain ⟨rfl, hP, hKN, hD0⟩ := hv
  have hK := hKN.1
  have hx := B.exec
  have hb := B.bytes
  have hr := B.returns
  have hts := atoms_spec (ws := wsX7_run) B.pre
  have hown : s.vm.findClass RX7 = some m.cls := findClass_of_methodNamed B.named
  have hlocks := B.notSynchronized
  have hiX7 : ∀ w ∈ wsX70, w ∈ wsX7_run := by decide +kernel
  have hf20 := hts (.fieldLink RX7 20 "LookBenchModel" "price" "[I") (by decide +kernel)
  have hf27 := hts (.fieldLink RX7 27 "LookBenchModel" "system" "I") (by decide +kernel)
  have hf36 := hts (.fieldLink RX7 36 "LookBenchModel" "looked" "[I") (by decide +kernel)
  have hf43 := hts (.fieldLink RX7 43 "LookBenchModel" "bestNext" "[I") (by decide +kernel)
  have hf49 := hts (.fieldLink RX7 49 "LookBenchModel" "worstNext" "[I") (by decide +kernel)
  have hf52 := hts (.fieldLink RX7 52 "LookBenchModel" "three" "[I") (by decide +kernel)
  have hf67 := hts (.fieldLink RX7 67 "LookBenchModel" "looks" "I") (by decide +kernel)
  obtain ⟨as, has⟩ : ∃ z : List Nat, z = [m0, g1, g2, g3, g4, g5, g6, g7, g12, g8, g9, g10, g11] := ⟨_, rfl⟩
  have hD := hD0.addr (as := as) (by rw [has]; rfl)
  have hS : va_S (aA as) s.heap s.heap [] := va_S.rf
  have hl := lv_entry ([.ref m0, .int p0, .int p1]) (n := 6) (Nat.le_of_ble_eq_true rfl)
  rw [lg_entry_eq]
  generalize (lg_sl ([.ref m0, .int p0, .int p1]) ++ List.replicate (6 - (lg_sl ([.ref m0, .int p0, .int p1])).length) Slot.unset).toArray = ls at hl ⊢
  have hl : lv_has ls 6 [(0, .ref m0), (1, .int p0), (2, .int p1)] := hl
  generalize hQ : MQ below _ _ s _ _ _ = Q
  obtain ⟨H, hH⟩ : ∃ z, z = s.heap := ⟨_, rfl⟩
  have hP : va_P D vwCl [(m0, .inr (7, [.int (nI n), .ref g1, .ref g2, .ref g3, .int mr, .ref g4, .int (nI y), .ref g5, .int (nI q), .ref g6, .int ml, .ref g7, .ref g8, .ref g9, .ref g10, .ref g11, .ref g12])), (g1, .inl (cI, 9, .inl fg)), (g2, .inl (cI, 9, .inl fb)), (g3, .inl (cI, 9, .inl fp)), (g4, .inl (cZ, 20480, .inl fs)), (g5, .inl (cI, 9, .inl fn)), (g6, .inl (cI, 9, .inl fo)), (g7, .inl (cI, 9, .inl fl)), (g12, .inl (cI, 9, .inl th)), (g8, .inl (cJ, 19683, .inr (.inl eb))), (g9, .inl (cI, 19683, .inl en)), (g10, .inl (cI, 19683, .inl ew)), (g11, .inl (cI, 19683, .inl ex))] H := by rw [hH]; exact hP
  have hS : va_S (aA as) s.heap H [] := by rw [hH]; exact hS
  refine m_heap hH ?_
  clear hH
  have h2n := m_pow hn
  have h2p := m_powp n
  have h3n := m_p3 hn
  have hnl := nowN_lt fn n
  refine lv_aload_n hx hb dX7_run_0 rfl (lv_at hl 0 rfl) ?_
  refine pu_i (va_runV (As := []) (rest := []) ⟨hx, hb, hml, hown, hts⟩ (c_X7_now_g l D cI cJ cZ m0 g1 g2 g3 g4 g5 g6 g7 g8 g9 g10 g11 g12 n mr (nI y) (nI q) ml fn th (by first | assumption | omega) (by first | assumption | omega)) (cwV 0 hts gX7_run_X7_now rfl rfl rfl (by decide +kernel) ⟨Nat.le_of_ble_eq_true rfl, Nat.le_of_ble_eq_true rfl⟩) ⟨pc_blind, va_recv hK hP (ci := 7) (q0 := 0) rfl rfl, fun U hU hW => ⟨rfl, by rw [hU]; exact hP.sub (ws' := [(m0, .inr (7, [.int (nI n), .ref g1, .ref g2, .ref g3, .int mr, .ref g4, .int (nI y), .ref g5, .int (nI q), .ref g6, .int ml, .ref g7, .ref g8, .ref g9, .ref g10, .ref g11, .ref g12])), (g5, .inl (cI, 9, .inl fn)), (g12, .inl (cI, 9, .inl th))]) [0, 5, 8] rfl, hKN.warm hW⟩⟩ rfl rfl hl.1 rfl (lv_room (Nat.le_of_ble_eq_true rfl)) dX7_run_1 ⟨Nat.le_of_ble_eq_true rfl, Nat.le_of_ble_eq_true rfl⟩) hS hP (fun r1 H locs w1r hP hS => ?_)
  have w1 : r1 = nI (nowN fn n) := w1r
  clear w1r
  obtain rfl : r1 = nI (nowN fn n) := w1
  refine lv_istore_n (lv' := [(3, .int (nI (nowN fn n))), (0, .ref m0), (1, .int p0), (2, .int p1)]) hx hb dX7_run_4 rfl hl (by decide) rfl (fun ls hl => ?_)
  refine lv_iload_n hx hb dX7_run_5 rfl (lv_at hl 2 rfl) ?_
  refine lv_i2l hx hb dX7_run_6 rfl ?_
  refine lv_lconst (v := lN 0) hx hb dX7_run_7 (by decide) ?_
  refine lv_ldc2 (v := lN 2) hx hb hown (hts (.constantLong RX7 134 (lN 2)) (by decide +kernel)) dX7_run_8 ?_
  refine pu_i (va_runS (As := [.long p0.toInt64, .long (lN 0), .long (lN 2)]) (rest := []) ⟨hx, hb, hml, hown, hts⟩ (c_X7_in l D cI cJ cZ p0.toInt64 (lN 0) (lN 2)) (va_cwS 3 hts gX7_run_X7_in rfl rfl rfl (by decide +kernel) ⟨Nat.le_of_ble_eq_true rfl, Nat.le_of_ble_eq_true rfl⟩) ⟨pc_blind, fun U hU hW => ⟨rfl, by rw [hU]; exact hP.sub (ws' := []) [] rfl, hKN.warm hW⟩⟩ rfl rfl hl.1 rfl (lv_room (Nat.le_of_ble_eq_true rfl)) dX7_run_11 ⟨Nat.le_of_ble_eq_true rfl, Nat.le_of_ble_eq_true rfl⟩) hS hP (fun r2 H locs w2r hP hS => ?_)
  have w2 : B01 r2 ((lN 0).toInt ≤ p0.toInt64.toInt ∧ p0.toInt64.toInt ≤ (lN 2).toInt) := w2r
  clear w2r
  rw [lN_toInt (n := 0) (by omega), j2 p0, lN_toInt (n := 2) (by omega)] at w2
  rcases w2 with ⟨rfl, w2⟩ | ⟨rfl, w2⟩
  · skip
    have hwh := w2
    refine lv_if_eq (tgt := 49) hx hb dX7_run_14 (by decide) (fun c3 => ?_) (fun c3 => ?_)
    · exact absurd c3 (by first | decide | exact nz_lt (by omega) | exact fun h => h (nz_ge (by omega)))
    · skip
      refine lv_iload_n hx hb dX7_run_17 rfl (lv_at hl 3 rfl) ?_
      refine lv_i2l hx hb dX7_run_18 rfl ?_
      refine lv_lconst (v := lN 0) hx hb dX7_run_19 (by decide) ?_
      refine lv_aload_n hx hb dX7_run_20 rfl (lv_at hl 1 rfl) ?_
      refine pu_i (va_runV (As := []) (rest := [.long (lN 0), .long p1.toInt64]) ⟨hx, hb, hml, hown, hts⟩ (c_X7_settings l D cI cJ cZ m0 g1 g2 g3 g4 g5 g6 g7 g8 g9 g10 g11 g12 n mr (nI y) (nI q) ml (by first | assumption | omega)) (cwV 0 hts gX7_run_X7_settings rfl rfl rfl (by decide +kernel) ⟨Nat.le_of_ble_eq_true rfl, Nat.le_of_ble_eq_true rfl⟩) ⟨pc_blind, va_recv hK hP (ci := 7) (q0 := 0) rfl rfl, fun U hU hW => ⟨rfl, by rw [hU]; exact hP.sub (ws' := [(m0, .inr (7, [.int (nI n), .ref g1, .ref g2, .ref g3, .int mr, .ref g4, .int (nI y), .ref g5, .int (nI q), .ref g6, .int ml, .ref g7, .ref g8, .ref g9, .ref g10, .ref g11, .ref g12]))]) [0] rfl, hKN.warm hW⟩⟩ rfl rfl hl.1 rfl (lv_room (Nat.le_of_ble_eq_true rfl)) dX7_run_21 ⟨Nat.le_of_ble_eq_true rfl, Nat.le_of_ble_eq_true rfl⟩) hS hP (fun r4 H locs w4r hP hS => ?_)
      have w4 : r4 = nI (2 ^ n) := w4r
      clear w4r
      obtain rfl : r4 = nI (2 ^ n) := w4
      refine lv_iconst (v := nI 1) hx hb dX7_run_24 (by decide) ?_
      refine lv_isub hx hb dX7_run_25 ?_
      refine cn_i (y := nI ((2 ^ n) - 1)) (pk_sub (a := (2 ^ n)) (b := 1) (by omega)) ?_
      refine lv_i2l hx hb dX7_run_26 rfl ?_
      refine cn_l (y := lN ((2 ^ n) - 1)) (nI_l (by omega)) ?_
      refine pu_i (va_runS (As := [.long p1.toInt64, .long (lN 0), .long (lN ((2 ^ n) - 1))]) (rest := []) ⟨hx, hb, hml, hown, hts⟩ (c_X7_in l D cI cJ cZ p1.toInt64 (lN 0) (lN ((2 ^ n) - 1))) (va_cwS 3 hts gX7_run_X7_in rfl rfl rfl (by decide +kernel) ⟨Nat.le_of_ble_eq_true rfl, Nat.le_of_ble_eq_true rfl⟩) ⟨pc_blind, fun U hU hW => ⟨rfl, by rw [hU]; exact hP.sub (ws' := []) [] rfl, hKN.warm hW⟩⟩ rfl rfl hl.1 rfl (lv_room (Nat.le_of_ble_eq_true rfl)) dX7_run_27 ⟨Nat.le_of_ble_eq_true rfl, Nat.le_of_ble_eq_true rfl⟩) hS hP (fun r5 H locs w5r hP hS => ?_)
      have w5 : B01 r5 ((lN 0).toInt ≤ p1.toInt64.toInt ∧ p1.toInt64.toInt ≤ (lN ((2 ^ n) - 1)).toInt) := w5r
      clear w5r
      rw [lN_toInt (n := 0) (by omega), j2 p1, lN_toInt (n := ((2 ^ n) - 1)) (by omega)] at w5
      rcases w5 with ⟨rfl, w5⟩ | ⟨rfl, w5⟩
      · skip
        have hst := w5
        obtain ⟨j8, hj8, rfl⟩ := m_nat (x := p1) (n := 2 ^ n) (by omega)
        have tj8 : (nI j8).toInt = (j8 : Int) := nI_toInt (by omega)
        refine lv_if_eq (tgt := 49) hx hb dX7_run_30 (by decide) (fun c6 => ?_) (fun c6 => ?_)
        · exact absurd c6 (by first | decide | exact nz_lt (by omega) | exact fun h => h (nz_ge (by omega)))
        · skip
          refine lv_aload_n hx hb dX7_run_33 rfl (lv_at hl 1 rfl) ?_
          refine va_get (D := D) (ci := 7) (v := .int (nI y)) (C := RX7) (T := TX7) (N := 17) hx hb hts hiX7 hown hK hP 0 rfl rfl 6 (by decide) hf27 (fun _ h9 => h9) rfl dX7_run_34 ?_
          refine lv_if_lt (tgt := 49) hx hb dX7_run_37 (by decide) (fun c7 => ?_) (fun c7 => ?_)
          · exact absurd c7 (by first | decide | exact nz_lt (by omega) | exact fun h => h (nz_ge (by omega)))
          · skip
            refine lv_aload_n hx hb dX7_run_40 rfl (lv_at hl 1 rfl) ?_
            refine lv_iload_n hx hb dX7_run_41 rfl (lv_at hl 3 rfl) ?_
            refine lv_iload_n hx hb dX7_run_42 rfl (lv_at hl 0 rfl) ?_
            refine pu_i (va_runV (As := [.int (nI j8), .int (nI (nowN fn n))]) (rest := []) ⟨hx, hb, hml, hown, hts⟩ (c_X7_isSuch_v l D cI cJ cZ m0 g1 g2 g3 g4 g5 g6 g7 g8 g9 g10 g11 g12 n (nowN fn n) mr (nI y) (nI q) ml (nI j8) th (by first | assumption | omega) (by first | assumption | omega) (by first | assumption | omega)) (cwV 2 hts gX7_run_X7_isSuch rfl rfl rfl (by decide +kernel) ⟨Nat.le_of_ble_eq_true rfl, Nat.le_of_ble_eq_true rfl⟩) ⟨pc_blind, va_recv hK hP (ci := 7) (q0 := 0) rfl rfl, fun U hU hW => ⟨rfl, by rw [hU]; exact hP.sub (ws' := [(m0, .inr (7, [.int (nI n), .ref g1, .ref g2, .ref g3, .int mr, .ref g4, .int (nI y), .ref g5, .int (nI q), .ref g6, .int ml, .ref g7, .ref g8, .ref g9, .ref g10, .ref g11, .ref g12])), (g12, .inl (cI, 9, .inl th))]) [0, 8] rfl, hKN.warm hW⟩⟩ rfl rfl hl.1 rfl (lv_room (Nat.le_of_ble_eq_true rfl)) dX7_run_43 ⟨Nat.le_of_ble_eq_true rfl, Nat.le_of_ble_eq_true rfl⟩) hS hP (fun r8 H locs w8r hP hS => ?_)
            have w8 : B01 r8 (SCH (nowN fn n) n (nI j8)) := w8r
            clear w8r
            rcases w8 with ⟨rfl, w8⟩ | ⟨rfl, w8⟩
            · skip
              have hsc := w8
              refine lv_if_ne (tgt := 51) hx hb dX7_run_46 (by decide) (fun c9 => ?_) (fun c9 => ?_)
              · skip
                rcases m_w02 (x := p0) (by omega) with rfl | rfl | rfl
                · skip
                  refine lv_iload_n hx hb dX7_run_51 rfl (lv_at hl 2 rfl) ?_
                  refine lv_iconst (v := nI 2) hx hb dX7_run_52 (by decide) ?_
                  refine lv_icmp_ge (tgt := 60) hx hb dX7_run_53 (by decide) (fun c10 => ?_) (fun c10 => ?_)
                  · exact absurd c10 (by first | decide | exact nz_lt (by omega) | exact fun h => h (nz_ge (by omega)))
                  · skip
                    refine lv_aload_n hx hb dX7_run_56 rfl (lv_at hl 1 rfl) ?_
                    refine mu2_v (n := 13) (wc := [(m0, .inr (7, [.int (nI n), .ref g1, .ref g2, .ref g3, .int mr, .ref g4, .int (nI y), .ref g5, .int (nI q), .ref g6, .int ml, .ref g7, .ref g8, .ref g9, .ref g10, .ref g11, .ref g12])), (g1, .inl (cI, 9, .inl fg)), (g2, .inl (cI, 9, .inl fb)), (g3, .inl (cI, 9, .inl fp)), (g4, .inl (cZ, 20480, .inl fs)), (g12, .inl (cI, 9, .inl th)), (g8, .inl (cJ, 19683, .inr (.inl eb))), (g9, .inl (cI, 19683, .inl en)), (g10, .inl (cI, 19683, .inl ew)), (g11, .inl (cI, 19683, .inl ex))]) (wr := [(g5, .inl (cI, 9, .inl fn)), (g6, .inl (cI, 9, .inl fo)), (g7, .inl (cI, 9, .inl fl))]) (as0 := [m0, g1, g2, g3, g4, g5, g6, g7, g12, g8, g9, g10, g11]) (va_runV (As := []) (rest := []) ⟨hx, hb, hml, hown, hts⟩ (c_X7_plans_v l D cI cJ cZ m0 g1 g2 g3 g4 g5 g6 g7 g8 g9 g10 g11 g12 n y mr (nI q) ml fg fb fp fs th eb en ew ex (by first | assumption | omega) (by first | assumption | omega) (by first | assumption | omega) (by first | assumption | omega) (by first | assumption | omega)) (cwV 0 hts gX7_run_X7_plans rfl rfl rfl (by decide +kernel) ⟨Nat.le_of_ble_eq_true rfl, Nat.le_of_ble_eq_true rfl⟩) ⟨pm_blind, va_recv hK hP (ci := 7) (q0 := 0) rfl rfl, fun U hU hW => ⟨rfl, by rw [hU]; exact hP.sub (ws' := [(m0, .inr (7, [.int (nI n), .ref g1, .ref g2, .ref g3, .int mr, .ref g4, .int (nI y), .ref g5, .int (nI q), .ref g6, .int ml, .ref g7, .ref g8, .ref g9, .ref g10, .ref g11, .ref g12])), (g1, .inl (cI, 9, .inl fg)), (g2, .inl (cI, 9, .inl fb)), (g3, .inl (cI, 9, .inl fp)), (g4, .inl (cZ, 20480, .inl fs)), (g12, .inl (cI, 9, .inl th)), (g8, .inl (cJ, 19683, .inr (.inl eb))), (g9, .inl (cI, 19683, .inl en)), (g10, .inl (cI, 19683, .inl ew)), (g11, .inl (cI, 19683, .inl ex))]) [0, 1, 2, 3, 4, 8, 9, 10, 11, 12] rfl, hKN.warm hW, (hD.sub (ws' := [(m0, .inr (7, [.int (nI n), .ref g1, .ref g2, .ref g3, .int mr, .ref g4, .int (nI y), .ref g5, .int (nI q), .ref g6, .int ml, .ref g7, .ref g8, .ref g9, .ref g10, .ref g11, .ref g12])), (g1, .inl (cI, 9, .inl fg)), (g2, .inl (cI, 9, .inl fb)), (g3, .inl (cI, 9, .inl fp)), (g4, .inl (cZ, 20480, .inl fs)), (g12, .inl (cI, 9, .inl th)), (g8, .inl (cJ, 19683, .inr (.inl eb))), (g9, .inl (cI, 19683, .inl en)), (g10, .inl (cI, 19683, .inl ew)), (g11, .inl (cI, 19683, .inl ex))]) [0, 1, 2, 3, 4, 8, 9, 10, 11, 12] (by decide) rfl).weaken (fun _ _ _ _ => trivial)⟩⟩ rfl rfl hl.1 rfl (lv_room (Nat.le_of_ble_eq_true rfl)) dX7_run_57 ⟨Nat.le_of_ble_eq_true rfl, Nat.le_of_ble_eq_true rfl⟩) hS hP hD (fun (u : (Nat → Int64) × (Nat → Int32) × (Nat → Int32) × (Nat → Int32)) => [(m0, .inr (7, [.int (nI n), .ref g1, .ref g2, .ref g3, .int mr, .ref g4, .int (nI y), .ref g5, .int (nI q), .ref g6, .int ml, .ref g7, .ref g8, .ref g9, .ref g10, .ref g11, .ref g12])), (g1, .inl (cI, 9, .inl fg)), (g2, .inl (cI, 9, .inl fb)), (g3, .inl (cI, 9, .inl fp)), (g4, .inl (cZ, 20480, .inl fs)), (g5, .inl (cI, 9, .inl fn)), (g6, .inl (cI, 9, .inl fo)), (g7, .inl (cI, 9, .inl fl)), (g12, .inl (cI, 9, .inl th)), (g8, .inl (cJ, 19683, .inr (.inl u.1))), (g9, .inl (cI, 19683, .inl u.2.1)), (g10, .inl (cI, 19683, .inl u.2.2.1)), (g11, .inl (cI, 19683, .inl u.2.2.2))]) [0, 1, 2, 3, 4, 8, 9, 10, 11, 12] [5, 6, 7] rfl rfl rfl (fun _ => rfl) (fun _ => rfl) rfl (fun _ => rfl) (fun _ => rfl) (m_cov rfl) (m_dis rfl) (fun u11 H locs w11r hP hD hS => ?_)
                    obtain ⟨u11_ub, u11_un, u11_uw, u11_ux⟩ := u11
                    have hP : va_P D vwCl [(m0, .inr (7, [.int (nI n), .ref g1, .ref g2, .ref g3, .int mr, .ref g4, .int (nI y), .ref g5, .int (nI q), .ref g6, .int ml, .ref g7, .ref g8, .ref g9, .ref g10, .ref g11, .ref g12])), (g1, .inl (cI, 9, .inl fg)), (g2, .inl (cI, 9, .inl fb)), (g3, .inl (cI, 9, .inl fp)), (g4, .inl (cZ, 20480, .inl fs)), (g5, .inl (cI, 9, .inl fn)), (g6, .inl (cI, 9, .inl fo)), (g7, .inl (cI, 9, .inl fl)), (g12, .inl (cI, 9, .inl th)), (g8, .inl (cJ, 19683, .inr (.inl u11_ub))), (g9, .inl (cI, 19683, .inl u11_un)), (g10, .inl (cI, 19683, .inl u11_uw)), (g11, .inl (cI, 19683, .inl u11_ux))] H := hP
                    have hD : va_D (aA as) [(m0, .inr (7, [.int (nI n), .ref g1, .ref g2, .ref g3, .int mr, .ref g4, .int (nI y), .ref g5, .int (nI q), .ref g6, .int ml, .ref g7, .ref g8, .ref g9, .ref g10, .ref g11, .ref g12])), (g1, .inl (cI, 9, .inl fg)), (g2, .inl (cI, 9, .inl fb)), (g3, .inl (cI, 9, .inl fp)), (g4, .inl (cZ, 20480, .inl fs)), (g5, .inl (cI, 9, .inl fn)), (g6, .inl (cI, 9, .inl fo)), (g7, .inl (cI, 9, .inl fl)), (g12, .inl (cI, 9, .inl th)), (g8, .inl (cJ, 19683, .inr (.inl u11_ub))), (g9, .inl (cI, 19683, .inl u11_un)), (g10, .inl (cI, 19683, .inl u11_uw)), (g11, .inl (cI, 19683, .inl u11_ux))] := hD
                    have w11 : ∀ z, z < 3 ^ n → RM (Sg fs y) n (fun c9 => mlf fg fb th (nI c9) n) fp u11_ub u11_un u11_uw u11_ux z := w11r
                    clear w11r
                    have hpl := w11
                    have hvv := fun z (hz : z < 3 ^ n) => RM.vv (hpl z hz)
                    refine lv_iconst (v := nI 0) hx hb dX7_run_60 (by decide) ?_
                    refine lv_istore (lv' := [(4, .int (nI 0)), (3, .int (nI (nowN fn n))), (0, .ref m0), (1, .int (nI 0)), (2, .int (nI j8))]) hx hb dX7_run_61 hl (by decide) rfl (fun ls hl => ?_)
                    refine lv_aload_n hx hb dX7_run_63 rfl (lv_at hl 2 rfl) ?_
                    refine lv_iconst (v := nI 0) hx hb dX7_run_64 (by decide) ?_
                    refine va_put (D := D) (ci := 7) (v := .int (nI 0)) (ty := tyX7 10) (C := RX7) (T := TX7) (N := 17) hx hb hts hiX7 tyX7 tyX7_ok nmX7 hown hK hP hD hS 0 rfl rfl 10 (by decide) hf67 (fun _ h9 => h9) rfl (by decide +kernel) rfl rfl (Nat.le_of_ble_eq_true rfl) dX7_run_65 (fun H locs hP hD hS => ?_)
                    have hP : va_P D vwCl [(m0, .inr (7, [.int (nI n), .ref g1, .ref g2, .ref g3, .int mr, .ref g4, .int (nI y), .ref g5, .int (nI q), .ref g6, .int (nI 0), .ref g7, .ref g8, .ref g9, .ref g10, .ref g11, .ref g12])), (g1, .inl (cI, 9, .inl fg)), (g2, .inl (cI, 9, .inl fb)), (g3, .inl (cI, 9, .inl fp)), (g4, .inl (cZ, 20480, .inl fs)), (g5, .inl (cI, 9, .inl fn)), (g6, .inl (cI, 9, .inl fo)), (g7, .inl (cI, 9, .inl fl)), (g12, .inl (cI, 9, .inl th)), (g8, .inl (cJ, 19683, .inr (.inl u11_ub))), (g9, .inl (cI, 19683, .inl u11_un)), (g10, .inl (cI, 19683, .inl u11_uw)), (g11, .inl (cI, 19683, .inl u11_ux))] H := hP
                    have hD : va_D (aA as) [(m0, .inr (7, [.int (nI n), .ref g1, .ref g2, .ref g3, .int mr, .ref g4, .int (nI y), .ref g5, .int (nI q), .ref g6, .int (nI 0), .ref g7, .ref g8, .ref g9, .ref g10, .ref g11, .ref g12])), (g1, .inl (cI, 9, .inl fg)), (g2, .inl (cI, 9, .inl fb)), (g3, .inl (cI, 9, .inl fp)), (g4, .inl (cZ, 20480, .inl fs)), (g5, .inl (cI, 9, .inl fn)), (g6, .inl (cI, 9, .inl fo)), (g7, .inl (cI, 9, .inl fl)), (g12, .inl (cI, 9, .inl th)), (g8, .inl (cJ, 19683, .inr (.inl u11_ub))), (g9, .inl (cI, 19683, .inl u11_un)), (g10, .inl (cI, 19683, .inl u11_uw)), (g11, .inl (cI, 19683, .inl u11_ux))] := hD
                    have loop12 : ∀ (fu : Nat) (u0 : Nat) (v : Int32) (lq : Nat) (ul : Nat → Int32) (H : Heap) (locs : List Loc) (ls : Array Slot), (u0 < 3 ^ n ∧ 3 ^ n ≤ u0 + fu) → (lq ≤ seenN u0 n) → (PAID (NXM (Sg fs y) n (fun c9 => mlf fg fb th (nI c9) n) fp fo q (nI 0)) (US (Sg fs y) n 1 2) fp (stM j8) lq (nowN fn n) u0 v) → va_P D vwCl [(m0, .inr (7, [.int (nI n), .ref g1, .ref g2, .ref g3, .int mr, .ref g4, .int (nI y), .ref g5, .int (nI q), .ref g6, .int (nI lq), .ref g7, .ref g8, .ref g9, .ref g10, .ref g11, .ref g12])), (g1, .inl (cI, 9, .inl fg)), (g2, .inl (cI, 9, .inl fb)), (g3, .inl (cI, 9, .inl fp)), (g4, .inl (cZ, 20480, .inl fs)), (g5, .inl (cI, 9, .inl fn)), (g6, .inl (cI, 9, .inl fo)), (g7, .inl (cI, 9, .inl ul)), (g12, .inl (cI, 9, .inl th)), (g8, .inl (cJ, 19683, .inr (.inl u11_ub))), (g9, .inl (cI, 19683, .inl u11_un)), (g10, .inl (cI, 19683, .inl u11_uw)), (g11, .inl (cI, 19683, .inl u11_ux))] H → va_D (aA as) [(m0, .inr (7, [.int (nI n), .ref g1, .ref g2, .ref g3, .int mr, .ref g4, .int (nI y), .ref g5, .int (nI q), .ref g6, .int (nI lq), .ref g7, .ref g8, .ref g9, .ref g10, .ref g11, .ref g12])), (g1, .inl (cI, 9, .inl fg)), (g2, .inl (cI, 9, .inl fb)), (g3, .inl (cI, 9, .inl fp)), (g4, .inl (cZ, 20480, .inl fs)), (g5, .inl (cI, 9, .inl fn)), (g6, .inl (cI, 9, .inl fo)), (g7, .inl (cI, 9, .inl ul)), (g12, .inl (cI, 9, .inl th)), (g8, .inl (cJ, 19683, .inr (.inl u11_ub))), (g9, .inl (cI, 19683, .inl u11_un)), (g10, .inl (cI, 19683, .inl u11_uw)), (g11, .inl (cI, 19683, .inl u11_ux))] → va_S (aA as) s.heap H locs → lv_has ls 6 [(4, .int v), (3, .int (nI u0)), (0, .ref m0), (1, .int (nI 0)), (2, .int (nI j8))] → W p l e (headSpec wsX7_run rm_c_X7_run_v).room s m ([.ref m0, .int (nI 0), .int (nI j8)] : List Value).toArray below meth c H locs 0 0 Q (F0 m 68 ls []) := by
                      intro fu
                      induction fu with
                      | zero => intro u0 v lq ul H locs ls hu hlq hR; exact absurd hu (by omega)
                      | succ fu ih12 =>
                        intro u0 v lq ul H locs ls hu hlq hR hP hD hS hl
                        refine lv_aload_n hx hb dX7_run_68 rfl (lv_at hl 2 rfl) ?_
                        refine lv_iload_n hx hb dX7_run_69 rfl (lv_at hl 1 rfl) ?_
                        refine pu_i (va_runV (As := [.int (nI u0)]) (rest := []) ⟨hx, hb, hml, hown, hts⟩ (c_X7_sureAt l D cI cJ cZ m0 g1 g2 g3 g4 g5 g6 g7 g8 g9 g10 g11 g12 n u0 y mr (nI q) (nI lq) fs th (by first | assumption | omega) (by first | assumption | omega) (by first | assumption | omega) (by first | assumption | omega) (by first | assumption | omega)) (cwV 1 hts gX7_run_X7_sureAt rfl rfl rfl (by decide +kernel) ⟨Nat.le_of_ble_eq_true rfl, Nat.le_of_ble_eq_true rfl⟩) ⟨pc_blind, va_recv hK hP (ci := 7) (q0 := 0) rfl rfl, fun U hU hW => ⟨rfl, by rw [hU]; exact hP.sub (ws' := [(m0, .inr (7, [.int (nI n), .ref g1, .ref g2, .ref g3, .int mr, .ref g4, .int (nI y), .ref g5, .int (nI q), .ref g6, .int (nI lq), .ref g7, .ref g8, .ref g9, .ref g10, .ref g11, .ref g12])), (g4, .inl (cZ, 20480, .inl fs)), (g12, .inl (cI, 9, .inl th))]) [0, 4, 8] rfl, hKN.warm hW⟩⟩ rfl rfl hl.1 rfl (lv_room (Nat.le_of_ble_eq_true rfl)) dX7_run_70 ⟨Nat.le_of_ble_eq_true rfl, Nat.le_of_ble_eq_true rfl⟩) hS hP (fun r13 H locs w13r hP hS => ?_)
                        have w13 : (r13 = nI 1 ∧ Sg fs y (setN u0 1 n)) ∨ (r13 = -1 ∧ ¬ Sg fs y (setN u0 1 n) ∧ Sg fs y (2 ^ n - 1 - setN u0 2 n)) ∨ (r13 = nI 0 ∧ ¬ Sg fs y (setN u0 1 n) ∧ ¬ Sg fs y (2 ^ n - 1 - setN u0 2 n)) := w13r
                        clear w13r
                        rcases w13 with ⟨rfl, w13⟩ | ⟨rfl, w13⟩ | ⟨rfl, w13⟩
                        · skip
                          have hns := w13
                          refine lv_iconst (v := (-1 : Int32)) hx hb dX7_run_73 (by decide) ?_
                          refine lv_icmp_ne (tgt := 173) hx hb dX7_run_74 (by decide) (fun c14 => ?_) (fun c14 => ?_)
                          · skip
                            refine lv_iload hx hb dX7_run_173 (lv_at hl 0 rfl) ?_
                            rw [← hQ]
                            exact W.iret (v := v) hx hb hr (fun tS htS hWS => ⟨⟨v, (nI lq, ul, u11_ub, u11_un, u11_uw, u11_ux), rfl, Or.inr ⟨lq, by have := seenN_le u0 n; omega, rfl, ⟨w02 (by omega), by omega, hsc⟩, by rw [m_tn (by omega)]; exact hR.fin (fun g => by first | exact g.1 hns | exact hns.2 g.2)⟩, m_at htS hP⟩, by rw [← has]; exact hS.F htS⟩) (by rw [← has]; exact hS.2.2) dX7_run_175
                          · exact absurd c14 (by first | decide | exact nz_lt (by omega) | exact fun h => h (nz_ge (by omega)))
                        · skip
                          have hus := w13
                          refine lv_iconst (v := (-1 : Int32)) hx hb dX7_run_73 (by decide) ?_
                          refine lv_icmp_ne (tgt := 173) hx hb dX7_run_74 (by decide) (fun c15 => ?_) (fun c15 => ?_)
                          · exact absurd c15 (by first | decide | exact nz_lt (by omega) | exact fun h => h (nz_ge (by omega)))
                          · skip
                            refine lv_iload_n hx hb dX7_run_77 rfl (lv_at hl 3 rfl) ?_
                            refine lv_if_ne (tgt := 90) hx hb dX7_run_78 (by decide) (fun c16 => ?_) (fun c16 => ?_)
                            · exact absurd c16 (by first | decide | exact nz_lt (by omega) | exact fun h => h (nz_ge (by omega)))
                            · skip
                              refine lv_aload_n hx hb dX7_run_81 rfl (lv_at hl 2 rfl) ?_
                              refine va_get (D := D) (ci := 7) (v := .ref g9) (C := RX7) (T := TX7) (N := 17) hx hb hts hiX7 hown hK hP 0 rfl rfl 13 (by decide) hf43 (fun _ h9 => h9) rfl dX7_run_82 ?_
                              refine lv_iload_n hx hb dX7_run_85 rfl (lv_at hl 1 rfl) ?_
                              obtain ⟨x9, hx9, ex9, hd9⟩ := (hvv u0 hu.1 hus).1
                              have hnx : NXM (Sg fs y) n (fun c9 => mlf fg fb th (nI c9) n) fp fo q (nI 0) u0 x9 := ⟨hx9, hd9, fun e => absurd e (by decide), fun _ => ⟨_, _, _, _, hpl, fun _ => ex9, fun e => absurd rfl e⟩⟩
                              refine va_iald hx hb hK hP 10 0 rfl rfl (i := nI u0) (vp_in_nI (by omega) (by omega)) dX7_run_86 ?_
                              refine cn_i (y := nI x9) ((congrArg _ (nI_clamp (by omega))).trans ex9) ?_
                              refine lv_goto (tgt := 109) hx hb dX7_run_87 (by decide) ?_
                              refine lv_istore (lv' := [(5, .int (nI x9)), (4, .int v), (3, .int (nI u0)), (0, .ref m0), (1, .int (nI 0)), (2, .int (nI j8))]) hx hb dX7_run_109 hl (by decide) rfl (fun ls hl => ?_)
                              refine lv_aload_n hx hb dX7_run_111 rfl (lv_at hl 3 rfl) ?_
                              refine va_get (D := D) (ci := 7) (v := .ref g7) (C := RX7) (T := TX7) (N := 17) hx hb hts hiX7 hown hK hP 0 rfl rfl 11 (by decide) hf36 (fun _ h9 => h9) rfl dX7_run_112 ?_
                              have hsl9 := seenN_le u0 n
                              have hsu1 := seenN_up (d := 1) (cv := u0) (x := x9) hd9 (by omega) (by omega) n
                              have hsu2 := seenN_up (d := 2) (cv := u0) (x := x9) hd9 (by omega) (by omega) n
                              rw [if_pos hx9] at hsu1 hsu2
                              have hsl1 := seenN_le (u0 + 3 ^ x9 * 1) n
                              refine lv_aload_n hx hb dX7_run_115 rfl (lv_at hl 3 rfl) ?_
                              refine va_get (D := D) (ci := 7) (v := .int (nI lq)) (C := RX7) (T := TX7) (N := 17) hx hb hts hiX7 hown hK hP 0 rfl rfl 10 (by decide) hf67 (fun _ h9 => h9) rfl dX7_run_116 ?_
                              refine lv_iload hx hb dX7_run_119 (lv_at hl 0 rfl) ?_
                              refine va_iast hx hb hK hP hD hS 7 0 rfl rfl (i := nI lq) (vp_in_nI (by omega) (by omega)) dX7_run_121 (fun H locs hP hD hS => ?_)
                              have hP : va_P D vwCl [(m0, .inr (7, [.int (nI n), .ref g1, .ref g2, .ref g3, .int mr, .ref g4, .int (nI y), .ref g5, .int (nI q), .ref g6, .int (nI lq), .ref g7, .ref g8, .ref g9, .ref g10, .ref g11, .ref g12])), (g1, .inl (cI, 9, .inl fg)), (g2, .inl (cI, 9, .inl fb)), (g3, .inl (cI, 9, .inl fp)), (g4, .inl (cZ, 20480, .inl fs)), (g5, .inl (cI, 9, .inl fn)), (g6, .inl (cI, 9, .inl fo)), (g7, .inl (cI, 9, .inl (upd ul (nI lq).toNatClampNeg (nI x9)))), (g12, .inl (cI, 9, .inl th)), (g8, .inl (cJ, 19683, .inr (.inl u11_ub))), (g9, .inl (cI, 19683, .inl u11_un)), (g10, .inl (cI, 19683, .inl u11_uw)), (g11, .inl (cI, 19683, .inl u11_ux))] H := hP
                              have hD : va_D (aA as) [(m0, .inr (7, [.int (nI n), .ref g1, .ref g2, .ref g3, .int mr, .ref g4, .int (nI y), .ref g5, .int (nI q), .ref g6, .int (nI lq), .ref g7, .ref g8, .ref g9, .ref g10, .ref g11, .ref g12])), (g1, .inl (cI, 9, .inl fg)), (g2, .inl (cI, 9, .inl fb)), (g3, .inl (cI, 9, .inl fp)), (g4, .inl (cZ, 20480, .inl fs)), (g5, .inl (cI, 9, .inl fn)), (g6, .inl (cI, 9, .inl fo)), (g7, .inl (cI, 9, .inl (upd ul (nI lq).toNatClampNeg (nI x9)))), (g12, .inl (cI, 9, .inl th)), (g8, .inl (cJ, 19683, .inr (.inl u11_ub))), (g9, .inl (cI, 19683, .inl u11_un)), (g10, .inl (cI, 19683, .inl u11_uw)), (g11, .inl (cI, 19683, .inl u11_ux))] := hD
                              rw [nI_clamp (n := lq) (by omega)] at hP hD
                              refine lv_aload_n hx hb dX7_run_122 rfl (lv_at hl 3 rfl) ?_
                              refine lv_dup hx hb dX7_run_123 rfl ?_
                              refine va_get (D := D) (ci := 7) (v := .int (nI lq)) (C := RX7) (T := TX7) (N := 17) hx hb hts hiX7 hown hK hP 0 rfl rfl 10 (by decide) hf67 (fun _ h9 => h9) rfl dX7_run_124 ?_
                              refine lv_iconst (v := nI 1) hx hb dX7_run_127 (by decide) ?_
                              refine lv_iadd hx hb dX7_run_128 ?_
                              refine cn_i (y := nI (lq + 1)) (nI_add lq 1) ?_
                              refine va_put (D := D) (ci := 7) (v := .int (nI (lq + 1))) (ty := tyX7 10) (C := RX7) (T := TX7) (N := 17) hx hb hts hiX7 tyX7 tyX7_ok nmX7 hown hK hP hD hS 0 rfl rfl 10 (by decide) hf67 (fun _ h9 => h9) rfl (by decide +kernel) rfl rfl (Nat.le_of_ble_eq_true rfl) dX7_run_129 (fun H locs hP hD hS => ?_)
                              have hP : va_P D vwCl [(m0, .inr (7, [.int (nI n), .ref g1, .ref g2, .ref g3, .int mr, .ref g4, .int (nI y), .ref g5, .int (nI q), .ref g6, .int (nI (lq + 1)), .ref g7, .ref g8, .ref g9, .ref g10, .ref g11, .ref g12])), (g1, .inl (cI, 9, .inl fg)), (g2, .inl (cI, 9, .inl fb)), (g3, .inl (cI, 9, .inl fp)), (g4, .inl (cZ, 20480, .inl fs)), (g5, .inl (cI, 9, .inl fn)), (g6, .inl (cI, 9, .inl fo)), (g7, .inl (cI, 9, .inl (upd ul lq (nI x9)))), (g12, .inl (cI, 9, .inl th)), (g8, .inl (cJ, 19683, .inr (.inl u11_ub))), (g9, .inl (cI, 19683, .inl u11_un)), (g10, .inl (cI, 19683, .inl u11_uw)), (g11, .inl (cI, 19683, .inl u11_ux))] H := hP
                              have hD : va_D (aA as) [(m0, .inr (7, [.int (nI n), .ref g1, .ref g2, .ref g3, .int mr, .ref g4, .int (nI y), .ref g5, .int (nI q), .ref g6, .int (nI (lq + 1)), .ref g7, .ref g8, .ref g9, .ref g10, .ref g11, .ref g12])), (g1, .inl (cI, 9, .inl fg)), (g2, .inl (cI, 9, .inl fb)), (g3, .inl (cI, 9, .inl fp)), (g4, .inl (cZ, 20480, .inl fs)), (g5, .inl (cI, 9, .inl fn)), (g6, .inl (cI, 9, .inl fo)), (g7, .inl (cI, 9, .inl (upd ul lq (nI x9)))), (g12, .inl (cI, 9, .inl th)), (g8, .inl (cJ, 19683, .inr (.inl u11_ub))), (g9, .inl (cI, 19683, .inl u11_un)), (g10, .inl (cI, 19683, .inl u11_uw)), (g11, .inl (cI, 19683, .inl u11_ux))] := hD
                              refine lv_iload hx hb dX7_run_132 (lv_at hl 1 rfl) ?_
                              refine lv_aload_n hx hb dX7_run_134 rfl (lv_at hl 3 rfl) ?_
                              refine va_get (D := D) (ci := 7) (v := .ref g3) (C := RX7) (T := TX7) (N := 17) hx hb hts hiX7 hown hK hP 0 rfl rfl 3 (by decide) hf20 (fun _ h9 => h9) rfl dX7_run_135 ?_
                              refine lv_iload hx hb dX7_run_138 (lv_at hl 0 rfl) ?_
                              refine va_iald hx hb hK hP 3 0 rfl rfl (i := nI x9) (vp_in_nI (by omega) (by omega)) dX7_run_140 ?_
                              refine cn_i (y := fp x9) (congrArg fp (nI_clamp (by omega))) ?_
                              refine lv_iadd hx hb dX7_run_141 ?_
                              refine lv_istore (lv' := [(4, .int (v + (fp x9))), (5, .int (nI x9)), (3, .int (nI u0)), (0, .ref m0), (1, .int (nI 0)), (2, .int (nI j8))]) hx hb dX7_run_142 hl (by decide) rfl (fun ls hl => ?_)
                              refine lv_iload_n hx hb dX7_run_144 rfl (lv_at hl 2 rfl) ?_
                              refine lv_aload_n hx hb dX7_run_145 rfl (lv_at hl 3 rfl) ?_
                              refine va_get (D := D) (ci := 7) (v := .ref g12) (C := RX7) (T := TX7) (N := 17) hx hb hts hiX7 hown hK hP 0 rfl rfl 16 (by decide) hf52 (fun _ h9 => h9) rfl dX7_run_146 ?_
                              refine lv_iload hx hb dX7_run_149 (lv_at hl 1 rfl) ?_
                              refine va_iald hx hb hK hP 8 0 rfl rfl (i := nI x9) (vp_in_nI (by omega) (by omega)) dX7_run_151 ?_
                              refine cn_i (y := nI (3 ^ x9)) ((congrArg th (nI_clamp (by omega))).trans (hth x9 (by omega))) ?_
                              refine lv_iload_n hx hb dX7_run_152 rfl (lv_at hl 5 rfl) ?_
                              refine lv_iload hx hb dX7_run_153 (lv_at hl 1 rfl) ?_
                              refine lv_ishr hx hb dX7_run_155 ?_
                              refine cn_i (y := nI (j8 / 2 ^ x9)) (m_shr (by omega) (by omega)) ?_
                              refine lv_iconst (v := nI 1) hx hb dX7_run_156 (by decide) ?_
                              refine lv_iand hx hb dX7_run_157 ?_
                              refine cn_i (y := nI ((j8 / 2 ^ x9) % 2)) (m_andn1 (by first | omega | exact Nat.lt_of_le_of_lt (Nat.div_le_self _ _) (by omega))) ?_
                              refine lv_iconst (v := nI 1) hx hb dX7_run_158 (by decide) ?_
                              refine lv_icmp_ne (tgt := 166) hx hb dX7_run_159 (by decide) (fun c17 => ?_) (fun c17 => ?_)
                              · skip
                                have d17 := c17
                                rw [nI_eq (by omega) (by omega)] at d17
                                refine lv_iconst (v := nI 2) hx hb dX7_run_166 (by decide) ?_
                                refine lv_imul hx hb dX7_run_167 ?_
                                refine cn_i (y := nI ((3 ^ x9) * 2)) (pk_mul (3 ^ x9) 2) ?_
                                refine lv_iadd hx hb dX7_run_168 ?_
                                refine cn_i (y := nI (u0 + ((3 ^ x9) * 2))) (nI_add u0 ((3 ^ x9) * 2)) ?_
                                refine lv_istore_n (lv' := [(3, .int (nI (u0 + ((3 ^ x9) * 2)))), (4, .int (v + (fp x9))), (5, .int (nI x9)), (0, .ref m0), (1, .int (nI 0)), (2, .int (nI j8))]) hx hb dX7_run_169 rfl hl (by decide) rfl (fun ls hl => ?_)
                                refine lv_goto (tgt := 68) hx hb dX7_run_170 (by decide) ?_
                                exact ih12 (u0 + ((3 ^ x9) * 2)) (v + (fp x9)) (lq + 1) (upd ul lq (nI x9)) _ _ _ (by have h8 := m_up (n := n) hu.1 hx9 hd9; have h9 := m_p3p x9; omega) (by omega) (by have h9 := hR.step hus hnx; unfold stM at h9; first | (rw [if_pos (by omega)] at h9; exact h9) | (rw [if_neg (by omega)] at h9; exact h9)) hP hD hS (lv_sub hl [1, 0, 3, 4, 5] rfl)
                              · skip
                                have d17 := c17
                                rw [nI_eq (by omega) (by omega)] at d17
                                refine lv_iconst (v := nI 1) hx hb dX7_run_162 (by decide) ?_
                                refine lv_goto (tgt := 167) hx hb dX7_run_163 (by decide) ?_
                                refine lv_imul hx hb dX7_run_167 ?_
                                refine cn_i (y := nI ((3 ^ x9) * 1)) (pk_mul (3 ^ x9) 1) ?_
                                refine lv_iadd hx hb dX7_run_168 ?_
                                refine cn_i (y := nI (u0 + ((3 ^ x9) * 1))) (nI_add u0 ((3 ^ x9) * 1)) ?_
                                refine lv_istore_n (lv' := [(3, .int (nI (u0 + ((3 ^ x9) * 1)))), (4, .int (v + (fp x9))), (5, .int (nI x9)), (0, .ref m0), (1, .int (nI 0)), (2, .int (nI j8))]) hx hb dX7_run_169 rfl hl (by decide) rfl (fun ls hl => ?_)
                                refine lv_goto (tgt := 68) hx hb dX7_run_170 (by decide) ?_
                                exact ih12 (u0 + ((3 ^ x9) * 1)) (v + (fp x9)) (lq + 1) (upd ul lq (nI x9)) _ _ _ (by have h8 := m_up (n := n) hu.1 hx9 hd9; have h9 := m_p3p x9; omega) (by omega) (by have h9 := hR.step hus hnx; unfold stM at h9; first | (rw [if_pos (by omega)] at h9; exact h9) | (rw [if_neg (by omega)] at h9; exact h9)) hP hD hS (lv_sub hl [1, 0, 3, 4, 5] rfl)
                        · skip
                          have hns := w13
                          refine lv_iconst (v := (-1 : Int32)) hx hb dX7_run_73 (by decide) ?_
                          refine lv_icmp_ne (tgt := 173) hx hb dX7_run_74 (by decide) (fun c18 => ?_) (fun c18 => ?_)
                          · skip
                            refine lv_iload hx hb dX7_run_173 (lv_at hl 0 rfl) ?_
                            rw [← hQ]
                            exact W.iret (v := v) hx hb hr (fun tS htS hWS => ⟨⟨v, (nI lq, ul, u11_ub, u11_un, u11_uw, u11_ux), rfl, Or.inr ⟨lq, by have := seenN_le u0 n; omega, rfl, ⟨w02 (by omega), by omega, hsc⟩, by rw [m_tn (by omega)]; exact hR.fin (fun g => by first | exact g.1 hns | exact hns.2 g.2)⟩, m_at htS hP⟩, by rw [← has]; exact hS.F htS⟩) (by rw [← has]; exact hS.2.2) dX7_run_175
                          · exact absurd c18 (by first | decide | exact nz_lt (by omega) | exact fun h => h (nz_ge (by omega)))
                    exact loop12 (3 ^ n) (nowN fn n) (nI 0) 0 fl _ _ _ (by omega) (by omega) PAID.nil hP hD hS (lv_sub hl [0, 1, 2, 3, 4] rfl)
                · skip
                  refine lv_iload_n hx hb dX7_run_51 rfl (lv_at hl 2 rfl) ?_
                  refine lv_iconst (v := nI 2) hx hb dX7_run_52 (by decide) ?_
                  refine lv_icmp_ge (tgt := 60) hx hb dX7_run_53 (by decide) (fun c19 => ?_) (fun c19 => ?_)
                  · exact absurd c19 (by first | decide | exact nz_lt (by omega) | exact fun h => h (nz_ge (by omega)))
                  · skip
                    refine lv_aload_n hx hb dX7_run_56 rfl (lv_at hl 1 rfl) ?_
                    refine mu2_v (n := 13) (wc := [(m0, .inr (7, [.int (nI n), .ref g1, .ref g2, .ref g3, .int mr, .ref g4, .int (nI y), .ref g5, .int (nI q), .ref g6, .int ml, .ref g7, .ref g8, .ref g9, .ref g10, .ref g11, .ref g12])), (g1, .inl (cI, 9, .inl fg)), (g2, .inl (cI, 9, .inl fb)), (g3, .inl (cI, 9, .inl fp)), (g4, .inl (cZ, 20480, .inl fs)), (g12, .inl (cI, 9, .inl th)), (g8, .inl (cJ, 19683, .inr (.inl eb))), (g9, .inl (cI, 19683, .inl en)), (g10, .inl (cI, 19683, .inl ew)), (g11, .inl (cI, 19683, .inl ex))]) (wr := [(g5, .inl (cI, 9, .inl fn)), (g6, .inl (cI, 9, .inl fo)), (g7, .inl (cI, 9, .inl fl))]) (as0 := [m0, g1, g2, g3, g4, g5, g6, g7, g12, g8, g9, g10, g11]) (va_runV (As := []) (rest := []) ⟨hx, hb, hml, hown, hts⟩ (c_X7_plans_v l D cI cJ cZ m0 g1 g2 g3 g4 g5 g6 g7 g8 g9 g10 g11 g12 n y mr (nI q) ml fg fb fp fs th eb en ew ex (by first | assumption | omega) (by first | assumption | omega) (by first | assumption | omega) (by first | assumption | omega) (by first | assumption | omega)) (cwV 0 hts gX7_run_X7_plans rfl rfl rfl (by decide +kernel) ⟨Nat.le_of_ble_eq_true rfl, Nat.le_of_ble_eq_true rfl⟩) ⟨pm_blind, va_recv hK hP (ci := 7) (q0 := 0) rfl rfl, fun U hU hW => ⟨rfl, by rw [hU]; exact hP.sub (ws' := [(m0, .inr (7, [.int (nI n), .ref g1, .ref g2, .ref g3, .int mr, .ref g4, .int (nI y), .ref g5, .int (nI q), .ref g6, .int ml, .ref g7, .ref g8, .ref g9, .ref g10, .ref g11, .ref g12])), (g1, .inl (cI, 9, .inl fg)), (g2, .inl (cI, 9, .inl fb)), (g3, .inl (cI, 9, .inl fp)), (g4, .inl (cZ, 20480, .inl fs)), (g12, .inl (cI, 9, .inl th)), (g8, .inl (cJ, 19683, .inr (.inl eb))), (g9, .inl (cI, 19683, .inl en)), (g10, .inl (cI, 19683, .inl ew)), (g11, .inl (cI, 19683, .inl ex))]) [0, 1, 2, 3, 4, 8, 9, 10, 11, 12] rfl, hKN.warm hW, (hD.sub (ws' := [(m0, .inr (7, [.int (nI n), .ref g1, .ref g2, .ref g3, .int mr, .ref g4, .int (nI y), .ref g5, .int (nI q), .ref g6, .int ml, .ref g7, .ref g8, .ref g9, .ref g10, .ref g11, .ref g12])), (g1, .inl (cI, 9, .inl fg)), (g2, .inl (cI, 9, .inl fb)), (g3, .inl (cI, 9, .inl fp)), (g4, .inl (cZ, 20480, .inl fs)), (g12, .inl (cI, 9, .inl th)), (g8, .inl (cJ, 19683, .inr (.inl eb))), (g9, .inl (cI, 19683, .inl en)), (g10, .inl (cI, 19683, .inl ew)), (g11, .inl (cI, 19683, .inl ex))]) [0, 1, 2, 3, 4, 8, 9, 10, 11, 12] (by decide) rfl).weaken (fun _ _ _ _ => trivial)⟩⟩ rfl rfl hl.1 rfl (lv_room (Nat.le_of_ble_eq_true rfl)) dX7_run_57 ⟨Nat.le_of_ble_eq_true rfl, Nat.le_of_ble_eq_true rfl⟩) hS hP hD (fun (u : (Nat → Int64) × (Nat → Int32) × (Nat → Int32) × (Nat → Int32)) => [(m0, .inr (7, [.int (nI n), .ref g1, .ref g2, .ref g3, .int mr, .ref g4, .int (nI y), .ref g5, .int (nI q), .ref g6, .int ml, .ref g7, .ref g8, .ref g9, .ref g10, .ref g11, .ref g12])), (g1, .inl (cI, 9, .inl fg)), (g2, .inl (cI, 9, .inl fb)), (g3, .inl (cI, 9, .inl fp)), (g4, .inl (cZ, 20480, .inl fs)), (g5, .inl (cI, 9, .inl fn)), (g6, .inl (cI, 9, .inl fo)), (g7, .inl (cI, 9, .inl fl)), (g12, .inl (cI, 9, .inl th)), (g8, .inl (cJ, 19683, .inr (.inl u.1))), (g9, .inl (cI, 19683, .inl u.2.1)), (g10, .inl (cI, 19683, .inl u.2.2.1)), (g11, .inl (cI, 19683, .inl u.2.2.2))]) [0, 1, 2, 3, 4, 8, 9, 10, 11, 12] [5, 6, 7] rfl rfl rfl (fun _ => rfl) (fun _ => rfl) rfl (fun _ => rfl) (fun _ => rfl) (m_cov rfl) (m_dis rfl) (fun u20 H locs w20r hP hD hS => ?_)
                    obtain ⟨u20_ub, u20_un, u20_uw, u20_ux⟩ := u20
                    have hP : va_P D vwCl [(m0, .inr (7, [.int (nI n), .ref g1, .ref g2, .ref g3, .int mr, .ref g4, .int (nI y), .ref g5, .int (nI q), .ref g6, .int ml, .ref g7, .ref g8, .ref g9, .ref g10, .ref g11, .ref g12])), (g1, .inl (cI, 9, .inl fg)), (g2, .inl (cI, 9, .inl fb)), (g3, .inl (cI, 9, .inl fp)), (g4, .inl (cZ, 20480, .inl fs)), (g5, .inl (cI, 9, .inl fn)), (g6, .inl (cI, 9, .inl fo)), (g7, .inl (cI, 9, .inl fl)), (g12, .inl (cI, 9, .inl th)), (g8, .inl (cJ, 19683, .inr (.inl u20_ub))), (g9, .inl (cI, 19683, .inl u20_un)), (g10, .inl (cI, 19683, .inl u20_uw)), (g11, .inl (cI, 19683, .inl u20_ux))] H := hP
                    have hD : va_D (aA as) [(m0, .inr (7, [.int (nI n), .ref g1, .ref g2, .ref g3, .int mr, .ref g4, .int (nI y), .ref g5, .int (nI q), .ref g6, .int ml, .ref g7, .ref g8, .ref g9, .ref g10, .ref g11, .ref g12])), (g1, .inl (cI, 9, .inl fg)), (g2, .inl (cI, 9, .inl fb)), (g3, .inl (cI, 9, .inl fp)), (g4, .inl (cZ, 20480, .inl fs)), (g5, .inl (cI, 9, .inl fn)), (g6, .inl (cI, 9, .inl fo)), (g7, .inl (cI, 9, .inl fl)), (g12, .inl (cI, 9, .inl th)), (g8, .inl (cJ, 19683, .inr (.inl u20_ub))), (g9, .inl (cI, 19683, .inl u20_un)), (g10, .inl (cI, 19683, .inl u20_uw)), (g11, .inl (cI, 19683, .inl u20_ux))] := hD
                    have w20 : ∀ z, z < 3 ^ n → RM (Sg fs y) n (fun c9 => mlf fg fb th (nI c9) n) fp u20_ub u20_un u20_uw u20_ux z := w20r
                    clear w20r
                    have hpl := w20
                    have hvv := fun z (hz : z < 3 ^ n) => RM.vv (hpl z hz)
                    refine lv_iconst (v := nI 0) hx hb dX7_run_60 (by decide) ?_
                    refine lv_istore (lv' := [(4, .int (nI 0)), (3, .int (nI (nowN fn n))), (0, .ref m0), (1, .int (nI 1)), (2, .int (nI j8))]) hx hb dX7_run_61 hl (by decide) rfl (fun ls hl => ?_)
                    refine lv_aload_n hx hb dX7_run_63 rfl (lv_at hl 2 rfl) ?_
                    refine lv_iconst (v := nI 0) hx hb dX7_run_64 (by decide) ?_
                    refine va_put (D := D) (ci := 7) (v := .int (nI 0)) (ty := tyX7 10) (C := RX7) (T := TX7) (N := 17) hx hb hts hiX7 tyX7 tyX7_ok nmX7 hown hK hP hD hS 0 rfl rfl 10 (by decide) hf67 (fun _ h9 => h9) rfl (by decide +kernel) rfl rfl (Nat.le_of_ble_eq_true rfl) dX7_run_65 (fun H locs hP hD hS => ?_)
                    have hP : va_P D vwCl [(m0, .inr (7, [.int (nI n), .ref g1, .ref g2, .ref g3, .int mr, .ref g4, .int (nI y), .ref g5, .int (nI q), .ref g6, .int (nI 0), .ref g7, .ref g8, .ref g9, .ref g10, .ref g11, .ref g12])), (g1, .inl (cI, 9, .inl fg)), (g2, .inl (cI, 9, .inl fb)), (g3, .inl (cI, 9, .inl fp)), (g4, .inl (cZ, 20480, .inl fs)), (g5, .inl (cI, 9, .inl fn)), (g6, .inl (cI, 9, .inl fo)), (g7, .inl (cI, 9, .inl fl)), (g12, .inl (cI, 9, .inl th)), (g8, .inl (cJ, 19683, .inr (.inl u20_ub))), (g9, .inl (cI, 19683, .inl u20_un)), (g10, .inl (cI, 19683, .inl u20_uw)), (g11, .inl (cI, 19683, .inl u20_ux))] H := hP
                    have hD : va_D (aA as) [(m0, .inr (7, [.int (nI n), .ref g1, .ref g2, .ref g3, .int mr, .ref g4, .int (nI y), .ref g5, .int (nI q), .ref g6, .int (nI 0), .ref g7, .ref g8, .ref g9, .ref g10, .ref g11, .ref g12])), (g1, .inl (cI, 9, .inl fg)), (g2, .inl (cI, 9, .inl fb)), (g3, .inl (cI, 9, .inl fp)), (g4, .inl (cZ, 20480, .inl fs)), (g5, .inl (cI, 9, .inl fn)), (g6, .inl (cI, 9, .inl fo)), (g7, .inl (cI, 9, .inl fl)), (g12, .inl (cI, 9, .inl th)), (g8, .inl (cJ, 19683, .inr (.inl u20_ub))), (g9, .inl (cI, 19683, .inl u20_un)), (g10, .inl (cI, 19683, .inl u20_uw)), (g11, .inl (cI, 19683, .inl u20_ux))] := hD
                    have loop21 : ∀ (fu : Nat) (u0 : Nat) (v : Int32) (lq : Nat) (ul : Nat → Int32) (H : Heap) (locs : List Loc) (ls : Array Slot), (u0 < 3 ^ n ∧ 3 ^ n ≤ u0 + fu) → (lq ≤ seenN u0 n) → (PAID (NXM (Sg fs y) n (fun c9 => mlf fg fb th (nI c9) n) fp fo q (nI 1)) (US (Sg fs y) n 1 2) fp (stM j8) lq (nowN fn n) u0 v) → va_P D vwCl [(m0, .inr (7, [.int (nI n), .ref g1, .ref g2, .ref g3, .int mr, .ref g4, .int (nI y), .ref g5, .int (nI q), .ref g6, .int (nI lq), .ref g7, .ref g8, .ref g9, .ref g10, .ref g11, .ref g12])), (g1, .inl (cI, 9, .inl fg)), (g2, .inl (cI, 9, .inl fb)), (g3, .inl (cI, 9, .inl fp)), (g4, .inl (cZ, 20480, .inl fs)), (g5, .inl (cI, 9, .inl fn)), (g6, .inl (cI, 9, .inl fo)), (g7, .inl (cI, 9, .inl ul)), (g12, .inl (cI, 9, .inl th)), (g8, .inl (cJ, 19683, .inr (.inl u20_ub))), (g9, .inl (cI, 19683, .inl u20_un)), (g10, .inl (cI, 19683, .inl u20_uw)), (g11, .inl (cI, 19683, .inl u20_ux))] H → va_D (aA as) [(m0, .inr (7, [.int (nI n), .ref g1, .ref g2, .ref g3, .int mr, .ref g4, .int (nI y), .ref g5, .int (nI q), .ref g6, .int (nI lq), .ref g7, .ref g8, .ref g9, .ref g10, .ref g11, .ref g12])), (g1, .inl (cI, 9, .inl fg)), (g2, .inl (cI, 9, .inl fb)), (g3, .inl (cI, 9, .inl fp)), (g4, .inl (cZ, 20480, .inl fs)), (g5, .inl (cI, 9, .inl fn)), (g6, .inl (cI, 9, .inl fo)), (g7, .inl (cI, 9, .inl ul)), (g12, .inl (cI, 9, .inl th)), (g8, .inl (cJ, 19683, .inr (.inl u20_ub))), (g9, .inl (cI, 19683, .inl u20_un)), (g10, .inl (cI, 19683, .inl u20_uw)), (g11, .inl (cI, 19683, .inl u20_ux))] → va_S (aA as) s.heap H locs → lv_has ls 6 [(4, .int v), (3, .int (nI u0)), (0, .ref m0), (1, .int (nI 1)), (2, .int (nI j8))] → W p l e (headSpec wsX7_run rm_c_X7_run_v).room s m ([.ref m0, .int (nI 1), .int (nI j8)] : List Value).toArray below meth c H locs 0 0 Q (F0 m 68 ls []) := by
                      intro fu
                      induction fu with
                      | zero => intro u0 v lq ul H locs ls hu hlq hR; exact absurd hu (by omega)
                      | succ fu ih21 =>
                        intro u0 v lq ul H locs ls hu hlq hR hP hD hS hl
                        refine lv_aload_n hx hb dX7_run_68 rfl (lv_at hl 2 rfl) ?_
                        refine lv_iload_n hx hb dX7_run_69 rfl (lv_at hl 1 rfl) ?_
                        refine pu_i (va_runV (As := [.int (nI u0)]) (rest := []) ⟨hx, hb, hml, hown, hts⟩ (c_X7_sureAt l D cI cJ cZ m0 g1 g2 g3 g4 g5 g6 g7 g8 g9 g10 g11 g12 n u0 y mr (nI q) (nI lq) fs th (by first | assumption | omega) (by first | assumption | omega) (by first | assumption | omega) (by first | assumption | omega) (by first | assumption | omega)) (cwV 1 hts gX7_run_X7_sureAt rfl rfl rfl (by decide +kernel) ⟨Nat.le_of_ble_eq_true rfl, Nat.le_of_ble_eq_true rfl⟩) ⟨pc_blind, va_recv hK hP (ci := 7) (q0 := 0) rfl rfl, fun U hU hW => ⟨rfl, by rw [hU]; exact hP.sub (ws' := [(m0, .inr (7, [.int (nI n), .ref g1, .ref g2, .ref g3, .int mr, .ref g4, .int (nI y), .ref g5, .int (nI q), .ref g6, .int (nI lq), .ref g7, .ref g8, .ref g9, .ref g10, .ref g11, .ref g12])), (g4, .inl (cZ, 20480, .inl fs)), (g12, .inl (cI, 9, .inl th))]) [0, 4, 8] rfl, hKN.warm hW⟩⟩ rfl rfl hl.1 rfl (lv_room (Nat.le_of_ble_eq_true rfl)) dX7_run_70 ⟨Nat.le_of_ble_eq_true rfl, Nat.le_of_ble_eq_true rfl⟩) hS hP (fun r22 H locs w22r hP hS => ?_)
                        have w22 : (r22 = nI 1 ∧ Sg fs y (setN u0 1 n)) ∨ (r22 = -1 ∧ ¬ Sg fs y (setN u0 1 n) ∧ Sg fs y (2 ^ n - 1 - setN u0 2 n)) ∨ (r22 = nI 0 ∧ ¬ Sg fs y (setN u0 1 n) ∧ ¬ Sg fs y (2 ^ n - 1 - setN u0 2 n)) := w22r
                        clear w22r
                        rcases w22 with ⟨rfl, w22⟩ | ⟨rfl, w22⟩ | ⟨rfl, w22⟩
                        · skip
                          have hns := w22
                          refine lv_iconst (v := (-1 : Int32)) hx hb dX7_run_73 (by decide) ?_
                          refine lv_icmp_ne (tgt := 173) hx hb dX7_run_74 (by decide) (fun c23 => ?_) (fun c23 => ?_)
                          · skip
                            refine lv_iload hx hb dX7_run_173 (lv_at hl 0 rfl) ?_
                            rw [← hQ]
                            exact W.iret (v := v) hx hb hr (fun tS htS hWS => ⟨⟨v, (nI lq, ul, u20_ub, u20_un, u20_uw, u20_ux), rfl, Or.inr ⟨lq, by have := seenN_le u0 n; omega, rfl, ⟨w02 (by omega), by omega, hsc⟩, by rw [m_tn (by omega)]; exact hR.fin (fun g => by first | exact g.1 hns | exact hns.2 g.2)⟩, m_at htS hP⟩, by rw [← has]; exact hS.F htS⟩) (by rw [← has]; exact hS.2.2) dX7_run_175
                          · exact absurd c23 (by first | decide | exact nz_lt (by omega) | exact fun h => h (nz_ge (by omega)))
                        · skip
                          have hus := w22
                          refine lv_iconst (v := (-1 : Int32)) hx hb dX7_run_73 (by decide) ?_
                          refine lv_icmp_ne (tgt := 173) hx hb dX7_run_74 (by decide) (fun c24 => ?_) (fun c24 => ?_)
                          · exact absurd c24 (by first | decide | exact nz_lt (by omega) | exact fun h => h (nz_ge (by omega)))
                          · skip
                            refine lv_iload_n hx hb dX7_run_77 rfl (lv_at hl 3 rfl) ?_
                            refine lv_if_ne (tgt := 90) hx hb dX7_run_78 (by decide) (fun c25 => ?_) (fun c25 => ?_)
                            · skip
                              refine lv_iload_n hx hb dX7_run_90 rfl (lv_at hl 3 rfl) ?_
                              refine lv_iconst (v := nI 1) hx hb dX7_run_91 (by decide) ?_
                              refine lv_icmp_ne (tgt := 104) hx hb dX7_run_92 (by decide) (fun c26 => ?_) (fun c26 => ?_)
                              · exact absurd c26 (by first | decide | exact nz_lt (by omega) | exact fun h => h (nz_ge (by omega)))
                              · skip
                                refine lv_aload_n hx hb dX7_run_95 rfl (lv_at hl 2 rfl) ?_
                                refine va_get (D := D) (ci := 7) (v := .ref g11) (C := RX7) (T := TX7) (N := 17) hx hb hts hiX7 hown hK hP 0 rfl rfl 15 (by decide) hf49 (fun _ h9 => h9) rfl dX7_run_96 ?_
                                refine lv_iload_n hx hb dX7_run_99 rfl (lv_at hl 1 rfl) ?_
                                obtain ⟨x9, hx9, ex9, hd9⟩ := (hvv u0 hu.1 hus).2
                                have hnx : NXM (Sg fs y) n (fun c9 => mlf fg fb th (nI c9) n) fp fo q (nI 1) u0 x9 := ⟨hx9, hd9, fun e => absurd e (by decide), fun _ => ⟨_, _, _, _, hpl, fun e => absurd e (by decide), fun _ => ex9⟩⟩
                                refine va_iald hx hb hK hP 12 0 rfl rfl (i := nI u0) (vp_in_nI (by omega) (by omega)) dX7_run_100 ?_
                                refine cn_i (y := nI x9) ((congrArg _ (nI_clamp (by omega))).trans ex9) ?_
                                refine lv_goto (tgt := 109) hx hb dX7_run_101 (by decide) ?_
                                refine lv_istore (lv' := [(5, .int (nI x9)), (4, .int v), (3, .int (nI u0)), (0, .ref m0), (1, .int (nI 1)), (2, .int (nI j8))]) hx hb dX7_run_109 hl (by decide) rfl (fun ls hl => ?_)
                                refine lv_aload_n hx hb dX7_run_111 rfl (lv_at hl 3 rfl) ?_
                                refine va_get (D := D) (ci := 7) (v := .ref g7) (C := RX7) (T := TX7) (N := 17) hx hb hts hiX7 hown hK hP 0 rfl rfl 11 (by decide) hf36 (fun _ h9 => h9) rfl dX7_run_112 ?_
                                have hsl9 := seenN_le u0 n
                                have hsu1 := seenN_up (d := 1) (cv := u0) (x := x9) hd9 (by omega) (by omega) n
                                have hsu2 := seenN_up (d := 2) (cv := u0) (x := x9) hd9 (by omega) (by omega) n
                                rw [if_pos hx9] at hsu1 hsu2
                                have hsl1 := seenN_le (u0 + 3 ^ x9 * 1) n
                                refine lv_aload_n hx hb dX7_run_115 rfl (lv_at hl 3 rfl) ?_
                                refine va_get (D := D) (ci := 7) (v := .int (nI lq)) (C := RX7) (T := TX7) (N := 17) hx hb hts hiX7 hown hK hP 0 rfl rfl 10 (by decide) hf67 (fun _ h9 => h9) rfl dX7_run_116 ?_
                                refine lv_iload hx hb dX7_run_119 (lv_at hl 0 rfl) ?_
                                refine va_iast hx hb hK hP hD hS 7 0 rfl rfl (i := nI lq) (vp_in_nI (by omega) (by omega)) dX7_run_121 (fun H locs hP hD hS => ?_)
                                have hP : va_P D vwCl [(m0, .inr (7, [.int (nI n), .ref g1, .ref g2, .ref g3, .int mr, .ref g4, .int (nI y), .ref g5, .int (nI q), .ref g6, .int (nI lq), .ref g7, .ref g8, .ref g9, .ref g10, .ref g11, .ref g12])), (g1, .inl (cI, 9, .inl fg)), (g2, .inl (cI, 9, .inl fb)), (g3, .inl (cI, 9, .inl fp)), (g4, .inl (cZ, 20480, .inl fs)), (g5, .inl (cI, 9, .inl fn)), (g6, .inl (cI, 9, .inl fo)), (g7, .inl (cI, 9, .inl (upd ul (nI lq).toNatClampNeg (nI x9)))), (g12, .inl (cI, 9, .inl th)), (g8, .inl (cJ, 19683, .inr (.inl u20_ub))), (g9, .inl (cI, 19683, .inl u20_un)), (g10, .inl (cI, 19683, .inl u20_uw)), (g11, .inl (cI, 19683, .inl u20_ux))] H := hP
                                have hD : va_D (aA as) [(m0, .inr (7, [.int (nI n), .ref g1, .ref g2, .ref g3, .int mr, .ref g4, .int (nI y), .ref g5, .int (nI q), .ref g6, .int (nI lq), .ref g7, .ref g8, .ref g9, .ref g10, .ref g11, .ref g12])), (g1, .inl (cI, 9, .inl fg)), (g2, .inl (cI, 9, .inl fb)), (g3, .inl (cI, 9, .inl fp)), (g4, .inl (cZ, 20480, .inl fs)), (g5, .inl (cI, 9, .inl fn)), (g6, .inl (cI, 9, .inl fo)), (g7, .inl (cI, 9, .inl (upd ul (nI lq).toNatClampNeg (nI x9)))), (g12, .inl (cI, 9, .inl th)), (g8, .inl (cJ, 19683, .inr (.inl u20_ub))), (g9, .inl (cI, 19683, .inl u20_un)), (g10, .inl (cI, 19683, .inl u20_uw)), (g11, .inl (cI, 19683, .inl u20_ux))] := hD
                                rw [nI_clamp (n := lq) (by omega)] at hP hD
                                refine lv_aload_n hx hb dX7_run_122 rfl (lv_at hl 3 rfl) ?_
                                refine lv_dup hx hb dX7_run_123 rfl ?_
                                refine va_get (D := D) (ci := 7) (v := .int (nI lq)) (C := RX7) (T := TX7) (N := 17) hx hb hts hiX7 hown hK hP 0 rfl rfl 10 (by decide) hf67 (fun _ h9 => h9) rfl dX7_run_124 ?_
                                refine lv_iconst (v := nI 1) hx hb dX7_run_127 (by decide) ?_
                                refine lv_iadd hx hb dX7_run_128 ?_
                                refine cn_i (y := nI (lq + 1)) (nI_add lq 1) ?_
                                refine va_put (D := D) (ci := 7) (v := .int (nI (lq + 1))) (ty := tyX7 10) (C := RX7) (T := TX7) (N := 17) hx hb hts hiX7 tyX7 tyX7_ok nmX7 hown hK hP hD hS 0 rfl rfl 10 (by decide) hf67 (fun _ h9 => h9) rfl (by decide +kernel) rfl rfl (Nat.le_of_ble_eq_true rfl) dX7_run_129 (fun H locs hP hD hS => ?_)
                                have hP : va_P D vwCl [(m0, .inr (7, [.int (nI n), .ref g1, .ref g2, .ref g3, .int mr, .ref g4, .int (nI y), .ref g5, .int (nI q), .ref g6, .int (nI (lq + 1)), .ref g7, .ref g8, .ref g9, .ref g10, .ref g11, .ref g12])), (g1, .inl (cI, 9, .inl fg)), (g2, .inl (cI, 9, .inl fb)), (g3, .inl (cI, 9, .inl fp)), (g4, .inl (cZ, 20480, .inl fs)), (g5, .inl (cI, 9, .inl fn)), (g6, .inl (cI, 9, .inl fo)), (g7, .inl (cI, 9, .inl (upd ul lq (nI x9)))), (g12, .inl (cI, 9, .inl th)), (g8, .inl (cJ, 19683, .inr (.inl u20_ub))), (g9, .inl (cI, 19683, .inl u20_un)), (g10, .inl (cI, 19683, .inl u20_uw)), (g11, .inl (cI, 19683, .inl u20_ux))] H := hP
                                have hD : va_D (aA as) [(m0, .inr (7, [.int (nI n), .ref g1, .ref g2, .ref g3, .int mr, .ref g4, .int (nI y), .ref g5, .int (nI q), .ref g6, .int (nI (lq + 1)), .ref g7, .ref g8, .ref g9, .ref g10, .ref g11, .ref g12])), (g1, .inl (cI, 9, .inl fg)), (g2, .inl (cI, 9, .inl fb)), (g3, .inl (cI, 9, .inl fp)), (g4, .inl (cZ, 20480, .inl fs)), (g5, .inl (cI, 9, .inl fn)), (g6, .inl (cI, 9, .inl fo)), (g7, .inl (cI, 9, .inl (upd ul lq (nI x9)))), (g12, .inl (cI, 9, .inl th)), (g8, .inl (cJ, 19683, .inr (.inl u20_ub))), (g9, .inl (cI, 19683, .inl u20_un)), (g10, .inl (cI, 19683, .inl u20_uw)), (g11, .inl (cI, 19683, .inl u20_ux))] := hD
                                refine lv_iload hx hb dX7_run_132 (lv_at hl 1 rfl) ?_
                                refine lv_aload_n hx hb dX7_run_134 rfl (lv_at hl 3 rfl) ?_
                                refine va_get (D := D) (ci := 7) (v := .ref g3) (C := RX7) (T := TX7) (N := 17) hx hb hts hiX7 hown hK hP 0 rfl rfl 3 (by decide) hf20 (fun _ h9 => h9) rfl dX7_run_135 ?_
                                refine lv_iload hx hb dX7_run_138 (lv_at hl 0 rfl) ?_
                                refine va_iald hx hb hK hP 3 0 rfl rfl (i := nI x9) (vp_in_nI (by omega) (by omega)) dX7_run_140 ?_
                                refine cn_i (y := fp x9) (congrArg fp (nI_clamp (by omega))) ?_
                                refine lv_iadd hx hb dX7_run_141 ?_
                                refine lv_istore (lv' := [(4, .int (v + (fp x9))), (5, .int (nI x9)), (3, .int (nI u0)), (0, .ref m0), (1, .int (nI 1)), (2, .int (nI j8))]) hx hb dX7_run_142 hl (by decide) rfl (fun ls hl => ?_)
                                refine lv_iload_n hx hb dX7_run_144 rfl (lv_at hl 2 rfl) ?_
                                refine lv_aload_n hx hb dX7_run_145 rfl (lv_at hl 3 rfl) ?_
                                refine va_get (D := D) (ci := 7) (v := .ref g12) (C := RX7) (T := TX7) (N := 17) hx hb hts hiX7 hown hK hP 0 rfl rfl 16 (by decide) hf52 (fun _ h9 => h9) rfl dX7_run_146 ?_
                                refine lv_iload hx hb dX7_run_149 (lv_at hl 1 rfl) ?_
                                refine va_iald hx hb hK hP 8 0 rfl rfl (i := nI x9) (vp_in_nI (by omega) (by omega)) dX7_run_151 ?_
                                refine cn_i (y := nI (3 ^ x9)) ((congrArg th (nI_clamp (by omega))).trans (hth x9 (by omega))) ?_
                                refine lv_iload_n hx hb dX7_run_152 rfl (lv_at hl 5 rfl) ?_
                                refine lv_iload hx hb dX7_run_153 (lv_at hl 1 rfl) ?_
                                refine lv_ishr hx hb dX7_run_155 ?_
                                refine cn_i (y := nI (j8 / 2 ^ x9)) (m_shr (by omega) (by omega)) ?_
                                refine lv_iconst (v := nI 1) hx hb dX7_run_156 (by decide) ?_
                                refine lv_iand hx hb dX7_run_157 ?_
                                refine cn_i (y := nI ((j8 / 2 ^ x9) % 2)) (m_andn1 (by first | omega | exact Nat.lt_of_le_of_lt (Nat.div_le_self _ _) (by omega))) ?_
                                refine lv_iconst (v := nI 1) hx hb dX7_run_158 (by decide) ?_
                                refine lv_icmp_ne (tgt := 166) hx hb dX7_run_159 (by decide) (fun c27 => ?_) (fun c27 => ?_)
                                · skip
                                  have d27 := c27
                                  rw [nI_eq (by omega) (by omega)] at d27
                                  refine lv_iconst (v := nI 2) hx hb dX7_run_166 (by decide) ?_
                                  refine lv_imul hx hb dX7_run_167 ?_
                                  refine cn_i (y := nI ((3 ^ x9) * 2)) (pk_mul (3 ^ x9) 2) ?_
                                  refine lv_iadd hx hb dX7_run_168 ?_
                                  refine cn_i (y := nI (u0 + ((3 ^ x9) * 2))) (nI_add u0 ((3 ^ x9) * 2)) ?_
                                  refine lv_istore_n (lv' := [(3, .int (nI (u0 + ((3 ^ x9) * 2)))), (4, .int (v + (fp x9))), (5, .int (nI x9)), (0, .ref m0), (1, .int (nI 1)), (2, .int (nI j8))]) hx hb dX7_run_169 rfl hl (by decide) rfl (fun ls hl => ?_)
                                  refine lv_goto (tgt := 68) hx hb dX7_run_170 (by decide) ?_
                                  exact ih21 (u0 + ((3 ^ x9) * 2)) (v + (fp x9)) (lq + 1) (upd ul lq (nI x9)) _ _ _ (by have h8 := m_up (n := n) hu.1 hx9 hd9; have h9 := m_p3p x9; omega) (by omega) (by have h9 := hR.step hus hnx; unfold stM at h9; first | (rw [if_pos (by omega)] at h9; exact h9) | (rw [if_neg (by omega)] at h9; exact h9)) hP hD hS (lv_sub hl [1, 0, 3, 4, 5] rfl)
                                · skip
                                  have d27 := c27
                                  rw [nI_eq (by omega) (by omega)] at d27
                                  refine lv_iconst (v := nI 1) hx hb dX7_run_162 (by decide) ?_
                                  refine lv_goto (tgt := 167) hx hb dX7_run_163 (by decide) ?_
                                  refine lv_imul hx hb dX7_run_167 ?_
                                  refine cn_i (y := nI ((3 ^ x9) * 1)) (pk_mul (3 ^ x9) 1) ?_
                                  refine lv_iadd hx hb dX7_run_168 ?_
                                  refine cn_i (y := nI (u0 + ((3 ^ x9) * 1))) (nI_add u0 ((3 ^ x9) * 1)) ?_
                                  refine lv_istore_n (lv' := [(3, .int (nI (u0 + ((3 ^ x9) * 1)))), (4, .int (v + (fp x9))), (5, .int (nI x9)), (0, .ref m0), (1, .int (nI 1)), (2, .int (nI j8))]) hx hb dX7_run_169 rfl hl (by decide) rfl (fun ls hl => ?_)
                                  refine lv_goto (tgt := 68) hx hb dX7_run_170 (by decide) ?_
                                  exact ih21 (u0 + ((3 ^ x9) * 1)) (v + (fp x9)) (lq + 1) (upd ul lq (nI x9)) _ _ _ (by have h8 := m_up (n := n) hu.1 hx9 hd9; have h9 := m_p3p x9; omega) (by omega) (by have h9 := hR.step hus hnx; unfold stM at h9; first | (rw [if_pos (by omega)] at h9; exact h9) | (rw [if_neg (by omega)] at h9; exact h9)) hP hD hS (lv_sub hl [1, 0, 3, 4, 5] rfl)
                            · exact absurd c25 (by first | decide | exact nz_lt (by omega) | exact fun h => h (nz_ge (by omega)))
                        · skip
                          have hns := w22
                          refine lv_iconst (v := (-1 : Int32)) hx hb dX7_run_73 (by decide) ?_
                          refine lv_icmp_ne (tgt := 173) hx hb dX7_run_74 (by decide) (fun c28 => ?_) (fun c28 => ?_)
                          · skip
                            refine lv_iload hx hb dX7_run_173 (lv_at hl 0 rfl) ?_
                            rw [← hQ]
                            exact W.iret (v := v) hx hb hr (fun tS htS hWS => ⟨⟨v, (nI lq, ul, u20_ub, u20_un, u20_uw, u20_ux), rfl, Or.inr ⟨lq, by have := seenN_le u0 n; omega, rfl, ⟨w02 (by omega), by omega, hsc⟩, by rw [m_tn (by omega)]; exact hR.fin (fun g => by first | exact g.1 hns | exact hns.2 g.2)⟩, m_at htS hP⟩, by rw [← has]; exact hS.F htS⟩) (by rw [← has]; exact hS.2.2) dX7_run_175
                          · exact absurd c28 (by first | decide | exact nz_lt (by omega) | exact fun h => h (nz_ge (by omega)))
                    exact loop21 (3 ^ n) (nowN fn n) (nI 0) 0 fl _ _ _ (by omega) (by omega) PAID.nil hP hD hS (lv_sub hl [0, 1, 2, 3, 4] rfl)
                · skip
                  refine lv_iload_n hx hb dX7_run_51 rfl (lv_at hl 2 rfl) ?_
                  refine lv_iconst (v := nI 2) hx hb dX7_run_52 (by decide) ?_
                  refine lv_icmp_ge (tgt := 60) hx hb dX7_run_53 (by decide) (fun c29 => ?_) (fun c29 => ?_)
                  · skip
                    refine lv_iconst (v := nI 0) hx hb dX7_run_60 (by decide) ?_
                    refine lv_istore (lv' := [(4, .int (nI 0)), (3, .int (nI (nowN fn n))), (0, .ref m0), (1, .int (nI 2)), (2, .int (nI j8))]) hx hb dX7_run_61 hl (by decide) rfl (fun ls hl => ?_)
                    refine lv_aload_n hx hb dX7_run_63 rfl (lv_at hl 2 rfl) ?_
                    refine lv_iconst (v := nI 0) hx hb dX7_run_64 (by decide) ?_
                    refine va_put (D := D) (ci := 7) (v := .int (nI 0)) (ty := tyX7 10) (C := RX7) (T := TX7) (N := 17) hx hb hts hiX7 tyX7 tyX7_ok nmX7 hown hK hP hD hS 0 rfl rfl 10 (by decide) hf67 (fun _ h9 => h9) rfl (by decide +kernel) rfl rfl (Nat.le_of_ble_eq_true rfl) dX7_run_65 (fun H locs hP hD hS => ?_)
                    have hP : va_P D vwCl [(m0, .inr (7, [.int (nI n), .ref g1, .ref g2, .ref g3, .int mr, .ref g4, .int (nI y), .ref g5, .int (nI q), .ref g6, .int (nI 0), .ref g7, .ref g8, .ref g9, .ref g10, .ref g11, .ref g12])), (g1, .inl (cI, 9, .inl fg)), (g2, .inl (cI, 9, .inl fb)), (g3, .inl (cI, 9, .inl fp)), (g4, .inl (cZ, 20480, .inl fs)), (g5, .inl (cI, 9, .inl fn)), (g6, .inl (cI, 9, .inl fo)), (g7, .inl (cI, 9, .inl fl)), (g12, .inl (cI, 9, .inl th)), (g8, .inl (cJ, 19683, .inr (.inl eb))), (g9, .inl (cI, 19683, .inl en)), (g10, .inl (cI, 19683, .inl ew)), (g11, .inl (cI, 19683, .inl ex))] H := hP
                    have hD : va_D (aA as) [(m0, .inr (7, [.int (nI n), .ref g1, .ref g2, .ref g3, .int mr, .ref g4, .int (nI y), .ref g5, .int (nI q), .ref g6, .int (nI 0), .ref g7, .ref g8, .ref g9, .ref g10, .ref g11, .ref g12])), (g1, .inl (cI, 9, .inl fg)), (g2, .inl (cI, 9, .inl fb)), (g3, .inl (cI, 9, .inl fp)), (g4, .inl (cZ, 20480, .inl fs)), (g5, .inl (cI, 9, .inl fn)), (g6, .inl (cI, 9, .inl fo)), (g7, .inl (cI, 9, .inl fl)), (g12, .inl (cI, 9, .inl th)), (g8, .inl (cJ, 19683, .inr (.inl eb))), (g9, .inl (cI, 19683, .inl en)), (g10, .inl (cI, 19683, .inl ew)), (g11, .inl (cI, 19683, .inl ex))] := hD
                    have loop30 : ∀ (fu : Nat) (u0 : Nat) (v : Int32) (lq : Nat) (ul : Nat → Int32) (H : Heap) (locs : List Loc) (ls : Array Slot), (u0 < 3 ^ n ∧ 3 ^ n ≤ u0 + fu) → (lq ≤ seenN u0 n) → (PAID (NXM (Sg fs y) n (fun c9 => mlf fg fb th (nI c9) n) fp fo q (nI 2)) (US (Sg fs y) n 1 2) fp (stM j8) lq (nowN fn n) u0 v) → va_P D vwCl [(m0, .inr (7, [.int (nI n), .ref g1, .ref g2, .ref g3, .int mr, .ref g4, .int (nI y), .ref g5, .int (nI q), .ref g6, .int (nI lq), .ref g7, .ref g8, .ref g9, .ref g10, .ref g11, .ref g12])), (g1, .inl (cI, 9, .inl fg)), (g2, .inl (cI, 9, .inl fb)), (g3, .inl (cI, 9, .inl fp)), (g4, .inl (cZ, 20480, .inl fs)), (g5, .inl (cI, 9, .inl fn)), (g6, .inl (cI, 9, .inl fo)), (g7, .inl (cI, 9, .inl ul)), (g12, .inl (cI, 9, .inl th)), (g8, .inl (cJ, 19683, .inr (.inl eb))), (g9, .inl (cI, 19683, .inl en)), (g10, .inl (cI, 19683, .inl ew)), (g11, .inl (cI, 19683, .inl ex))] H → va_D (aA as) [(m0, .inr (7, [.int (nI n), .ref g1, .ref g2, .ref g3, .int mr, .ref g4, .int (nI y), .ref g5, .int (nI q), .ref g6, .int (nI lq), .ref g7, .ref g8, .ref g9, .ref g10, .ref g11, .ref g12])), (g1, .inl (cI, 9, .inl fg)), (g2, .inl (cI, 9, .inl fb)), (g3, .inl (cI, 9, .inl fp)), (g4, .inl (cZ, 20480, .inl fs)), (g5, .inl (cI, 9, .inl fn)), (g6, .inl (cI, 9, .inl fo)), (g7, .inl (cI, 9, .inl ul)), (g12, .inl (cI, 9, .inl th)), (g8, .inl (cJ, 19683, .inr (.inl eb))), (g9, .inl (cI, 19683, .inl en)), (g10, .inl (cI, 19683, .inl ew)), (g11, .inl (cI, 19683, .inl ex))] → va_S (aA as) s.heap H locs → lv_has ls 6 [(4, .int v), (3, .int (nI u0)), (0, .ref m0), (1, .int (nI 2)), (2, .int (nI j8))] → W p l e (headSpec wsX7_run rm_c_X7_run_v).room s m ([.ref m0, .int (nI 2), .int (nI j8)] : List Value).toArray below meth c H locs 0 0 Q (F0 m 68 ls []) := by
                      intro fu
                      induction fu with
                      | zero => intro u0 v lq ul H locs ls hu hlq hR; exact absurd hu (by omega)
                      | succ fu ih30 =>
                        intro u0 v lq ul H locs ls hu hlq hR hP hD hS hl
                        refine lv_aload_n hx hb dX7_run_68 rfl (lv_at hl 2 rfl) ?_
                        refine lv_iload_n hx hb dX7_run_69 rfl (lv_at hl 1 rfl) ?_
                        refine pu_i (va_runV (As := [.int (nI u0)]) (rest := []) ⟨hx, hb, hml, hown, hts⟩ (c_X7_sureAt l D cI cJ cZ m0 g1 g2 g3 g4 g5 g6 g7 g8 g9 g10 g11 g12 n u0 y mr (nI q) (nI lq) fs th (by first | assumption | omega) (by first | assumption | omega) (by first | assumption | omega) (by first | assumption | omega) (by first | assumption | omega)) (cwV 1 hts gX7_run_X7_sureAt rfl rfl rfl (by decide +kernel) ⟨Nat.le_of_ble_eq_true rfl, Nat.le_of_ble_eq_true rfl⟩) ⟨pc_blind, va_recv hK hP (ci := 7) (q0 := 0) rfl rfl, fun U hU hW => ⟨rfl, by rw [hU]; exact hP.sub (ws' := [(m0, .inr (7, [.int (nI n), .ref g1, .ref g2, .ref g3, .int mr, .ref g4, .int (nI y), .ref g5, .int (nI q), .ref g6, .int (nI lq), .ref g7, .ref g8, .ref g9, .ref g10, .ref g11, .ref g12])), (g4, .inl (cZ, 20480, .inl fs)), (g12, .inl (cI, 9, .inl th))]) [0, 4, 8] rfl, hKN.warm hW⟩⟩ rfl rfl hl.1 rfl (lv_room (Nat.le_of_ble_eq_true rfl)) dX7_run_70 ⟨Nat.le_of_ble_eq_true rfl, Nat.le_of_ble_eq_true rfl⟩) hS hP (fun r31 H locs w31r hP hS => ?_)
                        have w31 : (r31 = nI 1 ∧ Sg fs y (setN u0 1 n)) ∨ (r31 = -1 ∧ ¬ Sg fs y (setN u0 1 n) ∧ Sg fs y (2 ^ n - 1 - setN u0 2 n)) ∨ (r31 = nI 0 ∧ ¬ Sg fs y (setN u0 1 n) ∧ ¬ Sg fs y (2 ^ n - 1 - setN u0 2 n)) := w31r
                        clear w31r
                        rcases w31 with ⟨rfl, w31⟩ | ⟨rfl, w31⟩ | ⟨rfl, w31⟩
                        · skip
                          have hns := w31
                          refine lv_iconst (v := (-1 : Int32)) hx hb dX7_run_73 (by decide) ?_
                          refine lv_icmp_ne (tgt := 173) hx hb dX7_run_74 (by decide) (fun c32 => ?_) (fun c32 => ?_)
                          · skip
                            refine lv_iload hx hb dX7_run_173 (lv_at hl 0 rfl) ?_
                            rw [← hQ]
                            exact W.iret (v := v) hx hb hr (fun tS htS hWS => ⟨⟨v, (nI lq, ul, eb, en, ew, ex), rfl, Or.inr ⟨lq, by have := seenN_le u0 n; omega, rfl, ⟨w02 (by omega), by omega, hsc⟩, by rw [m_tn (by omega)]; exact hR.fin (fun g => by first | exact g.1 hns | exact hns.2 g.2)⟩, m_at htS hP⟩, by rw [← has]; exact hS.F htS⟩) (by rw [← has]; exact hS.2.2) dX7_run_175
                          · exact absurd c32 (by first | decide | exact nz_lt (by omega) | exact fun h => h (nz_ge (by omega)))
                        · skip
                          have hus := w31
                          refine lv_iconst (v := (-1 : Int32)) hx hb dX7_run_73 (by decide) ?_
                          refine lv_icmp_ne (tgt := 173) hx hb dX7_run_74 (by decide) (fun c33 => ?_) (fun c33 => ?_)
                          · exact absurd c33 (by first | decide | exact nz_lt (by omega) | exact fun h => h (nz_ge (by omega)))
                          · skip
                            refine lv_iload_n hx hb dX7_run_77 rfl (lv_at hl 3 rfl) ?_
                            refine lv_if_ne (tgt := 90) hx hb dX7_run_78 (by decide) (fun c34 => ?_) (fun c34 => ?_)
                            · skip
                              refine lv_iload_n hx hb dX7_run_90 rfl (lv_at hl 3 rfl) ?_
                              refine lv_iconst (v := nI 1) hx hb dX7_run_91 (by decide) ?_
                              refine lv_icmp_ne (tgt := 104) hx hb dX7_run_92 (by decide) (fun c35 => ?_) (fun c35 => ?_)
                              · skip
                                refine lv_aload_n hx hb dX7_run_104 rfl (lv_at hl 2 rfl) ?_
                                refine lv_iload_n hx hb dX7_run_105 rfl (lv_at hl 1 rfl) ?_
                                refine pu_i (va_runV (As := [.int (nI u0)]) (rest := []) ⟨hx, hb, hml, hown, hts⟩ (c_X7_orderNext_v l D cI cJ cZ m0 g1 g2 g3 g4 g5 g6 g7 g8 g9 g10 g11 g12 n q u0 mr (nI y) (nI lq) fo th (by first | assumption | omega) (by first | assumption | omega) (by first | assumption | omega) (by first | assumption | omega) (by first | assumption | omega)) (cwV 1 hts gX7_run_X7_orderNext rfl rfl rfl (by decide +kernel) ⟨Nat.le_of_ble_eq_true rfl, Nat.le_of_ble_eq_true rfl⟩) ⟨pc_blind, va_recv hK hP (ci := 7) (q0 := 0) rfl rfl, fun U hU hW => ⟨rfl, by rw [hU]; exact hP.sub (ws' := [(m0, .inr (7, [.int (nI n), .ref g1, .ref g2, .ref g3, .int mr, .ref g4, .int (nI y), .ref g5, .int (nI q), .ref g6, .int (nI lq), .ref g7, .ref g8, .ref g9, .ref g10, .ref g11, .ref g12])), (g6, .inl (cI, 9, .inl fo)), (g12, .inl (cI, 9, .inl th))]) [0, 6, 8] rfl, hKN.warm hW⟩⟩ rfl rfl hl.1 rfl (lv_room (Nat.le_of_ble_eq_true rfl)) dX7_run_106 ⟨Nat.le_of_ble_eq_true rfl, Nat.le_of_ble_eq_true rfl⟩) hS hP (fun r36 H locs w36r hP hS => ?_)
                                have w36 : (r36 = -1 ∧ ∀ z, z < n → ¬ u0 / 3 ^ z % 3 = 0) ∨ (∃ x, x < n ∧ r36 = nI x ∧ u0 / 3 ^ x % 3 = 0 ∧ ONR fo q n (fun z => u0 / 3 ^ z % 3 = 0) (nI x)) := w36r
                                clear w36r
                                rcases w36 with ⟨rfl, w36⟩ | ⟨x9, hx9, rfl, hd9, hxo⟩
                                · exact absurd w36 (uns_no w31)
                                · skip
                                  have hnx : NXM (Sg fs y) n (fun c9 => mlf fg fb th (nI c9) n) fp fo q (nI 2) u0 x9 := ⟨hx9, hd9, fun _ => hxo, fun e => absurd rfl e⟩
                                  refine lv_istore (lv' := [(5, .int (nI x9)), (4, .int v), (3, .int (nI u0)), (0, .ref m0), (1, .int (nI 2)), (2, .int (nI j8))]) hx hb dX7_run_109 hl (by decide) rfl (fun ls hl => ?_)
                                  refine lv_aload_n hx hb dX7_run_111 rfl (lv_at hl 3 rfl) ?_
                                  refine va_get (D := D) (ci := 7) (v := .ref g7) (C := RX7) (T := TX7) (N := 17) hx hb hts hiX7 hown hK hP 0 rfl rfl 11 (by decide) hf36 (fun _ h9 => h9) rfl dX7_run_112 ?_
                                  have hsl9 := seenN_le u0 n
                                  have hsu1 := seenN_up (d := 1) (cv := u0) (x := x9) hd9 (by omega) (by omega) n
                                  have hsu2 := seenN_up (d := 2) (cv := u0) (x := x9) hd9 (by omega) (by omega) n
                                  rw [if_pos hx9] at hsu1 hsu2
                                  have hsl1 := seenN_le (u0 + 3 ^ x9 * 1) n
                                  refine lv_aload_n hx hb dX7_run_115 rfl (lv_at hl 3 rfl) ?_
                                  refine va_get (D := D) (ci := 7) (v := .int (nI lq)) (C := RX7) (T := TX7) (N := 17) hx hb hts hiX7 hown hK hP 0 rfl rfl 10 (by decide) hf67 (fun _ h9 => h9) rfl dX7_run_116 ?_
                                  refine lv_iload hx hb dX7_run_119 (lv_at hl 0 rfl) ?_
                                  refine va_iast hx hb hK hP hD hS 7 0 rfl rfl (i := nI lq) (vp_in_nI (by omega) (by omega)) dX7_run_121 (fun H locs hP hD hS => ?_)
                                  have hP : va_P D vwCl [(m0, .inr (7, [.int (nI n), .ref g1, .ref g2, .ref g3, .int mr, .ref g4, .int (nI y), .ref g5, .int (nI q), .ref g6, .int (nI lq), .ref g7, .ref g8, .ref g9, .ref g10, .ref g11, .ref g12])), (g1, .inl (cI, 9, .inl fg)), (g2, .inl (cI, 9, .inl fb)), (g3, .inl (cI, 9, .inl fp)), (g4, .inl (cZ, 20480, .inl fs)), (g5, .inl (cI, 9, .inl fn)), (g6, .inl (cI, 9, .inl fo)), (g7, .inl (cI, 9, .inl (upd ul (nI lq).toNatClampNeg (nI x9)))), (g12, .inl (cI, 9, .inl th)), (g8, .inl (cJ, 19683, .inr (.inl eb))), (g9, .inl (cI, 19683, .inl en)), (g10, .inl (cI, 19683, .inl ew)), (g11, .inl (cI, 19683, .inl ex))] H := hP
                                  have hD : va_D (aA as) [(m0, .inr (7, [.int (nI n), .ref g1, .ref g2, .ref g3, .int mr, .ref g4, .int (nI y), .ref g5, .int (nI q), .ref g6, .int (nI lq), .ref g7, .ref g8, .ref g9, .ref g10, .ref g11, .ref g12])), (g1, .inl (cI, 9, .inl fg)), (g2, .inl (cI, 9, .inl fb)), (g3, .inl (cI, 9, .inl fp)), (g4, .inl (cZ, 20480, .inl fs)), (g5, .inl (cI, 9, .inl fn)), (g6, .inl (cI, 9, .inl fo)), (g7, .inl (cI, 9, .inl (upd ul (nI lq).toNatClampNeg (nI x9)))), (g12, .inl (cI, 9, .inl th)), (g8, .inl (cJ, 19683, .inr (.inl eb))), (g9, .inl (cI, 19683, .inl en)), (g10, .inl (cI, 19683, .inl ew)), (g11, .inl (cI, 19683, .inl ex))] := hD
                                  rw [nI_clamp (n := lq) (by omega)] at hP hD
                                  refine lv_aload_n hx hb dX7_run_122 rfl (lv_at hl 3 rfl) ?_
                                  refine lv_dup hx hb dX7_run_123 rfl ?_
                                  refine va_get (D := D) (ci := 7) (v := .int (nI lq)) (C := RX7) (T := TX7) (N := 17) hx hb hts hiX7 hown hK hP 0 rfl rfl 10 (by decide) hf67 (fun _ h9 => h9) rfl dX7_run_124 ?_
                                  refine lv_iconst (v := nI 1) hx hb dX7_run_127 (by decide) ?_
                                  refine lv_iadd hx hb dX7_run_128 ?_
                                  refine cn_i (y := nI (lq + 1)) (nI_add lq 1) ?_
                                  refine va_put (D := D) (ci := 7) (v := .int (nI (lq + 1))) (ty := tyX7 10) (C := RX7) (T := TX7) (N := 17) hx hb hts hiX7 tyX7 tyX7_ok nmX7 hown hK hP hD hS 0 rfl rfl 10 (by decide) hf67 (fun _ h9 => h9) rfl (by decide +kernel) rfl rfl (Nat.le_of_ble_eq_true rfl) dX7_run_129 (fun H locs hP hD hS => ?_)
                                  have hP : va_P D vwCl [(m0, .inr (7, [.int (nI n), .ref g1, .ref g2, .ref g3, .int mr, .ref g4, .int (nI y), .ref g5, .int (nI q), .ref g6, .int (nI (lq + 1)), .ref g7, .ref g8, .ref g9, .ref g10, .ref g11, .ref g12])), (g1, .inl (cI, 9, .inl fg)), (g2, .inl (cI, 9, .inl fb)), (g3, .inl (cI, 9, .inl fp)), (g4, .inl (cZ, 20480, .inl fs)), (g5, .inl (cI, 9, .inl fn)), (g6, .inl (cI, 9, .inl fo)), (g7, .inl (cI, 9, .inl (upd ul lq (nI x9)))), (g12, .inl (cI, 9, .inl th)), (g8, .inl (cJ, 19683, .inr (.inl eb))), (g9, .inl (cI, 19683, .inl en)), (g10, .inl (cI, 19683, .inl ew)), (g11, .inl (cI, 19683, .inl ex))] H := hP
                                  have hD : va_D (aA as) [(m0, .inr (7, [.int (nI n), .ref g1, .ref g2, .ref g3, .int mr, .ref g4, .int (nI y), .ref g5, .int (nI q), .ref g6, .int (nI (lq + 1)), .ref g7, .ref g8, .ref g9, .ref g10, .ref g11, .ref g12])), (g1, .inl (cI, 9, .inl fg)), (g2, .inl (cI, 9, .inl fb)), (g3, .inl (cI, 9, .inl fp)), (g4, .inl (cZ, 20480, .inl fs)), (g5, .inl (cI, 9, .inl fn)), (g6, .inl (cI, 9, .inl fo)), (g7, .inl (cI, 9, .inl (upd ul lq (nI x9)))), (g12, .inl (cI, 9, .inl th)), (g8, .inl (cJ, 19683, .inr (.inl eb))), (g9, .inl (cI, 19683, .inl en)), (g10, .inl (cI, 19683, .inl ew)), (g11, .inl (cI, 19683, .inl ex))] := hD
                                  refine lv_iload hx hb dX7_run_132 (lv_at hl 1 rfl) ?_
                                  refine lv_aload_n hx hb dX7_run_134 rfl (lv_at hl 3 rfl) ?_
                                  refine va_get (D := D) (ci := 7) (v := .ref g3) (C := RX7) (T := TX7) (N := 17) hx hb hts hiX7 hown hK hP 0 rfl rfl 3 (by decide) hf20 (fun _ h9 => h9) rfl dX7_run_135 ?_
                                  refine lv_iload hx hb dX7_run_138 (lv_at hl 0 rfl) ?_
                                  refine va_iald hx hb hK hP 3 0 rfl rfl (i := nI x9) (vp_in_nI (by omega) (by omega)) dX7_run_140 ?_
                                  refine cn_i (y := fp x9) (congrArg fp (nI_clamp (by omega))) ?_
                                  refine lv_iadd hx hb dX7_run_141 ?_
                                  refine lv_istore (lv' := [(4, .int (v + (fp x9))), (5, .int (nI x9)), (3, .int (nI u0)), (0, .ref m0), (1, .int (nI 2)), (2, .int (nI j8))]) hx hb dX7_run_142 hl (by decide) rfl (fun ls hl => ?_)
                                  refine lv_iload_n hx hb dX7_run_144 rfl (lv_at hl 2 rfl) ?_
                                  refine lv_aload_n hx hb dX7_run_145 rfl (lv_at hl 3 rfl) ?_
                                  refine va_get (D := D) (ci := 7) (v := .ref g12) (C := RX7) (T := TX7) (N := 17) hx hb hts hiX7 hown hK hP 0 rfl rfl 16 (by decide) hf52 (fun _ h9 => h9) rfl dX7_run_146 ?_
                                  refine lv_iload hx hb dX7_run_149 (lv_at hl 1 rfl) ?_
                                  refine va_iald hx hb hK hP 8 0 rfl rfl (i := nI x9) (vp_in_nI (by omega) (by omega)) dX7_run_151 ?_
                                  refine cn_i (y := nI (3 ^ x9)) ((congrArg th (nI_clamp (by omega))).trans (hth x9 (by omega))) ?_
                                  refine lv_iload_n hx hb dX7_run_152 rfl (lv_at hl 5 rfl) ?_
                                  refine lv_iload hx hb dX7_run_153 (lv_at hl 1 rfl) ?_
                                  refine lv_ishr hx hb dX7_run_155 ?_
                                  refine cn_i (y := nI (j8 / 2 ^ x9)) (m_shr (by omega) (by omega)) ?_
                                  refine lv_iconst (v := nI 1) hx hb dX7_run_156 (by decide) ?_
                                  refine lv_iand hx hb dX7_run_157 ?_
                                  refine cn_i (y := nI ((j8 / 2 ^ x9) % 2)) (m_andn1 (by first | omega | exact Nat.lt_of_le_of_lt (Nat.div_le_self _ _) (by omega))) ?_
                                  refine lv_iconst (v := nI 1) hx hb dX7_run_158 (by decide) ?_
                                  refine lv_icmp_ne (tgt := 166) hx hb dX7_run_159 (by decide) (fun c37 => ?_) (fun c37 => ?_)
                                  · skip
                                    have d37 := c37
                                    rw [nI_eq (by omega) (by omega)] at d37
                                    refine lv_iconst (v := nI 2) hx hb dX7_run_166 (by decide) ?_
                                    refine lv_imul hx hb dX7_run_167 ?_
                                    refine cn_i (y := nI ((3 ^ x9) * 2)) (pk_mul (3 ^ x9) 2) ?_
                                    refine lv_iadd hx hb dX7_run_168 ?_
                                    refine cn_i (y := nI (u0 + ((3 ^ x9) * 2))) (nI_add u0 ((3 ^ x9) * 2)) ?_
                                    refine lv_istore_n (lv' := [(3, .int (nI (u0 + ((3 ^ x9) * 2)))), (4, .int (v + (fp x9))), (5, .int (nI x9)), (0, .ref m0), (1, .int (nI 2)), (2, .int (nI j8))]) hx hb dX7_run_169 rfl hl (by decide) rfl (fun ls hl => ?_)
                                    refine lv_goto (tgt := 68) hx hb dX7_run_170 (by decide) ?_
                                    exact ih30 (u0 + ((3 ^ x9) * 2)) (v + (fp x9)) (lq + 1) (upd ul lq (nI x9)) _ _ _ (by have h8 := m_up (n := n) hu.1 hx9 hd9; have h9 := m_p3p x9; omega) (by omega) (by have h9 := hR.step hus hnx; unfold stM at h9; first | (rw [if_pos (by omega)] at h9; exact h9) | (rw [if_neg (by omega)] at h9; exact h9)) hP hD hS (lv_sub hl [1, 0, 3, 4, 5] rfl)
                                  · skip
                                    have d37 := c37
                                    rw [nI_eq (by omega) (by omega)] at d37
                                    refine lv_iconst (v := nI 1) hx hb dX7_run_162 (by decide) ?_
                                    refine lv_goto (tgt := 167) hx hb dX7_run_163 (by decide) ?_
                                    refine lv_imul hx hb dX7_run_167 ?_
                                    refine cn_i (y := nI ((3 ^ x9) * 1)) (pk_mul (3 ^ x9) 1) ?_
                                    refine lv_iadd hx hb dX7_run_168 ?_
                                    refine cn_i (y := nI (u0 + ((3 ^ x9) * 1))) (nI_add u0 ((3 ^ x9) * 1)) ?_
                                    refine lv_istore_n (lv' := [(3, .int (nI (u0 + ((3 ^ x9) * 1)))), (4, .int (v + (fp x9))), (5, .int (nI x9)), (0, .ref m0), (1, .int (nI 2)), (2, .int (nI j8))]) hx hb dX7_run_169 rfl hl (by decide) rfl (fun ls hl => ?_)
                                    refine lv_goto (tgt := 68) hx hb dX7_run_170 (by decide) ?_
                                    exact ih30 (u0 + ((3 ^ x9) * 1)) (v + (fp x9)) (lq + 1) (upd ul lq (nI x9)) _ _ _ (by have h8 := m_up (n := n) hu.1 hx9 hd9; have h9 := m_p3p x9; omega) (by omega) (by have h9 := hR.step hus hnx; unfold stM at h9; first | (rw [if_pos (by omega)] at h9; exact h9) | (rw [if_neg (by omega)] at h9; exact h9)) hP hD hS (lv_sub hl [1, 0, 3, 4, 5] rfl)
                              · exact absurd c35 (by first | decide | exact nz_lt (by omega) | exact fun h => h (nz_ge (by omega)))
                            · exact absurd c34 (by first | decide | exact nz_lt (by omega) | exact fun h => h (nz_ge (by omega)))
                        · skip
                          have hns := w31
                          refine lv_iconst (v := (-1 : Int32)) hx hb dX7_run_73 (by decide) ?_
                          refine lv_icmp_ne (tgt := 173) hx hb dX7_run_74 (by decide) (fun c38 => ?_) (fun c38 => ?_)
                          · skip
                            refine lv_iload hx hb dX7_run_173 (lv_at hl 0 rfl) ?_
                            rw [← hQ]
                            exact W.iret (v := v) hx hb hr (fun tS htS hWS => ⟨⟨v, (nI lq, ul, eb, en, ew, ex), rfl, Or.inr ⟨lq, by have := seenN_le u0 n; omega, rfl, ⟨w02 (by omega), by omega, hsc⟩, by rw [m_tn (by omega)]; exact hR.fin (fun g => by first | exact g.1 hns | exact hns.2 g.2)⟩, m_at htS hP⟩, by rw [← has]; exact hS.F htS⟩) (by rw [← has]; exact hS.2.2) dX7_run_175
                          · exact absurd c38 (by first | decide | exact nz_lt (by omega) | exact fun h => h (nz_ge (by omega)))
                    exact loop30 (3 ^ n) (nowN fn n) (nI 0) 0 fl _ _ _ (by omega) (by omega) PAID.nil hP hD hS (lv_sub hl [0, 1, 2, 3, 4] rfl)
                  · exact absurd c29 (by first | decide | exact nz_lt (by omega) | exact fun h => h (nz_ge (by omega)))
              · exact absurd c9 (by first | decide | exact nz_lt (by omega) | exact fun h => h (nz_ge (by omega)))
            · skip
              have hsc := w8
              refine lv_if_ne (tgt := 51) hx hb dX7_run_46 (by decide) (fun c39 => ?_) (fun c39 => ?_)
              · exact absurd c39 (by first | decide | exact nz_lt (by omega) | exact fun h => h (nz_ge (by omega)))
              · skip
                refine lv_iconst (v := (-1 : Int32)) hx hb dX7_run_49 (by decide) ?_
                rw [← hQ]
                exact W.iret (v := (-1 : Int32)) hx hb hr (fun tS htS hWS => ⟨⟨(-1 : Int32), (ml, fl, eb, en, ew, ex), rfl, Or.inl ⟨rfl, rfl, rfl, by first | exact fun h => absurd h.1 (by omega) | exact fun h => absurd h.2.1 (by omega) | exact fun h => hsc h.2.2⟩, m_at htS hP⟩, by rw [← has]; exact hS.F htS⟩) (by rw [← has]; exact hS.2.2) dX7_run_50
      · skip
        have hst := w5
        refine lv_if_eq (tgt := 49) hx hb dX7_run_30 (by decide) (fun c40 => ?_) (fun c40 => ?_)
        · skip
          refine lv_iconst (v := (-1 : Int32)) hx hb dX7_run_49 (by decide) ?_
          rw [← hQ]
          exact W.iret (v := (-1 : Int32)) hx hb hr (fun tS htS hWS => ⟨⟨(-1 : Int32), (ml, fl, eb, en, ew, ex), rfl, Or.inl ⟨rfl, rfl, rfl, by first | exact fun h => absurd h.1 (by omega) | exact fun h => absurd h.2.1 (by omega) | exact fun h => hsc h.2.2⟩, m_at htS hP⟩, by rw [← has]; exact hS.F htS⟩) (by rw [← has]; exact hS.2.2) dX7_run_50
        · exact absurd c40 (by first | decide | exact nz_lt (by omega) | exact fun h => h (nz_ge (by omega)))
  · skip
    have hwh := w2
    refine lv_if_eq (tgt := 49) hx hb dX7_run_14 (by decide) (fun c41 => ?_) (fun c41 => ?_)
    · skip
      refine lv_iconst (v := (-1 : Int32)) hx hb dX7_run_49 (by decide) ?_
      rw [← hQ]
      exact W.iret (v := (-1 : Int32)) hx hb hr (fun tS htS hWS => ⟨⟨(-1 : Int32), (ml, fl, eb, en, ew, ex), rfl, Or.inl ⟨rfl, rfl, rfl, by first | exact fun h => absurd h.1 (by omega) | exact fun h => absurd h.2.1 (by omega) | exact fun h => hsc h.2.2⟩, m_at htS hP⟩, by rw [← has]; exact hS.F htS⟩) (by rw [← has]; exact hS.2.2) dX7_run_50
    · exact absurd c41 (by first | decide | exact nz_lt (by omega) | exact fun h => h (nz_ge (by omega)))
