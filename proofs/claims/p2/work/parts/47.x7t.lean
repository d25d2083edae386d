def rm_c_X7_told_g : Room := { frames := 5, cells := 0, slots := 0, locals := 119 }
set_option maxHeartbeats 400000 in
set_option maxRecDepth 100000 in
theorem c_X7_told_g (l : Launch) (D : va_G) (cI cJ cZ : ClassId) (m0 : Nat) (g1 : Nat) (g2 : Nat) (g3 : Nat) (g4 : Nat) (g5 : Nat) (g6 : Nat) (g7 : Nat) (g8 : Nat) (g9 : Nat) (g10 : Nat) (g11 : Nat) (g12 : Nat) (n : Nat) (y : Nat) (q : Nat) (mr : Int32) (ml : Int32) (wh : Int32) (fg : Nat → Int32) (fb : Nat → Int32) (fp : Nat → Int32) (fs : Nat → Int32) (fn : Nat → Int32) (fo : Nat → Int32) (th : Nat → Int32) (eb : Nat → Int64) (en : Nat → Int32) (ew : Nat → Int32) (ex : Nat → Int32) (hn : n ≤ 9) (h1n : 1 ≤ n) (hy : y < 40) (hq : q ≤ 9) (hfo : ∀ z, z < q → ∃ x, x < n ∧ fo z = nI x) (hth : ∀ z, z < 9 → th z = nI (3 ^ z)) (h01 : T01 fs) : Met l yX7_told wsX7_told rm_c_X7_told_g (pm_ D cI cJ cZ [.ref m0, .int wh] [(m0, .inr (7, [.int (nI n), .ref g1, .ref g2, .ref g3, .int mr, .ref g4, .int (nI y), .ref g5, .int (nI q), .ref g6, .int ml, .ref g7, .ref g8, .ref g9, .ref g10, .ref g11, .ref g12])), (g1, .inl (cI, 9, .inl fg)), (g2, .inl (cI, 9, .inl fb)), (g3, .inl (cI, 9, .inl fp)), (g4, .inl (cZ, 20480, .inl fs)), (g5, .inl (cI, 9, .inl fn)), (g6, .inl (cI, 9, .inl fo)), (g12, .inl (cI, 9, .inl th)), (g8, .inl (cJ, 19683, .inr (.inl eb))), (g9, .inl (cI, 19683, .inl en)), (g10, .inl (cI, 19683, .inl ew)), (g11, .inl (cI, 19683, .inl ex))]) (va_Ql (fun (r : Int64) (u : (Nat → Int64) × (Nat → Int32) × (Nat → Int32) × (Nat → Int32)) => True) (fun (u : (Nat → Int64) × (Nat → Int32) × (Nat → Int32) × (Nat → Int32)) tS => va_P D vwCl [(m0, .inr (7, [.int (nI n), .ref g1, .ref g2, .ref g3, .int mr, .ref g4, .int (nI y), .ref g5, .int (nI q), .ref g6, .int ml, .ref g7, .ref g8, .ref g9, .ref g10, .ref g11, .ref g12])), (g1, .inl (cI, 9, .inl fg)), (g2, .inl (cI, 9, .inl fb)), (g3, .inl (cI, 9, .inl fp)), (g4, .inl (cZ, 20480, .inl fs)), (g5, .inl (cI, 9, .inl fn)), (g6, .inl (cI, 9, .inl fo)), (g12, .inl (cI, 9, .inl th)), (g8, .inl (cJ, 19683, .inr (.inl u.1))), (g9, .inl (cI, 19683, .inl u.2.1)), (g10, .inl (cI, 19683, .inl u.2.2.1)), (g11, .inl (cI, 19683, .inl u.2.2.2))] tS.heap) (aA [m0, g1, g2, g3, g4, g5, g6, g12, g8, g9, g10, g11])) 0 0 (aA [m0, g1, g2, g3, g4, g5, g6, g12, g8, g9, g10, g11]) := by
  refine Met.ofW (cc := cX7_told) (maxL := 7) (ret := (some .long)) (by decide) rfl ?_
  intro p e s m args below meth c s₁ B hml hv
  obtain ⟨rfl, hP, hKN, hD0⟩ := hv
  have hK := hKN.1
  have hx := B.exec
  have hb := B.bytes
  have hr := B.returns
  have hts := atoms_spec (ws := wsX7_told) B.pre
  have hown : s.vm.findClass RX7 = some m.cls := findClass_of_methodNamed B.named
  have hlocks := B.notSynchronized
  have hiX7 : ∀ w ∈ wsX70, w ∈ wsX7_told := by decide +kernel
  have hf27 := hts (.fieldLink RX7 27 "LookBenchModel" "system" "I") (by decide +kernel)
  have hf39 := hts (.fieldLink RX7 39 "LookBenchModel" "best" "[J") (by decide +kernel)
  have hf43 := hts (.fieldLink RX7 43 "LookBenchModel" "bestNext" "[I") (by decide +kernel)
  have hf46 := hts (.fieldLink RX7 46 "LookBenchModel" "worst" "[I") (by decide +kernel)
  have hf49 := hts (.fieldLink RX7 49 "LookBenchModel" "worstNext" "[I") (by decide +kernel)
  obtain ⟨as, has⟩ : ∃ z : List Nat, z = [m0, g1, g2, g3, g4, g5, g6, g12, g8, g9, g10, g11] := ⟨_, rfl⟩
  have hD := hD0.addr (as := as) (by rw [has]; rfl)
  have hS : va_S (aA as) s.heap s.heap [] := va_S.rf
  have hl := lv_entry ([.ref m0, .int wh]) (n := 7) (Nat.le_of_ble_eq_true rfl)
  rw [lg_entry_eq]
  generalize (lg_sl ([.ref m0, .int wh]) ++ List.replicate (7 - (lg_sl ([.ref m0, .int wh])).length) Slot.unset).toArray = ls at hl ⊢
  have hl : lv_has ls 7 [(0, .ref m0), (1, .int wh)] := hl
  generalize hQ : MQ below _ _ s _ _ _ = Q
  obtain ⟨H, hH⟩ : ∃ z, z = s.heap := ⟨_, rfl⟩
  have hP : va_P D vwCl [(m0, .inr (7, [.int (nI n), .ref g1, .ref g2, .ref g3, .int mr, .ref g4, .int (nI y), .ref g5, .int (nI q), .ref g6, .int ml, .ref g7, .ref g8, .ref g9, .ref g10, .ref g11, .ref g12])), (g1, .inl (cI, 9, .inl fg)), (g2, .inl (cI, 9, .inl fb)), (g3, .inl (cI, 9, .inl fp)), (g4, .inl (cZ, 20480, .inl fs)), (g5, .inl (cI, 9, .inl fn)), (g6, .inl (cI, 9, .inl fo)), (g12, .inl (cI, 9, .inl th)), (g8, .inl (cJ, 19683, .inr (.inl eb))), (g9, .inl (cI, 19683, .inl en)), (g10, .inl (cI, 19683, .inl ew)), (g11, .inl (cI, 19683, .inl ex))] H := by rw [hH]; exact hP
  have hS : va_S (aA as) s.heap H [] := by rw [hH]; exact hS
  refine m_heap hH ?_
  clear hH
  have h2n := m_pow hn
  have h2p := m_powp n
  have h3n := m_p3 hn
  have hnl := nowN_lt fn n
  refine lv_aload_n hx hb dX7_told_0 rfl (lv_at hl 0 rfl) ?_
  refine pu_i (va_runV (As := []) (rest := []) ⟨hx, hb, hml, hown, hts⟩ (c_X7_now_g l D cI cJ cZ m0 g1 g2 g3 g4 g5 g6 g7 g8 g9 g10 g11 g12 n mr (nI y) (nI q) ml fn th (by first | assumption | omega) (by first | assumption | omega)) (cwV 0 hts gX7_told_X7_now rfl rfl rfl (by decide +kernel) ⟨Nat.le_of_ble_eq_true rfl, Nat.le_of_ble_eq_true rfl⟩) ⟨pc_blind, va_recv hK hP (ci := 7) (q0 := 0) rfl rfl, fun U hU hW => ⟨rfl, by rw [hU]; exact hP.sub (ws' := [(m0, .inr (7, [.int (nI n), .ref g1, .ref g2, .ref g3, .int mr, .ref g4, .int (nI y), .ref g5, .int (nI q), .ref g6, .int ml, .ref g7, .ref g8, .ref g9, .ref g10, .ref g11, .ref g12])), (g5, .inl (cI, 9, .inl fn)), (g12, .inl (cI, 9, .inl th))]) [0, 5, 7] rfl, hKN.warm hW⟩⟩ rfl rfl hl.1 rfl (lv_room (Nat.le_of_ble_eq_true rfl)) dX7_told_1 ⟨Nat.le_of_ble_eq_true rfl, Nat.le_of_ble_eq_true rfl⟩) hS hP (fun r1 H locs w1r hP hS => ?_)
  have w1 : r1 = nI (nowN fn n) := w1r
  clear w1r
  obtain rfl : r1 = nI (nowN fn n) := w1
  refine lv_istore_n (lv' := [(2, .int (nI (nowN fn n))), (0, .ref m0), (1, .int wh)]) hx hb dX7_told_4 rfl hl (by decide) rfl (fun ls hl => ?_)
  refine lv_iload_n hx hb dX7_told_5 rfl (lv_at hl 2 rfl) ?_
  refine lv_if_ne (tgt := 15) hx hb dX7_told_6 (by decide) (fun c2 => ?_) (fun c2 => ?_)
  · skip
    refine lv_aload_n hx hb dX7_told_15 rfl (lv_at hl 1 rfl) ?_
    refine va_get (D := D) (ci := 7) (v := .int (nI y)) (C := RX7) (T := TX7) (N := 17) hx hb hts hiX7 hown hK hP 0 rfl rfl 6 (by decide) hf27 (fun _ h9 => h9) rfl dX7_told_16 ?_
    refine lv_if_lt (tgt := 34) hx hb dX7_told_19 (by decide) (fun c3 => ?_) (fun c3 => ?_)
    · exact absurd c3 (by first | decide | exact nz_lt (by omega) | exact fun h => h (nz_ge (by omega)))
    · skip
      refine lv_iload_n hx hb dX7_told_22 rfl (lv_at hl 2 rfl) ?_
      refine lv_i2l hx hb dX7_told_23 rfl ?_
      refine lv_lconst (v := lN 1) hx hb dX7_told_24 (by decide) ?_
      refine lv_ldc2 (v := lN 8) hx hb hown (hts (.constantLong RX7 130 (lN 8)) (by decide +kernel)) dX7_told_25 ?_
      refine pu_i (va_runS (As := [.long wh.toInt64, .long (lN 1), .long (lN 8)]) (rest := []) ⟨hx, hb, hml, hown, hts⟩ (c_X7_in l D cI cJ cZ wh.toInt64 (lN 1) (lN 8)) (va_cwS 3 hts gX7_told_X7_in rfl rfl rfl (by decide +kernel) ⟨Nat.le_of_ble_eq_true rfl, Nat.le_of_ble_eq_true rfl⟩) ⟨pc_blind, fun U hU hW => ⟨rfl, by rw [hU]; exact hP.sub (ws' := []) [] rfl, hKN.warm hW⟩⟩ rfl rfl hl.1 rfl (lv_room (Nat.le_of_ble_eq_true rfl)) dX7_told_28 ⟨Nat.le_of_ble_eq_true rfl, Nat.le_of_ble_eq_true rfl⟩) hS hP (fun r4 H locs w4r hP hS => ?_)
      have w4 : B01 r4 ((lN 1).toInt ≤ wh.toInt64.toInt ∧ wh.toInt64.toInt ≤ (lN 8).toInt) := w4r
      clear w4r
      rw [lN_toInt (n := 1) (by omega), j2 wh, lN_toInt (n := 8) (by omega)] at w4
      rcases w4 with ⟨rfl, w4⟩ | ⟨rfl, w4⟩
      · skip
        refine lv_if_ne (tgt := 38) hx hb dX7_told_31 (by decide) (fun c5 => ?_) (fun c5 => ?_)
        · skip
          refine lv_iload_n hx hb dX7_told_38 rfl (lv_at hl 2 rfl) ?_
          refine lv_i2l hx hb dX7_told_39 rfl ?_
          refine lv_ldc2 (v := lN 2) hx hb hown (hts (.constantLong RX7 134 (lN 2)) (by decide +kernel)) dX7_told_40 ?_
          refine lv_ldc2 (v := lN 5) hx hb hown (hts (.constantLong RX7 136 (lN 5)) (by decide +kernel)) dX7_told_43 ?_
          refine pu_i (va_runS (As := [.long wh.toInt64, .long (lN 2), .long (lN 5)]) (rest := []) ⟨hx, hb, hml, hown, hts⟩ (c_X7_in l D cI cJ cZ wh.toInt64 (lN 2) (lN 5)) (va_cwS 3 hts gX7_told_X7_in rfl rfl rfl (by decide +kernel) ⟨Nat.le_of_ble_eq_true rfl, Nat.le_of_ble_eq_true rfl⟩) ⟨pc_blind, fun U hU hW => ⟨rfl, by rw [hU]; exact hP.sub (ws' := []) [] rfl, hKN.warm hW⟩⟩ rfl rfl hl.1 rfl (lv_room (Nat.le_of_ble_eq_true rfl)) dX7_told_46 ⟨Nat.le_of_ble_eq_true rfl, Nat.le_of_ble_eq_true rfl⟩) hS hP (fun r6 H locs w6r hP hS => ?_)
          have w6 : B01 r6 ((lN 2).toInt ≤ wh.toInt64.toInt ∧ wh.toInt64.toInt ≤ (lN 5).toInt) := w6r
          clear w6r
          rw [lN_toInt (n := 2) (by omega), j2 wh, lN_toInt (n := 5) (by omega)] at w6
          rcases w6 with ⟨rfl, w6⟩ | ⟨rfl, w6⟩
          · skip
            refine lv_if_eq (tgt := 108) hx hb dX7_told_49 (by decide) (fun c7 => ?_) (fun c7 => ?_)
            · exact absurd c7 (by first | decide | exact nz_lt (by omega) | exact fun h => h (nz_ge (by omega)))
            · skip
              refine lv_aload_n hx hb dX7_told_52 rfl (lv_at hl 1 rfl) ?_
              refine mu_v (n := 12) (wc := [(m0, .inr (7, [.int (nI n), .ref g1, .ref g2, .ref g3, .int mr, .ref g4, .int (nI y), .ref g5, .int (nI q), .ref g6, .int ml, .ref g7, .ref g8, .ref g9, .ref g10, .ref g11, .ref g12])), (g1, .inl (cI, 9, .inl fg)), (g2, .inl (cI, 9, .inl fb)), (g3, .inl (cI, 9, .inl fp)), (g4, .inl (cZ, 20480, .inl fs)), (g12, .inl (cI, 9, .inl th)), (g8, .inl (cJ, 19683, .inr (.inl eb))), (g9, .inl (cI, 19683, .inl en)), (g10, .inl (cI, 19683, .inl ew)), (g11, .inl (cI, 19683, .inl ex))]) (va_runV (As := []) (rest := []) ⟨hx, hb, hml, hown, hts⟩ (c_X7_plans l D cI cJ cZ m0 g1 g2 g3 g4 g5 g6 g7 g8 g9 g10 g11 g12 n y mr (nI q) ml fg fb fp fs th eb en ew ex (by first | assumption | omega) (by first | assumption | omega) (by first | assumption | omega) (by first | assumption | omega) (by first | assumption | omega)) (cwV 0 hts gX7_told_X7_plans rfl rfl rfl (by decide +kernel) ⟨Nat.le_of_ble_eq_true rfl, Nat.le_of_ble_eq_true rfl⟩) ⟨pm_blind, va_recv hK hP (ci := 7) (q0 := 0) rfl rfl, fun U hU hW => ⟨rfl, by rw [hU]; exact hP.sub (ws' := [(m0, .inr (7, [.int (nI n), .ref g1, .ref g2, .ref g3, .int mr, .ref g4, .int (nI y), .ref g5, .int (nI q), .ref g6, .int ml, .ref g7, .ref g8, .ref g9, .ref g10, .ref g11, .ref g12])), (g1, .inl (cI, 9, .inl fg)), (g2, .inl (cI, 9, .inl fb)), (g3, .inl (cI, 9, .inl fp)), (g4, .inl (cZ, 20480, .inl fs)), (g12, .inl (cI, 9, .inl th)), (g8, .inl (cJ, 19683, .inr (.inl eb))), (g9, .inl (cI, 19683, .inl en)), (g10, .inl (cI, 19683, .inl ew)), (g11, .inl (cI, 19683, .inl ex))]) [0, 1, 2, 3, 4, 7, 8, 9, 10, 11] rfl, hKN.warm hW, (hD.sub (ws' := [(m0, .inr (7, [.int (nI n), .ref g1, .ref g2, .ref g3, .int mr, .ref g4, .int (nI y), .ref g5, .int (nI q), .ref g6, .int ml, .ref g7, .ref g8, .ref g9, .ref g10, .ref g11, .ref g12])), (g1, .inl (cI, 9, .inl fg)), (g2, .inl (cI, 9, .inl fb)), (g3, .inl (cI, 9, .inl fp)), (g4, .inl (cZ, 20480, .inl fs)), (g12, .inl (cI, 9, .inl th)), (g8, .inl (cJ, 19683, .inr (.inl eb))), (g9, .inl (cI, 19683, .inl en)), (g10, .inl (cI, 19683, .inl ew)), (g11, .inl (cI, 19683, .inl ex))]) [0, 1, 2, 3, 4, 7, 8, 9, 10, 11] (by decide) rfl).weaken (fun _ _ _ _ => trivial)⟩⟩ rfl rfl hl.1 rfl (lv_room (Nat.le_of_ble_eq_true rfl)) dX7_told_53 ⟨Nat.le_of_ble_eq_true rfl, Nat.le_of_ble_eq_true rfl⟩) hS hP hD (fun (u : (Nat → Int64) × (Nat → Int32) × (Nat → Int32) × (Nat → Int32)) => [(m0, .inr (7, [.int (nI n), .ref g1, .ref g2, .ref g3, .int mr, .ref g4, .int (nI y), .ref g5, .int (nI q), .ref g6, .int ml, .ref g7, .ref g8, .ref g9, .ref g10, .ref g11, .ref g12])), (g1, .inl (cI, 9, .inl fg)), (g2, .inl (cI, 9, .inl fb)), (g3, .inl (cI, 9, .inl fp)), (g4, .inl (cZ, 20480, .inl fs)), (g5, .inl (cI, 9, .inl fn)), (g6, .inl (cI, 9, .inl fo)), (g12, .inl (cI, 9, .inl th)), (g8, .inl (cJ, 19683, .inr (.inl u.1))), (g9, .inl (cI, 19683, .inl u.2.1)), (g10, .inl (cI, 19683, .inl u.2.2.1)), (g11, .inl (cI, 19683, .inl u.2.2.2))]) [0, 1, 2, 3, 4, 7, 8, 9, 10, 11] [5, 6] rfl rfl (fun _ => rfl) (fun _ => rfl) (fun _ => rfl) (fun _ => rfl) (by decide) (by decide) (fun u8 H locs w8r hP hD hS => ?_)
              obtain ⟨u8_ub, u8_un, u8_uw, u8_ux⟩ := u8
              have hP : va_P D vwCl [(m0, .inr (7, [.int (nI n), .ref g1, .ref g2, .ref g3, .int mr, .ref g4, .int (nI y), .ref g5, .int (nI q), .ref g6, .int ml, .ref g7, .ref g8, .ref g9, .ref g10, .ref g11, .ref g12])), (g1, .inl (cI, 9, .inl fg)), (g2, .inl (cI, 9, .inl fb)), (g3, .inl (cI, 9, .inl fp)), (g4, .inl (cZ, 20480, .inl fs)), (g5, .inl (cI, 9, .inl fn)), (g6, .inl (cI, 9, .inl fo)), (g12, .inl (cI, 9, .inl th)), (g8, .inl (cJ, 19683, .inr (.inl u8_ub))), (g9, .inl (cI, 19683, .inl u8_un)), (g10, .inl (cI, 19683, .inl u8_uw)), (g11, .inl (cI, 19683, .inl u8_ux))] H := hP
              have hD : va_D (aA as) [(m0, .inr (7, [.int (nI n), .ref g1, .ref g2, .ref g3, .int mr, .ref g4, .int (nI y), .ref g5, .int (nI q), .ref g6, .int ml, .ref g7, .ref g8, .ref g9, .ref g10, .ref g11, .ref g12])), (g1, .inl (cI, 9, .inl fg)), (g2, .inl (cI, 9, .inl fb)), (g3, .inl (cI, 9, .inl fp)), (g4, .inl (cZ, 20480, .inl fs)), (g5, .inl (cI, 9, .inl fn)), (g6, .inl (cI, 9, .inl fo)), (g12, .inl (cI, 9, .inl th)), (g8, .inl (cJ, 19683, .inr (.inl u8_ub))), (g9, .inl (cI, 19683, .inl u8_un)), (g10, .inl (cI, 19683, .inl u8_uw)), (g11, .inl (cI, 19683, .inl u8_ux))] := hD
              have w8 : ∀ z, z < 3 ^ n → VV fs y n u8_un u8_ux z := w8r
              clear w8r
              refine lv_iload_n hx hb dX7_told_56 rfl (lv_at hl 2 rfl) ?_
              refine lv_iconst (v := nI 2) hx hb dX7_told_57 (by decide) ?_
              refine lv_icmp_ne (tgt := 70) hx hb dX7_told_58 (by decide) (fun c9 => ?_) (fun c9 => ?_)
              · skip
                refine lv_iload_n hx hb dX7_told_70 rfl (lv_at hl 2 rfl) ?_
                refine lv_iconst (v := nI 3) hx hb dX7_told_71 (by decide) ?_
                refine lv_icmp_ne (tgt := 85) hx hb dX7_told_72 (by decide) (fun c10 => ?_) (fun c10 => ?_)
                · skip
                  refine lv_iload_n hx hb dX7_told_85 rfl (lv_at hl 2 rfl) ?_
                  refine lv_iconst (v := nI 4) hx hb dX7_told_86 (by decide) ?_
                  refine lv_icmp_ne (tgt := 100) hx hb dX7_told_87 (by decide) (fun c11 => ?_) (fun c11 => ?_)
                  · skip
                    refine lv_aload_n hx hb dX7_told_100 rfl (lv_at hl 1 rfl) ?_
                    refine va_get (D := D) (ci := 7) (v := .ref g11) (C := RX7) (T := TX7) (N := 17) hx hb hts hiX7 hown hK hP 0 rfl rfl 15 (by decide) hf49 (fun _ h9 => h9) rfl dX7_told_101 ?_
                    refine lv_iload_n hx hb dX7_told_104 rfl (lv_at hl 0 rfl) ?_
                    refine va_iald hx hb hK hP 11 0 rfl rfl (i := nI (nowN fn n)) (vp_in_nI (by omega) (by omega)) dX7_told_105 ?_
                    refine cn_i (y := u8_ux (nowN fn n)) (congrArg u8_ux (nI_clamp (by omega))) ?_
                    refine lv_i2l hx hb dX7_told_106 rfl ?_
                    rw [← hQ]
                    exact W.lret (v := (u8_ux (nowN fn n)).toInt64) hx hb hr (fun tS htS hWS => ⟨⟨((u8_ux (nowN fn n)).toInt64), (u8_ub, u8_un, u8_uw, u8_ux), rfl, trivial, m_at htS hP⟩, by rw [← has]; exact hS.F htS⟩) (by rw [← has]; exact hS.2.2) dX7_told_107
                  · skip
                    refine lv_aload_n hx hb dX7_told_90 rfl (lv_at hl 1 rfl) ?_
                    refine va_get (D := D) (ci := 7) (v := .ref g10) (C := RX7) (T := TX7) (N := 17) hx hb hts hiX7 hown hK hP 0 rfl rfl 14 (by decide) hf46 (fun _ h9 => h9) rfl dX7_told_91 ?_
                    refine lv_iload_n hx hb dX7_told_94 rfl (lv_at hl 0 rfl) ?_
                    refine va_iald hx hb hK hP 10 0 rfl rfl (i := nI (nowN fn n)) (vp_in_nI (by omega) (by omega)) dX7_told_95 ?_
                    refine cn_i (y := u8_uw (nowN fn n)) (congrArg u8_uw (nI_clamp (by omega))) ?_
                    refine lv_i2l hx hb dX7_told_96 rfl ?_
                    refine lv_goto (tgt := 107) hx hb dX7_told_97 (by decide) ?_
                    rw [← hQ]
                    exact W.lret (v := (u8_uw (nowN fn n)).toInt64) hx hb hr (fun tS htS hWS => ⟨⟨((u8_uw (nowN fn n)).toInt64), (u8_ub, u8_un, u8_uw, u8_ux), rfl, trivial, m_at htS hP⟩, by rw [← has]; exact hS.F htS⟩) (by rw [← has]; exact hS.2.2) dX7_told_107
                · skip
                  refine lv_aload_n hx hb dX7_told_75 rfl (lv_at hl 1 rfl) ?_
                  refine va_get (D := D) (ci := 7) (v := .ref g9) (C := RX7) (T := TX7) (N := 17) hx hb hts hiX7 hown hK hP 0 rfl rfl 13 (by decide) hf43 (fun _ h9 => h9) rfl dX7_told_76 ?_
                  refine lv_iload_n hx hb dX7_told_79 rfl (lv_at hl 0 rfl) ?_
                  refine va_iald hx hb hK hP 9 0 rfl rfl (i := nI (nowN fn n)) (vp_in_nI (by omega) (by omega)) dX7_told_80 ?_
                  refine cn_i (y := u8_un (nowN fn n)) (congrArg u8_un (nI_clamp (by omega))) ?_
                  refine lv_i2l hx hb dX7_told_81 rfl ?_
                  refine lv_goto (tgt := 107) hx hb dX7_told_82 (by decide) ?_
                  rw [← hQ]
                  exact W.lret (v := (u8_un (nowN fn n)).toInt64) hx hb hr (fun tS htS hWS => ⟨⟨((u8_un (nowN fn n)).toInt64), (u8_ub, u8_un, u8_uw, u8_ux), rfl, trivial, m_at htS hP⟩, by rw [← has]; exact hS.F htS⟩) (by rw [← has]; exact hS.2.2) dX7_told_107
              · skip
                refine lv_aload_n hx hb dX7_told_61 rfl (lv_at hl 1 rfl) ?_
                refine va_get (D := D) (ci := 7) (v := .ref g8) (C := RX7) (T := TX7) (N := 17) hx hb hts hiX7 hown hK hP 0 rfl rfl 12 (by decide) hf39 (fun _ h9 => h9) rfl dX7_told_62 ?_
                refine lv_iload_n hx hb dX7_told_65 rfl (lv_at hl 0 rfl) ?_
                refine va_lald hx hb hK hP 8 1 rfl rfl (i := nI (nowN fn n)) (vp_in_nI (by omega) (by omega)) dX7_told_66 ?_
                refine cn_l (y := u8_ub (nowN fn n)) (congrArg u8_ub (nI_clamp (by omega))) ?_
                refine lv_goto (tgt := 107) hx hb dX7_told_67 (by decide) ?_
                rw [← hQ]
                exact W.lret (v := u8_ub (nowN fn n)) hx hb hr (fun tS htS hWS => ⟨⟨(u8_ub (nowN fn n)), (u8_ub, u8_un, u8_uw, u8_ux), rfl, trivial, m_at htS hP⟩, by rw [← has]; exact hS.F htS⟩) (by rw [← has]; exact hS.2.2) dX7_told_107
          · skip
            refine lv_if_eq (tgt := 108) hx hb dX7_told_49 (by decide) (fun c12 => ?_) (fun c12 => ?_)
            · skip
              refine lv_lconst (v := lN 0) hx hb dX7_told_108 (by decide) ?_
              refine lv_lstore_n (lv' := [(3, .long (lN 0)), (2, .int (nI (nowN fn n))), (0, .ref m0), (1, .int wh)]) hx hb dX7_told_109 rfl hl (by decide) rfl (fun ls hl => ?_)
              refine lv_iconst (v := nI 0) hx hb dX7_told_110 (by decide) ?_
              refine lv_istore (lv' := [(5, .int (nI 0)), (3, .long (lN 0)), (2, .int (nI (nowN fn n))), (0, .ref m0), (1, .int wh)]) hx hb dX7_told_111 hl (by decide) rfl (fun ls hl => ?_)
              have loop13 : ∀ (fu : Nat) (k : Nat) (v : Int64) (H : Heap) (locs : List Loc) (ls : Array Slot), (k ≤ 2 ^ n ∧ 2 ^ n < k + fu) → va_P D vwCl [(m0, .inr (7, [.int (nI n), .ref g1, .ref g2, .ref g3, .int mr, .ref g4, .int (nI y), .ref g5, .int (nI q), .ref g6, .int ml, .ref g7, .ref g8, .ref g9, .ref g10, .ref g11, .ref g12])), (g1, .inl (cI, 9, .inl fg)), (g2, .inl (cI, 9, .inl fb)), (g3, .inl (cI, 9, .inl fp)), (g4, .inl (cZ, 20480, .inl fs)), (g5, .inl (cI, 9, .inl fn)), (g6, .inl (cI, 9, .inl fo)), (g12, .inl (cI, 9, .inl th)), (g8, .inl (cJ, 19683, .inr (.inl eb))), (g9, .inl (cI, 19683, .inl en)), (g10, .inl (cI, 19683, .inl ew)), (g11, .inl (cI, 19683, .inl ex))] H → va_D (aA as) [(m0, .inr (7, [.int (nI n), .ref g1, .ref g2, .ref g3, .int mr, .ref g4, .int (nI y), .ref g5, .int (nI q), .ref g6, .int ml, .ref g7, .ref g8, .ref g9, .ref g10, .ref g11, .ref g12])), (g1, .inl (cI, 9, .inl fg)), (g2, .inl (cI, 9, .inl fb)), (g3, .inl (cI, 9, .inl fp)), (g4, .inl (cZ, 20480, .inl fs)), (g5, .inl (cI, 9, .inl fn)), (g6, .inl (cI, 9, .inl fo)), (g12, .inl (cI, 9, .inl th)), (g8, .inl (cJ, 19683, .inr (.inl eb))), (g9, .inl (cI, 19683, .inl en)), (g10, .inl (cI, 19683, .inl ew)), (g11, .inl (cI, 19683, .inl ex))] → va_S (aA as) s.heap H locs → lv_has ls 7 [(5, .int (nI k)), (3, .long v), (2, .int (nI (nowN fn n))), (0, .ref m0), (1, .int wh)] → W p l e (headSpec wsX7_told rm_c_X7_told_g).room s m ([.ref m0, .int wh] : List Value).toArray below meth c H locs 0 0 Q (F0 m 113 ls []) := by
                intro fu
                induction fu with
                | zero => intro k v H locs ls hk; exact absurd hk (by omega)
                | succ fu ih13 =>
                  intro k v H locs ls hk hP hD hS hl
                  refine lv_iload hx hb dX7_told_113 (lv_at hl 0 rfl) ?_
                  refine lv_aload_n hx hb dX7_told_115 rfl (lv_at hl 3 rfl) ?_
                  refine pu_i (va_runV (As := []) (rest := [.int (nI k)]) ⟨hx, hb, hml, hown, hts⟩ (c_X7_settings l D cI cJ cZ m0 g1 g2 g3 g4 g5 g6 g7 g8 g9 g10 g11 g12 n mr (nI y) (nI q) ml (by first | assumption | omega)) (cwV 0 hts gX7_told_X7_settings rfl rfl rfl (by decide +kernel) ⟨Nat.le_of_ble_eq_true rfl, Nat.le_of_ble_eq_true rfl⟩) ⟨pc_blind, va_recv hK hP (ci := 7) (q0 := 0) rfl rfl, fun U hU hW => ⟨rfl, by rw [hU]; exact hP.sub (ws' := [(m0, .inr (7, [.int (nI n), .ref g1, .ref g2, .ref g3, .int mr, .ref g4, .int (nI y), .ref g5, .int (nI q), .ref g6, .int ml, .ref g7, .ref g8, .ref g9, .ref g10, .ref g11, .ref g12]))]) [0] rfl, hKN.warm hW⟩⟩ rfl rfl hl.1 rfl (lv_room (Nat.le_of_ble_eq_true rfl)) dX7_told_116 ⟨Nat.le_of_ble_eq_true rfl, Nat.le_of_ble_eq_true rfl⟩) hS hP (fun r14 H locs w14r hP hS => ?_)
                  have w14 : r14 = nI (2 ^ n) := w14r
                  clear w14r
                  obtain rfl : r14 = nI (2 ^ n) := w14
                  refine lv_icmp_ge (tgt := 273) hx hb dX7_told_119 (by decide) (fun c15 => ?_) (fun c15 => ?_)
                  · skip
                    have d15 := c15
                    rw [nI_leI (by omega) (by omega)] at d15
                    refine lv_lload_n hx hb dX7_told_273 rfl (lv_at hl 1 rfl) ?_
                    rw [← hQ]
                    exact W.lret (v := v) hx hb hr (fun tS htS hWS => ⟨⟨v, (eb, en, ew, ex), rfl, trivial, m_at htS hP⟩, by rw [← has]; exact hS.F htS⟩) (by rw [← has]; exact hS.2.2) dX7_told_274
                  · skip
                    have d15 := c15
                    rw [nI_leI (by omega) (by omega)] at d15
                    refine lv_aload_n hx hb dX7_told_122 rfl (lv_at hl 3 rfl) ?_
                    refine lv_iload hx hb dX7_told_123 (lv_at hl 0 rfl) ?_
                    refine lv_iload_n hx hb dX7_told_125 rfl (lv_at hl 2 rfl) ?_
                    refine pu_i (va_runV (As := [.int (nI k), .int (nI (nowN fn n))]) (rest := []) ⟨hx, hb, hml, hown, hts⟩ (c_X7_isSuch l D cI cJ cZ m0 g1 g2 g3 g4 g5 g6 g7 g8 g9 g10 g11 g12 n (nowN fn n) mr (nI y) (nI q) ml (nI k) th (by first | assumption | omega) (by first | assumption | omega) (by first | assumption | omega)) (cwV 2 hts gX7_told_X7_isSuch rfl rfl rfl (by decide +kernel) ⟨Nat.le_of_ble_eq_true rfl, Nat.le_of_ble_eq_true rfl⟩) ⟨pc_blind, va_recv hK hP (ci := 7) (q0 := 0) rfl rfl, fun U hU hW => ⟨rfl, by rw [hU]; exact hP.sub (ws' := [(m0, .inr (7, [.int (nI n), .ref g1, .ref g2, .ref g3, .int mr, .ref g4, .int (nI y), .ref g5, .int (nI q), .ref g6, .int ml, .ref g7, .ref g8, .ref g9, .ref g10, .ref g11, .ref g12])), (g12, .inl (cI, 9, .inl th))]) [0, 7] rfl, hKN.warm hW⟩⟩ rfl rfl hl.1 rfl (lv_room (Nat.le_of_ble_eq_true rfl)) dX7_told_126 ⟨Nat.le_of_ble_eq_true rfl, Nat.le_of_ble_eq_true rfl⟩) hS hP (fun r16 H locs w16r hP hS => ?_)
                    have w16 : r16 = nI 1 ∨ r16 = nI 0 := w16r
                    clear w16r
                    rcases w16 with rfl | rfl
                    · skip
                      refine lv_if_ne (tgt := 135) hx hb dX7_told_129 (by decide) (fun c17 => ?_) (fun c17 => ?_)
                      · skip
                        refine lv_iload_n hx hb dX7_told_135 rfl (lv_at hl 4 rfl) ?_
                        by_cases c18 : wh = nI 1
                        · refine cn_i (y := nI 1) c18 ?_
                          refine lv_lookup (tgt := 172) (off := 36) hx hb dX7_told_136 (by decide) (by decide) (by decide) ?_
                          refine lv_lload_n hx hb dX7_told_172 rfl (lv_at hl 1 rfl) ?_
                          refine lv_aload_n hx hb dX7_told_173 rfl (lv_at hl 3 rfl) ?_
                          refine lv_iload hx hb dX7_told_174 (lv_at hl 0 rfl) ?_
                          refine pu_i (va_runV (As := [.int (nI k)]) (rest := [.long v]) ⟨hx, hb, hml, hown, hts⟩ (c_X7_isGood l D cI cJ cZ m0 g1 g2 g3 g4 g5 g6 g7 g8 g9 g10 g11 g12 y k (nI n) mr (nI q) ml fs (by first | assumption | omega) (by first | assumption | omega) (by first | assumption | omega)) (cwV 1 hts gX7_told_X7_isGood rfl rfl rfl (by decide +kernel) ⟨Nat.le_of_ble_eq_true rfl, Nat.le_of_ble_eq_true rfl⟩) ⟨pc_blind, va_recv hK hP (ci := 7) (q0 := 0) rfl rfl, fun U hU hW => ⟨rfl, by rw [hU]; exact hP.sub (ws' := [(m0, .inr (7, [.int (nI n), .ref g1, .ref g2, .ref g3, .int mr, .ref g4, .int (nI y), .ref g5, .int (nI q), .ref g6, .int ml, .ref g7, .ref g8, .ref g9, .ref g10, .ref g11, .ref g12])), (g4, .inl (cZ, 20480, .inl fs))]) [0, 4] rfl, hKN.warm hW⟩⟩ rfl rfl hl.1 rfl (lv_room (Nat.le_of_ble_eq_true rfl)) dX7_told_176 ⟨Nat.le_of_ble_eq_true rfl, Nat.le_of_ble_eq_true rfl⟩) hS hP (fun r19 H locs w19r hP hS => ?_)
                          have w19 : B01 r19 (Sg fs y k) := w19r
                          clear w19r
                          rcases w19 with ⟨rfl, w19⟩ | ⟨rfl, w19⟩
                          · skip
                            refine lv_if_eq (tgt := 191) hx hb dX7_told_179 (by decide) (fun c20 => ?_) (fun c20 => ?_)
                            · exact absurd c20 (by first | decide | exact nz_lt (by omega) | exact fun h => h (nz_ge (by omega)))
                            · skip
                              refine lv_aload_n hx hb dX7_told_182 rfl (lv_at hl 3 rfl) ?_
                              refine lv_iload hx hb dX7_told_183 (lv_at hl 0 rfl) ?_
                              refine pu_l (va_runV (As := [.int (nI k)]) (rest := [.long v]) ⟨hx, hb, hml, hown, hts⟩ (c_X7_weight l D cI cJ cZ m0 g1 g2 g3 g4 g5 g6 g7 g8 g9 g10 g11 g12 n mr (nI y) (nI q) ml (nI k) fg fb (by first | assumption | omega)) (cwV 1 hts gX7_told_X7_weight rfl rfl rfl (by decide +kernel) ⟨Nat.le_of_ble_eq_true rfl, Nat.le_of_ble_eq_true rfl⟩) ⟨pc_blind, va_recv hK hP (ci := 7) (q0 := 0) rfl rfl, fun U hU hW => ⟨rfl, by rw [hU]; exact hP.sub (ws' := [(m0, .inr (7, [.int (nI n), .ref g1, .ref g2, .ref g3, .int mr, .ref g4, .int (nI y), .ref g5, .int (nI q), .ref g6, .int ml, .ref g7, .ref g8, .ref g9, .ref g10, .ref g11, .ref g12])), (g1, .inl (cI, 9, .inl fg)), (g2, .inl (cI, 9, .inl fb))]) [0, 1, 2] rfl, hKN.warm hW⟩⟩ rfl rfl hl.1 rfl (lv_room (Nat.le_of_ble_eq_true rfl)) dX7_told_185 ⟨Nat.le_of_ble_eq_true rfl, Nat.le_of_ble_eq_true rfl⟩) hS hP (fun r21 H locs w21r hP hS => ?_)
                              have w21 : True := w21r
                              clear w21r
                              refine lv_goto (tgt := 192) hx hb dX7_told_188 (by decide) ?_
                              refine lv_ladd hx hb dX7_told_192 ?_
                              refine lv_lstore_n (lv' := [(3, .long (v + r21)), (5, .int (nI k)), (2, .int (nI (nowN fn n))), (0, .ref m0), (1, .int wh)]) hx hb dX7_told_193 rfl hl (by decide) rfl (fun ls hl => ?_)
                              refine lv_goto (tgt := 267) hx hb dX7_told_194 (by decide) ?_
                              refine lv_iinc (v := nI (k + 1)) (lv' := [(5, .int (nI (k + 1))), (3, .long (v + r21)), (2, .int (nI (nowN fn n))), (0, .ref m0), (1, .int wh)]) hx hb dX7_told_267 hl (k := 1) rfl (nI_1 k) (by decide) rfl (fun ls hl => ?_)
                              refine lv_goto (tgt := 113) hx hb dX7_told_270 (by decide) ?_
                              exact ih13 (k + 1) (v + r21) _ _ _ (by omega) hP hD hS (lv_sub hl [0, 1, 2, 3, 4] rfl)
                          · skip
                            refine lv_if_eq (tgt := 191) hx hb dX7_told_179 (by decide) (fun c22 => ?_) (fun c22 => ?_)
                            · skip
                              refine lv_lconst (v := lN 0) hx hb dX7_told_191 (by decide) ?_
                              refine lv_ladd hx hb dX7_told_192 ?_
                              refine lv_lstore_n (lv' := [(3, .long (v + (lN 0))), (5, .int (nI k)), (2, .int (nI (nowN fn n))), (0, .ref m0), (1, .int wh)]) hx hb dX7_told_193 rfl hl (by decide) rfl (fun ls hl => ?_)
                              refine lv_goto (tgt := 267) hx hb dX7_told_194 (by decide) ?_
                              refine lv_iinc (v := nI (k + 1)) (lv' := [(5, .int (nI (k + 1))), (3, .long (v + (lN 0))), (2, .int (nI (nowN fn n))), (0, .ref m0), (1, .int wh)]) hx hb dX7_told_267 hl (k := 1) rfl (nI_1 k) (by decide) rfl (fun ls hl => ?_)
                              refine lv_goto (tgt := 113) hx hb dX7_told_270 (by decide) ?_
                              exact ih13 (k + 1) (v + (lN 0)) _ _ _ (by omega) hP hD hS (lv_sub hl [0, 1, 2, 3, 4] rfl)
                            · exact absurd c22 (by first | decide | exact nz_lt (by omega) | exact fun h => h (nz_ge (by omega)))
                        by_cases c23 : wh = nI 6
                        · refine cn_i (y := nI 6) c23 ?_
                          refine lv_lookup (tgt := 197) (off := 61) hx hb dX7_told_136 (by decide) (by decide) (by decide) ?_
                          refine lv_lload_n hx hb dX7_told_197 rfl (lv_at hl 1 rfl) ?_
                          refine lv_aload_n hx hb dX7_told_198 rfl (lv_at hl 3 rfl) ?_
                          refine lv_iload hx hb dX7_told_199 (lv_at hl 0 rfl) ?_
                          refine pu_l (va_runV (As := [.int (nI k)]) (rest := [.long v]) ⟨hx, hb, hml, hown, hts⟩ (c_X7_weight l D cI cJ cZ m0 g1 g2 g3 g4 g5 g6 g7 g8 g9 g10 g11 g12 n mr (nI y) (nI q) ml (nI k) fg fb (by first | assumption | omega)) (cwV 1 hts gX7_told_X7_weight rfl rfl rfl (by decide +kernel) ⟨Nat.le_of_ble_eq_true rfl, Nat.le_of_ble_eq_true rfl⟩) ⟨pc_blind, va_recv hK hP (ci := 7) (q0 := 0) rfl rfl, fun U hU hW => ⟨rfl, by rw [hU]; exact hP.sub (ws' := [(m0, .inr (7, [.int (nI n), .ref g1, .ref g2, .ref g3, .int mr, .ref g4, .int (nI y), .ref g5, .int (nI q), .ref g6, .int ml, .ref g7, .ref g8, .ref g9, .ref g10, .ref g11, .ref g12])), (g1, .inl (cI, 9, .inl fg)), (g2, .inl (cI, 9, .inl fb))]) [0, 1, 2] rfl, hKN.warm hW⟩⟩ rfl rfl hl.1 rfl (lv_room (Nat.le_of_ble_eq_true rfl)) dX7_told_201 ⟨Nat.le_of_ble_eq_true rfl, Nat.le_of_ble_eq_true rfl⟩) hS hP (fun r24 H locs w24r hP hS => ?_)
                          have w24 : True := w24r
                          clear w24r
                          refine lv_aload_n hx hb dX7_told_204 rfl (lv_at hl 3 rfl) ?_
                          refine lv_iload hx hb dX7_told_205 (lv_at hl 0 rfl) ?_
                          refine lv_iload_n hx hb dX7_told_207 rfl (lv_at hl 2 rfl) ?_
                          refine pu_i (va_runV (As := [.int (nI k), .int (nI (nowN fn n))]) (rest := [.long r24, .long v]) ⟨hx, hb, hml, hown, hts⟩ (c_X7_shown l D cI cJ cZ m0 g1 g2 g3 g4 g5 g6 g7 g8 g9 g10 g11 g12 n (nowN fn n) y mr (nI q) ml (nI k) fp fs th (by first | assumption | omega) (by first | assumption | omega) (by first | assumption | omega) (by first | assumption | omega) (by first | assumption | omega)) (cwV 2 hts gX7_told_X7_shown rfl rfl rfl (by decide +kernel) ⟨Nat.le_of_ble_eq_true rfl, Nat.le_of_ble_eq_true rfl⟩) ⟨pc_blind, va_recv hK hP (ci := 7) (q0 := 0) rfl rfl, fun U hU hW => ⟨rfl, by rw [hU]; exact hP.sub (ws' := [(m0, .inr (7, [.int (nI n), .ref g1, .ref g2, .ref g3, .int mr, .ref g4, .int (nI y), .ref g5, .int (nI q), .ref g6, .int ml, .ref g7, .ref g8, .ref g9, .ref g10, .ref g11, .ref g12])), (g3, .inl (cI, 9, .inl fp)), (g4, .inl (cZ, 20480, .inl fs)), (g12, .inl (cI, 9, .inl th))]) [0, 3, 4, 7] rfl, hKN.warm hW⟩⟩ rfl rfl hl.1 rfl (lv_room (Nat.le_of_ble_eq_true rfl)) dX7_told_208 ⟨Nat.le_of_ble_eq_true rfl, Nat.le_of_ble_eq_true rfl⟩) hS hP (fun r25 H locs w25r hP hS => ?_)
                          have w25 : True := w25r
                          clear w25r
                          refine lv_i2l hx hb dX7_told_211 rfl ?_
                          refine lv_lmul hx hb dX7_told_212 ?_
                          refine lv_ladd hx hb dX7_told_213 ?_
                          refine lv_lstore_n (lv' := [(3, .long (v + (r24 * r25.toInt64))), (5, .int (nI k)), (2, .int (nI (nowN fn n))), (0, .ref m0), (1, .int wh)]) hx hb dX7_told_214 rfl hl (by decide) rfl (fun ls hl => ?_)
                          refine lv_goto (tgt := 267) hx hb dX7_told_215 (by decide) ?_
                          refine lv_iinc (v := nI (k + 1)) (lv' := [(5, .int (nI (k + 1))), (3, .long (v + (r24 * r25.toInt64))), (2, .int (nI (nowN fn n))), (0, .ref m0), (1, .int wh)]) hx hb dX7_told_267 hl (k := 1) rfl (nI_1 k) (by decide) rfl (fun ls hl => ?_)
                          refine lv_goto (tgt := 113) hx hb dX7_told_270 (by decide) ?_
                          exact ih13 (k + 1) (v + (r24 * r25.toInt64)) _ _ _ (by omega) hP hD hS (lv_sub hl [0, 1, 2, 3, 4] rfl)
                        by_cases c26 : wh = nI 7
                        · refine cn_i (y := nI 7) c26 ?_
                          refine lv_lookup (tgt := 218) (off := 82) hx hb dX7_told_136 (by decide) (by decide) (by decide) ?_
                          refine lv_lload_n hx hb dX7_told_218 rfl (lv_at hl 1 rfl) ?_
                          refine lv_aload_n hx hb dX7_told_219 rfl (lv_at hl 3 rfl) ?_
                          refine lv_iload hx hb dX7_told_220 (lv_at hl 0 rfl) ?_
                          refine pu_l (va_runV (As := [.int (nI k)]) (rest := [.long v]) ⟨hx, hb, hml, hown, hts⟩ (c_X7_weight l D cI cJ cZ m0 g1 g2 g3 g4 g5 g6 g7 g8 g9 g10 g11 g12 n mr (nI y) (nI q) ml (nI k) fg fb (by first | assumption | omega)) (cwV 1 hts gX7_told_X7_weight rfl rfl rfl (by decide +kernel) ⟨Nat.le_of_ble_eq_true rfl, Nat.le_of_ble_eq_true rfl⟩) ⟨pc_blind, va_recv hK hP (ci := 7) (q0 := 0) rfl rfl, fun U hU hW => ⟨rfl, by rw [hU]; exact hP.sub (ws' := [(m0, .inr (7, [.int (nI n), .ref g1, .ref g2, .ref g3, .int mr, .ref g4, .int (nI y), .ref g5, .int (nI q), .ref g6, .int ml, .ref g7, .ref g8, .ref g9, .ref g10, .ref g11, .ref g12])), (g1, .inl (cI, 9, .inl fg)), (g2, .inl (cI, 9, .inl fb))]) [0, 1, 2] rfl, hKN.warm hW⟩⟩ rfl rfl hl.1 rfl (lv_room (Nat.le_of_ble_eq_true rfl)) dX7_told_222 ⟨Nat.le_of_ble_eq_true rfl, Nat.le_of_ble_eq_true rfl⟩) hS hP (fun r27 H locs w27r hP hS => ?_)
                          have w27 : True := w27r
                          clear w27r
                          refine lv_aload_n hx hb dX7_told_225 rfl (lv_at hl 3 rfl) ?_
                          refine lv_iload hx hb dX7_told_226 (lv_at hl 0 rfl) ?_
                          refine lv_iload_n hx hb dX7_told_228 rfl (lv_at hl 2 rfl) ?_
                          refine pu_i (va_runV (As := [.int (nI k), .int (nI (nowN fn n))]) (rest := [.long r27, .long v]) ⟨hx, hb, hml, hown, hts⟩ (c_X7_byOrder l D cI cJ cZ m0 g1 g2 g3 g4 g5 g6 g7 g8 g9 g10 g11 g12 n q (nowN fn n) y mr ml (nI k) fp fs fo th (by first | assumption | omega) (by first | assumption | omega) (by first | assumption | omega) (by first | assumption | omega) (by first | assumption | omega) (by first | assumption | omega) (by first | assumption | omega)) (cwV 2 hts gX7_told_X7_byOrder rfl rfl rfl (by decide +kernel) ⟨Nat.le_of_ble_eq_true rfl, Nat.le_of_ble_eq_true rfl⟩) ⟨pc_blind, va_recv hK hP (ci := 7) (q0 := 0) rfl rfl, fun U hU hW => ⟨rfl, by rw [hU]; exact hP.sub (ws' := [(m0, .inr (7, [.int (nI n), .ref g1, .ref g2, .ref g3, .int mr, .ref g4, .int (nI y), .ref g5, .int (nI q), .ref g6, .int ml, .ref g7, .ref g8, .ref g9, .ref g10, .ref g11, .ref g12])), (g3, .inl (cI, 9, .inl fp)), (g4, .inl (cZ, 20480, .inl fs)), (g6, .inl (cI, 9, .inl fo)), (g12, .inl (cI, 9, .inl th))]) [0, 3, 4, 6, 7] rfl, hKN.warm hW⟩⟩ rfl rfl hl.1 rfl (lv_room (Nat.le_of_ble_eq_true rfl)) dX7_told_229 ⟨Nat.le_of_ble_eq_true rfl, Nat.le_of_ble_eq_true rfl⟩) hS hP (fun r28 H locs w28r hP hS => ?_)
                          have w28 : True := w28r
                          clear w28r
                          refine lv_i2l hx hb dX7_told_232 rfl ?_
                          refine lv_lmul hx hb dX7_told_233 ?_
                          refine lv_ladd hx hb dX7_told_234 ?_
                          refine lv_lstore_n (lv' := [(3, .long (v + (r27 * r28.toInt64))), (5, .int (nI k)), (2, .int (nI (nowN fn n))), (0, .ref m0), (1, .int wh)]) hx hb dX7_told_235 rfl hl (by decide) rfl (fun ls hl => ?_)
                          refine lv_goto (tgt := 267) hx hb dX7_told_236 (by decide) ?_
                          refine lv_iinc (v := nI (k + 1)) (lv' := [(5, .int (nI (k + 1))), (3, .long (v + (r27 * r28.toInt64))), (2, .int (nI (nowN fn n))), (0, .ref m0), (1, .int wh)]) hx hb dX7_told_267 hl (k := 1) rfl (nI_1 k) (by decide) rfl (fun ls hl => ?_)
                          refine lv_goto (tgt := 113) hx hb dX7_told_270 (by decide) ?_
                          exact ih13 (k + 1) (v + (r27 * r28.toInt64)) _ _ _ (by omega) hP hD hS (lv_sub hl [0, 1, 2, 3, 4] rfl)
                        refine lv_lookup (tgt := 239) (off := 103) hx hb dX7_told_136 (by decide) (show Op.lookupswitch.offset [(1, 36), (6, 61), (7, 82)] 103 wh.toInt = 103 from ((lv_osw c18 (by decide)).trans ((lv_osw c23 (by decide)).trans ((lv_osw c26 (by decide)).trans rfl)))) (by decide) ?_
                        refine lv_aload_n hx hb dX7_told_239 rfl (lv_at hl 3 rfl) ?_
                        refine lv_iload hx hb dX7_told_240 (lv_at hl 0 rfl) ?_
                        refine lv_iload_n hx hb dX7_told_242 rfl (lv_at hl 2 rfl) ?_
                        refine pu_i (va_runV (As := [.int (nI k), .int (nI (nowN fn n))]) (rest := []) ⟨hx, hb, hml, hown, hts⟩ (c_X7_byOrder l D cI cJ cZ m0 g1 g2 g3 g4 g5 g6 g7 g8 g9 g10 g11 g12 n q (nowN fn n) y mr ml (nI k) fp fs fo th (by first | assumption | omega) (by first | assumption | omega) (by first | assumption | omega) (by first | assumption | omega) (by first | assumption | omega) (by first | assumption | omega) (by first | assumption | omega)) (cwV 2 hts gX7_told_X7_byOrder rfl rfl rfl (by decide +kernel) ⟨Nat.le_of_ble_eq_true rfl, Nat.le_of_ble_eq_true rfl⟩) ⟨pc_blind, va_recv hK hP (ci := 7) (q0 := 0) rfl rfl, fun U hU hW => ⟨rfl, by rw [hU]; exact hP.sub (ws' := [(m0, .inr (7, [.int (nI n), .ref g1, .ref g2, .ref g3, .int mr, .ref g4, .int (nI y), .ref g5, .int (nI q), .ref g6, .int ml, .ref g7, .ref g8, .ref g9, .ref g10, .ref g11, .ref g12])), (g3, .inl (cI, 9, .inl fp)), (g4, .inl (cZ, 20480, .inl fs)), (g6, .inl (cI, 9, .inl fo)), (g12, .inl (cI, 9, .inl th))]) [0, 3, 4, 6, 7] rfl, hKN.warm hW⟩⟩ rfl rfl hl.1 rfl (lv_room (Nat.le_of_ble_eq_true rfl)) dX7_told_243 ⟨Nat.le_of_ble_eq_true rfl, Nat.le_of_ble_eq_true rfl⟩) hS hP (fun r29 H locs w29r hP hS => ?_)
                        have w29 : True := w29r
                        clear w29r
                        refine lv_istore (lv' := [(6, .int r29), (5, .int (nI k)), (3, .long v), (2, .int (nI (nowN fn n))), (0, .ref m0), (1, .int wh)]) hx hb dX7_told_246 hl (by decide) rfl (fun ls hl => ?_)
                        refine lv_iload hx hb dX7_told_248 (lv_at hl 0 rfl) ?_
                        refine lv_i2l hx hb dX7_told_250 rfl ?_
                        refine lv_lload_n hx hb dX7_told_251 rfl (lv_at hl 2 rfl) ?_
                        refine W.lcmp hx hb dX7_told_252 ?_
                        refine lv_if_le (tgt := 262) hx hb dX7_told_253 (by decide) (fun c30 => ?_) (fun c30 => ?_)
                        · skip
                          refine lv_lload_n hx hb dX7_told_262 rfl (lv_at hl 2 rfl) ?_
                          refine lv_lstore_n (lv' := [(3, .long v), (6, .int r29), (5, .int (nI k)), (2, .int (nI (nowN fn n))), (0, .ref m0), (1, .int wh)]) hx hb dX7_told_263 rfl hl (by decide) rfl (fun ls hl => ?_)
                          refine lv_goto (tgt := 267) hx hb dX7_told_264 (by decide) ?_
                          refine lv_iinc (v := nI (k + 1)) (lv' := [(5, .int (nI (k + 1))), (3, .long v), (6, .int r29), (2, .int (nI (nowN fn n))), (0, .ref m0), (1, .int wh)]) hx hb dX7_told_267 hl (k := 2) rfl (nI_1 k) (by decide) rfl (fun ls hl => ?_)
                          refine lv_goto (tgt := 113) hx hb dX7_told_270 (by decide) ?_
                          exact ih13 (k + 1) v _ _ _ (by omega) hP hD hS (lv_sub hl [0, 1, 3, 4, 5] rfl)
                        · skip
                          refine lv_iload hx hb dX7_told_256 (lv_at hl 0 rfl) ?_
                          refine lv_i2l hx hb dX7_told_258 rfl ?_
                          refine lv_goto (tgt := 263) hx hb dX7_told_259 (by decide) ?_
                          refine lv_lstore_n (lv' := [(3, .long r29.toInt64), (6, .int r29), (5, .int (nI k)), (2, .int (nI (nowN fn n))), (0, .ref m0), (1, .int wh)]) hx hb dX7_told_263 rfl hl (by decide) rfl (fun ls hl => ?_)
                          refine lv_goto (tgt := 267) hx hb dX7_told_264 (by decide) ?_
                          refine lv_iinc (v := nI (k + 1)) (lv' := [(5, .int (nI (k + 1))), (3, .long r29.toInt64), (6, .int r29), (2, .int (nI (nowN fn n))), (0, .ref m0), (1, .int wh)]) hx hb dX7_told_267 hl (k := 2) rfl (nI_1 k) (by decide) rfl (fun ls hl => ?_)
                          refine lv_goto (tgt := 113) hx hb dX7_told_270 (by decide) ?_
                          exact ih13 (k + 1) r29.toInt64 _ _ _ (by omega) hP hD hS (lv_sub hl [0, 1, 3, 4, 5] rfl)
                      · exact absurd c17 (by first | decide | exact nz_lt (by omega) | exact fun h => h (nz_ge (by omega)))
                    · skip
                      refine lv_if_ne (tgt := 135) hx hb dX7_told_129 (by decide) (fun c31 => ?_) (fun c31 => ?_)
                      · exact absurd c31 (by first | decide | exact nz_lt (by omega) | exact fun h => h (nz_ge (by omega)))
                      · skip
                        refine lv_goto (tgt := 267) hx hb dX7_told_132 (by decide) ?_
                        refine lv_iinc (v := nI (k + 1)) (lv' := [(5, .int (nI (k + 1))), (3, .long v), (2, .int (nI (nowN fn n))), (0, .ref m0), (1, .int wh)]) hx hb dX7_told_267 hl (k := 0) rfl (nI_1 k) (by decide) rfl (fun ls hl => ?_)
                        refine lv_goto (tgt := 113) hx hb dX7_told_270 (by decide) ?_
                        exact ih13 (k + 1) v _ _ _ (by omega) hP hD hS (lv_sub hl [0, 1, 2, 3, 4] rfl)
              exact loop13 (2 ^ n + 1) 0 (lN 0) _ _ _ (by omega) hP hD hS (lv_sub hl [0, 1, 2, 3, 4] rfl)
            · exact absurd c12 (by first | decide | exact nz_lt (by omega) | exact fun h => h (nz_ge (by omega)))
        · exact absurd c5 (by first | decide | exact nz_lt (by omega) | exact fun h => h (nz_ge (by omega)))
      · skip
        refine lv_if_ne (tgt := 38) hx hb dX7_told_31 (by decide) (fun c32 => ?_) (fun c32 => ?_)
        · exact absurd c32 (by first | decide | exact nz_lt (by omega) | exact fun h => h (nz_ge (by omega)))
        · skip
          refine lv_ldc2 (v := (-2 : Int64)) hx hb hown (hts (.constantLong RX7 132 (-2 : Int64)) (by decide +kernel)) dX7_told_34 ?_
          rw [← hQ]
          exact W.lret (v := (-2 : Int64)) hx hb hr (fun tS htS hWS => ⟨⟨(-2 : Int64), (eb, en, ew, ex), rfl, trivial, m_at htS hP⟩, by rw [← has]; exact hS.F htS⟩) (by rw [← has]; exact hS.2.2) dX7_told_37
  · skip
    refine lv_aload_n hx hb dX7_told_9 rfl (lv_at hl 1 rfl) ?_
    refine lv_iload_n hx hb dX7_told_10 rfl (lv_at hl 0 rfl) ?_
    refine pu_l (va_runV (As := [.int (nI (nowN fn n))]) (rest := []) ⟨hx, hb, hml, hown, hts⟩ (c_X7_left l D cI cJ cZ m0 g1 g2 g3 g4 g5 g6 g7 g8 g9 g10 g11 g12 n mr (nI y) (nI q) ml (nI (nowN fn n)) fg fb th (by first | assumption | omega) (by intro z hz; exact m_th0 (hth z hz) hz)) (cwV 1 hts gX7_told_X7_left rfl rfl rfl (by decide +kernel) ⟨Nat.le_of_ble_eq_true rfl, Nat.le_of_ble_eq_true rfl⟩) ⟨pc_blind, va_recv hK hP (ci := 7) (q0 := 0) rfl rfl, fun U hU hW => ⟨rfl, by rw [hU]; exact hP.sub (ws' := [(m0, .inr (7, [.int (nI n), .ref g1, .ref g2, .ref g3, .int mr, .ref g4, .int (nI y), .ref g5, .int (nI q), .ref g6, .int ml, .ref g7, .ref g8, .ref g9, .ref g10, .ref g11, .ref g12])), (g1, .inl (cI, 9, .inl fg)), (g2, .inl (cI, 9, .inl fb)), (g12, .inl (cI, 9, .inl th))]) [0, 1, 2, 7] rfl, hKN.warm hW⟩⟩ rfl rfl hl.1 rfl (lv_room (Nat.le_of_ble_eq_true rfl)) dX7_told_11 ⟨Nat.le_of_ble_eq_true rfl, Nat.le_of_ble_eq_true rfl⟩) hS hP (fun r33 H locs w33r hP hS => ?_)
    have w33 : r33 = mlf fg fb th (nI (nowN fn n)) n := w33r
    clear w33r
    rw [← hQ]
    exact W.lret (v := r33) hx hb hr (fun tS htS hWS => ⟨⟨r33, (eb, en, ew, ex), rfl, trivial, m_at htS hP⟩, by rw [← has]; exact hS.F htS⟩) (by rw [← has]; exact hS.2.2) dX7_told_14
