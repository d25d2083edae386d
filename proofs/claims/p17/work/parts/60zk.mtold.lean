def rm_c_X7_told_v : Room := { frames := 5, cells := 0, slots := 0, locals := 119 }
set_option maxHeartbeats 8000000 in
set_option maxRecDepth 100000 in
theorem c_X7_told_v (l : Launch) (D : va_G) (cI cJ cZ : ClassId) (m0 : Nat) (g1 : Nat) (g2 : Nat) (g3 : Nat) (g4 : Nat) (g5 : Nat) (g6 : Nat) (g7 : Nat) (g8 : Nat) (g9 : Nat) (g10 : Nat) (g11 : Nat) (g12 : Nat) (n : Nat) (y : Nat) (q : Nat) (mr : Int32) (ml : Int32) (wh : Int32) (fg : Nat → Int32) (fb : Nat → Int32) (fp : Nat → Int32) (fs : Nat → Int32) (fn : Nat → Int32) (fo : Nat → Int32) (th : Nat → Int32) (eb : Nat → Int64) (en : Nat → Int32) (ew : Nat → Int32) (ex : Nat → Int32) (Gn : Nat → Nat) (Bn : Nat → Nat) (Pn : Nat → Nat) (hn : n ≤ 9) (h1n : 1 ≤ n) (hy : y < 40) (hq : q ≤ 9) (hfo : ∀ z, z < q → ∃ x, x < n ∧ fo z = nI x) (hth : ∀ z, z < 9 → th z = nI (3 ^ z)) (h01 : T01 fs) (hvb : VB fg fb fp Gn Bn Pn) : Met l yX7_told wsX7_told rm_c_X7_told_v (pm_ D cI cJ cZ [.ref m0, .int wh] [(m0, .inr (7, [.int (nI n), .ref g1, .ref g2, .ref g3, .int mr, .ref g4, .int (nI y), .ref g5, .int (nI q), .ref g6, .int ml, .ref g7, .ref g8, .ref g9, .ref g10, .ref g11, .ref g12])), (g1, .inl (cI, 9, .inl fg)), (g2, .inl (cI, 9, .inl fb)), (g3, .inl (cI, 9, .inl fp)), (g4, .inl (cZ, 20480, .inl fs)), (g5, .inl (cI, 9, .inl fn)), (g6, .inl (cI, 9, .inl fo)), (g12, .inl (cI, 9, .inl th)), (g8, .inl (cJ, 19683, .inr (.inl eb))), (g9, .inl (cI, 19683, .inl en)), (g10, .inl (cI, 19683, .inl ew)), (g11, .inl (cI, 19683, .inl ex))]) (va_Ql (fun (r : Int64) (u : (Nat → Int64) × (Nat → Int32) × (Nat → Int32) × (Nat → Int32)) => (wh = 0 → r = mlf fg fb th (nI (nowN fn n)) n) ∧ (wh = nI 1 → SQ (fun t => SCH (nowN fn n) n (nI t) ∧ Sg fs y t) (fun t => mwt fg fb (nI t) n) (2 ^ n) r) ∧ (wh = nI 2 → (∀ z, z < 3 ^ n → RM (Sg fs y) n (fun c9 => mlf fg fb th (nI c9) n) fp u.1 u.2.1 u.2.2.1 u.2.2.2 z) ∧ r = u.1 (nowN fn n)) ∧ (wh = nI 3 → (∀ z, z < 3 ^ n → RM (Sg fs y) n (fun c9 => mlf fg fb th (nI c9) n) fp u.1 u.2.1 u.2.2.1 u.2.2.2 z) ∧ r = (u.2.1 (nowN fn n)).toInt64) ∧ (wh = nI 4 → (∀ z, z < 3 ^ n → RM (Sg fs y) n (fun c9 => mlf fg fb th (nI c9) n) fp u.1 u.2.1 u.2.2.1 u.2.2.2 z) ∧ r = (u.2.2.1 (nowN fn n)).toInt64) ∧ (wh = nI 5 → (∀ z, z < 3 ^ n → RM (Sg fs y) n (fun c9 => mlf fg fb th (nI c9) n) fp u.1 u.2.1 u.2.2.1 u.2.2.2 z) ∧ r = (u.2.2.2 (nowN fn n)).toInt64) ∧ (wh = nI 6 → SR (fun t => SCH (nowN fn n) n (nI t)) (fun t x => ∃ w : Int32, x = mwt fg fb (nI t) n * w.toInt64 ∧ SHW (Sg fs y) n (nowN fn n) (nI t) fp (2 ^ n) w) (2 ^ n) r) ∧ (wh = nI 7 → SR (fun t => SCH (nowN fn n) n (nI t)) (fun t x => ∃ w : Int32, x = mwt fg fb (nI t) n * w.toInt64 ∧ BO fo q n (US (Sg fs y) n 1 2) fp (nowN fn n) t w) (2 ^ n) r) ∧ (wh = nI 8 → MXK (fun t => SCH (nowN fn n) n (nI t)) (BO fo q n (US (Sg fs y) n 1 2) fp (nowN fn n)) (2 ^ n) r) ∧ ((¬ wh = 0 ∧ (wh.toInt < 1 ∨ 8 < wh.toInt)) → r = -2)) (fun (u : (Nat → Int64) × (Nat → Int32) × (Nat → Int32) × (Nat → Int32)) tS => va_P D vwCl [(m0, .inr (7, [.int (nI n), .ref g1, .ref g2, .ref g3, .int mr, .ref g4, .int (nI y), .ref g5, .int (nI q), .ref g6, .int ml, .ref g7, .ref g8, .ref g9, .ref g10, .ref g11, .ref g12])), (g1, .inl (cI, 9, .inl fg)), (g2, .inl (cI, 9, .inl fb)), (g3, .inl (cI, 9, .inl fp)), (g4, .inl (cZ, 20480, .inl fs)), (g5, .inl (cI, 9, .inl fn)), (g6, .inl (cI, 9, .inl fo)), (g12, .inl (cI, 9, .inl th)), (g8, .inl (cJ, 19683, .inr (.inl u.1))), (g9, .inl (cI, 19683, .inl u.2.1)), (g10, .inl (cI, 19683, .inl u.2.2.1)), (g11, .inl (cI, 19683, .inl u.2.2.2))] tS.heap) (aA [m0, g1, g2, g3, g4, g5, g6, g12, g8, g9, g10, g11])) 0 0 (aA [m0, g1, g2, g3, g4, g5, g6, g12, g8, g9, g10, g11]) := by
  refine Met.ofW (cc := cX7_told) (maxL := 7) (ret := (some .long)) (by decide) rfl ?_
  intro p e s m args below meth c s₁ B hml hv
  obtain ⟨rfl, hP, hKN, hD0⟩ := hv
  have hK := hKN.1
  have hx := B.exec
  have hb := B.bytes
  have hr := B.returns
  have hts := atoms_spec (ws := wsX7_told) B.pre
  have hown : s.vm.findClass RX7 = some m.cls := findClass_of_methodNamed B.named
  have hlocks := B.notSynchronized
  have hiX7 : ∀ w ∈ wsX70, w ∈ wsX7_told := by decide +kernel
  have hf27 := hts (.fieldLink RX7 27 "LookBenchModel" "system" "I") (by decide +kernel)
  have hf39 := hts (.fieldLink RX7 39 "LookBenchModel" "best" "[J") (by decide +kernel)
  have hf43 := hts (.fieldLink RX7 43 "LookBenchModel" "bestNext" "[I") (by decide +kernel)
  have hf46 := hts (.fieldLink RX7 46 "LookBenchModel" "worst" "[I") (by decide +kernel)
  have hf49 := hts (.fieldLink RX7 49 "LookBenchModel" "worstNext" "[I") (by decide +kernel)
  obtain ⟨as, has⟩ : ∃ z : List Nat, z = [m0, g1, g2, g3, g4, g5, g6, g12, g8, g9, g10, g11] := ⟨_, rfl⟩
  have hD := hD0.addr (as := as) (by rw [has]; rfl)
  have hS : va_S (aA as) s.heap s.heap [] := va_S.rf
  have hl := lv_entry ([.ref m0, .int wh]) (n := 7) (Nat.le_of_ble_eq_true rfl)
  rw [lg_entry_eq]
  generalize (lg_sl ([.ref m0, .int wh]) ++ List.replicate (7 - (lg_sl ([.ref m0, .int wh])).length) Slot.unset).toArray = ls at hl ⊢
  have hl : lv_has ls 7 [(0, .ref m0), (1, .int wh)] := hl
  generalize hQ : MQ below _ _ s _ _ _ = Q
  obtain ⟨H, hH⟩ : ∃ z, z = s.heap := ⟨_, rfl⟩
  have hP : va_P D vwCl [(m0, .inr (7, [.int (nI n), .ref g1, .ref g2, .ref g3, .int mr, .ref g4, .int (nI y), .ref g5, .int (nI q), .ref g6, .int ml, .ref g7, .ref g8, .ref g9, .ref g10, .ref g11, .ref g12])), (g1, .inl (cI, 9, .inl fg)), (g2, .inl (cI, 9, .inl fb)), (g3, .inl (cI, 9, .inl fp)), (g4, .inl (cZ, 20480, .inl fs)), (g5, .inl (cI, 9, .inl fn)), (g6, .inl (cI, 9, .inl fo)), (g12, .inl (cI, 9, .inl th)), (g8, .inl (cJ, 19683, .inr (.inl eb))), (g9, .inl (cI, 19683, .inl en)), (g10, .inl (cI, 19683, .inl ew)), (g11, .inl (cI, 19683, .inl ex))] H := by rw [hH]; exact hP
  have hS : va_S (aA as) s.heap H [] := by rw [hH]; exact hS
  refine m_heap hH ?_
  clear hH
  have h2n := m_pow hn
  have h2p := m_powp n
  have h3n := m_p3 hn
  have hnl := nowN_lt fn n
  refine lv_aload_n hx hb dX7_told_0 rfl (lv_at hl 0 rfl) ?_
  refine pu_i (va_runV (As := []) (rest := []) ⟨hx, hb, hml, hown, hts⟩ (c_X7_now_g l D cI cJ cZ m0 g1 g2 g3 g4 g5 g6 g7 g8 g9 g10 g11 g12 n mr (nI y) (nI q) ml fn th (by first | assumption | omega) (by first | assumption | omega)) (cwV 0 hts gX7_told_X7_now rfl rfl rfl (by decide +kernel) ⟨Nat.le_of_ble_eq_true rfl, Nat.le_of_ble_eq_true rfl⟩) ⟨pc_blind, va_recv hK hP (ci := 7) (q0 := 0) rfl rfl, fun U hU hW => ⟨rfl, by rw [hU]; exact hP.sub (ws' := [(m0, .inr (7, [.int (nI n), .ref g1, .ref g2, .ref g3, .int mr, .ref g4, .int (nI y), .ref g5, .int (nI q), .ref g6, .int ml, .ref g7, .ref g8, .ref g9, .ref g10, .ref g11, .ref g12])), (g5, .inl (cI, 9, .inl fn)), (g12, .inl (cI, 9, .inl th))]) [0, 5, 7] rfl, hKN.warm hW⟩⟩ rfl rfl hl.1 rfl (lv_room (Nat.le_of_ble_eq_true rfl)) dX7_told_1 ⟨Nat.le_of_ble_eq_true rfl, Nat.le_of_ble_eq_true rfl⟩) hS hP (fun r1 H locs w1r hP hS => ?_)
  have w1 : r1 = nI (nowN fn n) := w1r
  clear w1r
  obtain rfl : r1 = nI (nowN fn n) := w1
  refine lv_istore_n (lv' := [(2, .int (nI (nowN fn n))), (0, .ref m0), (1, .int wh)]) hx hb dX7_told_4 rfl hl (by decide) rfl (fun ls hl => ?_)
  refine lv_iload_n hx hb dX7_told_5 rfl (lv_at hl 2 rfl) ?_
  refine lv_if_ne (tgt := 15) hx hb dX7_told_6 (by decide) (fun c2 => ?_) (fun c2 => ?_)
  · skip
    have n9 := c2
    refine lv_aload_n hx hb dX7_told_15 rfl (lv_at hl 1 rfl) ?_
    refine va_get (D := D) (ci := 7) (v := .int (nI y)) (C := RX7) (T := TX7) (N := 17) hx hb hts hiX7 hown hK hP 0 rfl rfl 6 (by decide) hf27 (fun _ h9 => h9) rfl dX7_told_16 ?_
    refine lv_if_lt (tgt := 34) hx hb dX7_told_19 (by decide) (fun c3 => ?_) (fun c3 => ?_)
    · exact absurd c3 (by first | decide | exact nz_lt (by omega) | exact fun h => h (nz_ge (by omega)))
    · skip
      refine lv_iload_n hx hb dX7_told_22 rfl (lv_at hl 2 rfl) ?_
      refine lv_i2l hx hb dX7_told_23 rfl ?_
      refine lv_lconst (v := lN 1) hx hb dX7_told_24 (by decide) ?_
      refine lv_ldc2 (v := lN 8) hx hb hown (hts (.constantLong RX7 130 (lN 8)) (by decide +kernel)) dX7_told_25 ?_
      refine pu_i (va_runS (As := [.long wh.toInt64, .long (lN 1), .long (lN 8)]) (rest := []) ⟨hx, hb, hml, hown, hts⟩ (c_X7_in l D cI cJ cZ wh.toInt64 (lN 1) (lN 8)) (va_cwS 3 hts gX7_told_X7_in rfl rfl rfl (by decide +kernel) ⟨Nat.le_of_ble_eq_true rfl, Nat.le_of_ble_eq_true rfl⟩) ⟨pc_blind, fun U hU hW => ⟨rfl, by rw [hU]; exact hP.sub (ws' := []) [] rfl, hKN.warm hW⟩⟩ rfl rfl hl.1 rfl (lv_room (Nat.le_of_ble_eq_true rfl)) dX7_told_28 ⟨Nat.le_of_ble_eq_true rfl, Nat.le_of_ble_eq_true rfl⟩) hS hP (fun r4 H locs w4r hP hS => ?_)
      have w4 : B01 r4 ((lN 1).toInt ≤ wh.toInt64.toInt ∧ wh.toInt64.toInt ≤ (lN 8).toInt) := w4r
      clear w4r
      rw [lN_toInt (n := 1) (by omega), j2 wh, lN_toInt (n := 8) (by omega)] at w4
      rcases w4 with ⟨rfl, w4⟩ | ⟨rfl, w4⟩
      · skip
        have hin := w4
        refine lv_if_ne (tgt := 38) hx hb dX7_told_31 (by decide) (fun c5 => ?_) (fun c5 => ?_)
        · skip
          rcases m_t18 (x := wh) (by omega) with rfl | rfl | rfl | rfl | rfl | rfl | rfl | rfl
          · skip
            refine lv_iload_n hx hb dX7_told_38 rfl (lv_at hl 2 rfl) ?_
            refine lv_i2l hx hb dX7_told_39 rfl ?_
            refine cn_l (y := lN 1) (nI_l (by omega)) ?_
            refine lv_ldc2 (v := lN 2) hx hb hown (hts (.constantLong RX7 134 (lN 2)) (by decide +kernel)) dX7_told_40 ?_
            refine lv_ldc2 (v := lN 5) hx hb hown (hts (.constantLong RX7 136 (lN 5)) (by decide +kernel)) dX7_told_43 ?_
            refine pu_i (va_runS (As := [.long (lN 1), .long (lN 2), .long (lN 5)]) (rest := []) ⟨hx, hb, hml, hown, hts⟩ (c_X7_in l D cI cJ cZ (lN 1) (lN 2) (lN 5)) (va_cwS 3 hts gX7_told_X7_in rfl rfl rfl (by decide +kernel) ⟨Nat.le_of_ble_eq_true rfl, Nat.le_of_ble_eq_true rfl⟩) ⟨pc_blind, fun U hU hW => ⟨rfl, by rw [hU]; exact hP.sub (ws' := []) [] rfl, hKN.warm hW⟩⟩ rfl rfl hl.1 rfl (lv_room (Nat.le_of_ble_eq_true rfl)) dX7_told_46 ⟨Nat.le_of_ble_eq_true rfl, Nat.le_of_ble_eq_true rfl⟩) hS hP (fun r6 H locs w6r hP hS => ?_)
            have w6 : B01 r6 ((lN 2).toInt ≤ (lN 1).toInt ∧ (lN 1).toInt ≤ (lN 5).toInt) := w6r
            clear w6r
            rw [lN_toInt (n := 2) (by omega), lN_toInt (n := 1) (by omega), lN_toInt (n := 5) (by omega)] at w6
            rcases w6 with ⟨rfl, w6⟩ | ⟨rfl, w6⟩
            · exact absurd w6 (by omega)
            · skip
              refine lv_if_eq (tgt := 108) hx hb dX7_told_49 (by decide) (fun c7 => ?_) (fun c7 => ?_)
              · skip
                refine lv_lconst (v := lN 0) hx hb dX7_told_108 (by decide) ?_
                refine lv_lstore_n (lv' := [(3, .long (lN 0)), (2, .int (nI (nowN fn n))), (0, .ref m0), (1, .int (nI 1))]) hx hb dX7_told_109 rfl hl (by decide) rfl (fun ls hl => ?_)
                refine lv_iconst (v := nI 0) hx hb dX7_told_110 (by decide) ?_
                refine lv_istore (lv' := [(5, .int (nI 0)), (3, .long (lN 0)), (2, .int (nI (nowN fn n))), (0, .ref m0), (1, .int (nI 1))]) hx hb dX7_told_111 hl (by decide) rfl (fun ls hl => ?_)
                have loop8 : ∀ (fu : Nat) (k : Nat) (v : Int64) (H : Heap) (locs : List Loc) (ls : Array Slot), (k ≤ 2 ^ n ∧ 2 ^ n < k + fu) → (SQ (fun t => SCH (nowN fn n) n (nI t) ∧ Sg fs y t) (fun t => mwt fg fb (nI t) n) k v) → va_P D vwCl [(m0, .inr (7, [.int (nI n), .ref g1, .ref g2, .ref g3, .int mr, .ref g4, .int (nI y), .ref g5, .int (nI q), .ref g6, .int ml, .ref g7, .ref g8, .ref g9, .ref g10, .ref g11, .ref g12])), (g1, .inl (cI, 9, .inl fg)), (g2, .inl (cI, 9, .inl fb)), (g3, .inl (cI, 9, .inl fp)), (g4, .inl (cZ, 20480, .inl fs)), (g5, .inl (cI, 9, .inl fn)), (g6, .inl (cI, 9, .inl fo)), (g12, .inl (cI, 9, .inl th)), (g8, .inl (cJ, 19683, .inr (.inl eb))), (g9, .inl (cI, 19683, .inl en)), (g10, .inl (cI, 19683, .inl ew)), (g11, .inl (cI, 19683, .inl ex))] H → va_D (aA as) [(m0, .inr (7, [.int (nI n), .ref g1, .ref g2, .ref g3, .int mr, .ref g4, .int (nI y), .ref g5, .int (nI q), .ref g6, .int ml, .ref g7, .ref g8, .ref g9, .ref g10, .ref g11, .ref g12])), (g1, .inl (cI, 9, .inl fg)), (g2, .inl (cI, 9, .inl fb)), (g3, .inl (cI, 9, .inl fp)), (g4, .inl (cZ, 20480, .inl fs)), (g5, .inl (cI, 9, .inl fn)), (g6, .inl (cI, 9, .inl fo)), (g12, .inl (cI, 9, .inl th)), (g8, .inl (cJ, 19683, .inr (.inl eb))), (g9, .inl (cI, 19683, .inl en)), (g10, .inl (cI, 19683, .inl ew)), (g11, .inl (cI, 19683, .inl ex))] → va_S (aA as) s.heap H locs → lv_has ls 7 [(5, .int (nI k)), (3, .long v), (2, .int (nI (nowN fn n))), (0, .ref m0), (1, .int (nI 1))] → W p l e (headSpec wsX7_told rm_c_X7_told_v).room s m ([.ref m0, .int (nI 1)] : List Value).toArray below meth c H locs 0 0 Q (F0 m 113 ls []) := by
                  intro fu
                  induction fu with
                  | zero => intro k v H locs ls hk hSq; exact absurd hk (by omega)
                  | succ fu ih8 =>
                    intro k v H locs ls hk hSq hP hD hS hl
                    refine lv_iload hx hb dX7_told_113 (lv_at hl 0 rfl) ?_
                    refine lv_aload_n hx hb dX7_told_115 rfl (lv_at hl 3 rfl) ?_
                    refine pu_i (va_runV (As := []) (rest := [.int (nI k)]) ⟨hx, hb, hml, hown, hts⟩ (c_X7_settings l D cI cJ cZ m0 g1 g2 g3 g4 g5 g6 g7 g8 g9 g10 g11 g12 n mr (nI y) (nI q) ml (by first | assumption | omega)) (cwV 0 hts gX7_told_X7_settings rfl rfl rfl (by decide +kernel) ⟨Nat.le_of_ble_eq_true rfl, Nat.le_of_ble_eq_true rfl⟩) ⟨pc_blind, va_recv hK hP (ci := 7) (q0 := 0) rfl rfl, fun U hU hW => ⟨rfl, by rw [hU]; exact hP.sub (ws' := [(m0, .inr (7, [.int (nI n), .ref g1, .ref g2, .ref g3, .int mr, .ref g4, .int (nI y), .ref g5, .int (nI q), .ref g6, .int ml, .ref g7, .ref g8, .ref g9, .ref g10, .ref g11, .ref g12]))]) [0] rfl, hKN.warm hW⟩⟩ rfl rfl hl.1 rfl (lv_room (Nat.le_of_ble_eq_true rfl)) dX7_told_116 ⟨Nat.le_of_ble_eq_true rfl, Nat.le_of_ble_eq_true rfl⟩) hS hP (fun r9 H locs w9r hP hS => ?_)
                    have w9 : r9 = nI (2 ^ n) := w9r
                    clear w9r
                    obtain rfl : r9 = nI (2 ^ n) := w9
                    refine lv_icmp_ge (tgt := 273) hx hb dX7_told_119 (by decide) (fun c10 => ?_) (fun c10 => ?_)
                    · skip
                      have d10 := c10
                      rw [nI_leI (by omega) (by omega)] at d10
                      refine lv_lload_n hx hb dX7_told_273 rfl (lv_at hl 1 rfl) ?_
                      rw [← hQ]
                      exact W.lret (v := v) hx hb hr (fun tS htS hWS => ⟨⟨v, (eb, en, ew, ex), rfl, ⟨fun e => absurd e (by decide), fun _ => (show k = 2 ^ n by omega) ▸ hSq, fun e => absurd e (by decide), fun e => absurd e (by decide), fun e => absurd e (by decide), fun e => absurd e (by decide), fun e => absurd e (by decide), fun e => absurd e (by decide), fun e => absurd e (by decide), fun e => absurd e.2 (by decide)⟩, m_at htS hP⟩, by rw [← has]; exact hS.F htS⟩) (by rw [← has]; exact hS.2.2) dX7_told_274
                    · skip
                      have d10 := c10
                      rw [nI_leI (by omega) (by omega)] at d10
                      refine lv_aload_n hx hb dX7_told_122 rfl (lv_at hl 3 rfl) ?_
                      refine lv_iload hx hb dX7_told_123 (lv_at hl 0 rfl) ?_
                      refine lv_iload_n hx hb dX7_told_125 rfl (lv_at hl 2 rfl) ?_
                      refine pu_i (va_runV (As := [.int (nI k), .int (nI (nowN fn n))]) (rest := []) ⟨hx, hb, hml, hown, hts⟩ (c_X7_isSuch_v l D cI cJ cZ m0 g1 g2 g3 g4 g5 g6 g7 g8 g9 g10 g11 g12 n (nowN fn n) mr (nI y) (nI q) ml (nI k) th (by first | assumption | omega) (by first | assumption | omega) (by first | assumption | omega)) (cwV 2 hts gX7_told_X7_isSuch rfl rfl rfl (by decide +kernel) ⟨Nat.le_of_ble_eq_true rfl, Nat.le_of_ble_eq_true rfl⟩) ⟨pc_blind, va_recv hK hP (ci := 7) (q0 := 0) rfl rfl, fun U hU hW => ⟨rfl, by rw [hU]; exact hP.sub (ws' := [(m0, .inr (7, [.int (nI n), .ref g1, .ref g2, .ref g3, .int mr, .ref g4, .int (nI y), .ref g5, .int (nI q), .ref g6, .int ml, .ref g7, .ref g8, .ref g9, .ref g10, .ref g11, .ref g12])), (g12, .inl (cI, 9, .inl th))]) [0, 7] rfl, hKN.warm hW⟩⟩ rfl rfl hl.1 rfl (lv_room (Nat.le_of_ble_eq_true rfl)) dX7_told_126 ⟨Nat.le_of_ble_eq_true rfl, Nat.le_of_ble_eq_true rfl⟩) hS hP (fun r11 H locs w11r hP hS => ?_)
                      have w11 : B01 r11 (SCH (nowN fn n) n (nI k)) := w11r
                      clear w11r
                      rcases w11 with ⟨rfl, w11⟩ | ⟨rfl, w11⟩
                      · skip
                        have hfi := w11
                        refine lv_if_ne (tgt := 135) hx hb dX7_told_129 (by decide) (fun c12 => ?_) (fun c12 => ?_)
                        · skip
                          refine lv_iload_n hx hb dX7_told_135 rfl (lv_at hl 4 rfl) ?_
                          refine lv_lookup (tgt := 172) (off := 36) hx hb dX7_told_136 (by decide) (by decide) (by decide) ?_
                          refine lv_lload_n hx hb dX7_told_172 rfl (lv_at hl 1 rfl) ?_
                          refine lv_aload_n hx hb dX7_told_173 rfl (lv_at hl 3 rfl) ?_
                          refine lv_iload hx hb dX7_told_174 (lv_at hl 0 rfl) ?_
                          refine pu_i (va_runV (As := [.int (nI k)]) (rest := [.long v]) ⟨hx, hb, hml, hown, hts⟩ (c_X7_isGood l D cI cJ cZ m0 g1 g2 g3 g4 g5 g6 g7 g8 g9 g10 g11 g12 y k (nI n) mr (nI q) ml fs (by first | assumption | omega) (by first | assumption | omega) (by first | assumption | omega)) (cwV 1 hts gX7_told_X7_isGood rfl rfl rfl (by decide +kernel) ⟨Nat.le_of_ble_eq_true rfl, Nat.le_of_ble_eq_true rfl⟩) ⟨pc_blind, va_recv hK hP (ci := 7) (q0 := 0) rfl rfl, fun U hU hW => ⟨rfl, by rw [hU]; exact hP.sub (ws' := [(m0, .inr (7, [.int (nI n), .ref g1, .ref g2, .ref g3, .int mr, .ref g4, .int (nI y), .ref g5, .int (nI q), .ref g6, .int ml, .ref g7, .ref g8, .ref g9, .ref g10, .ref g11, .ref g12])), (g4, .inl (cZ, 20480, .inl fs))]) [0, 4] rfl, hKN.warm hW⟩⟩ rfl rfl hl.1 rfl (lv_room (Nat.le_of_ble_eq_true rfl)) dX7_told_176 ⟨Nat.le_of_ble_eq_true rfl, Nat.le_of_ble_eq_true rfl⟩) hS hP (fun r13 H locs w13r hP hS => ?_)
                          have w13 : B01 r13 (Sg fs y k) := w13r
                          clear w13r
                          rcases w13 with ⟨rfl, w13⟩ | ⟨rfl, w13⟩
                          · skip
                            have hg1 := w13
                            refine lv_if_eq (tgt := 191) hx hb dX7_told_179 (by decide) (fun c14 => ?_) (fun c14 => ?_)
                            · exact absurd c14 (by first | decide | exact nz_lt (by omega) | exact fun h => h (nz_ge (by omega)))
                            · skip
                              refine lv_aload_n hx hb dX7_told_182 rfl (lv_at hl 3 rfl) ?_
                              refine lv_iload hx hb dX7_told_183 (lv_at hl 0 rfl) ?_
                              refine pu_l (va_runV (As := [.int (nI k)]) (rest := [.long v]) ⟨hx, hb, hml, hown, hts⟩ (c_X7_weight_v l D cI cJ cZ m0 g1 g2 g3 g4 g5 g6 g7 g8 g9 g10 g11 g12 n mr (nI y) (nI q) ml (nI k) fg fb (by first | assumption | omega)) (cwV 1 hts gX7_told_X7_weight rfl rfl rfl (by decide +kernel) ⟨Nat.le_of_ble_eq_true rfl, Nat.le_of_ble_eq_true rfl⟩) ⟨pc_blind, va_recv hK hP (ci := 7) (q0 := 0) rfl rfl, fun U hU hW => ⟨rfl, by rw [hU]; exact hP.sub (ws' := [(m0, .inr (7, [.int (nI n), .ref g1, .ref g2, .ref g3, .int mr, .ref g4, .int (nI y), .ref g5, .int (nI q), .ref g6, .int ml, .ref g7, .ref g8, .ref g9, .ref g10, .ref g11, .ref g12])), (g1, .inl (cI, 9, .inl fg)), (g2, .inl (cI, 9, .inl fb))]) [0, 1, 2] rfl, hKN.warm hW⟩⟩ rfl rfl hl.1 rfl (lv_room (Nat.le_of_ble_eq_true rfl)) dX7_told_185 ⟨Nat.le_of_ble_eq_true rfl, Nat.le_of_ble_eq_true rfl⟩) hS hP (fun r15 H locs w15r hP hS => ?_)
                              have w15 : r15 = mwt fg fb (nI k) n := w15r
                              clear w15r
                              obtain rfl : r15 = mwt fg fb (nI k) n := w15
                              refine lv_goto (tgt := 192) hx hb dX7_told_188 (by decide) ?_
                              refine lv_ladd hx hb dX7_told_192 ?_
                              refine lv_lstore_n (lv' := [(3, .long (v + (mwt fg fb (nI k) n))), (5, .int (nI k)), (2, .int (nI (nowN fn n))), (0, .ref m0), (1, .int (nI 1))]) hx hb dX7_told_193 rfl hl (by decide) rfl (fun ls hl => ?_)
                              refine lv_goto (tgt := 267) hx hb dX7_told_194 (by decide) ?_
                              refine lv_iinc (v := nI (k + 1)) (lv' := [(5, .int (nI (k + 1))), (3, .long (v + (mwt fg fb (nI k) n))), (2, .int (nI (nowN fn n))), (0, .ref m0), (1, .int (nI 1))]) hx hb dX7_told_267 hl (k := 1) rfl (nI_1 k) (by decide) rfl (fun ls hl => ?_)
                              refine lv_goto (tgt := 113) hx hb dX7_told_270 (by decide) ?_
                              exact ih8 (k + 1) (v + (mwt fg fb (nI k) n)) _ _ _ (by omega) (by first | exact Or.inl ⟨⟨hfi, hg1⟩, v, rfl, hSq⟩ | exact Or.inr ⟨fun h => hfi h.1, hSq⟩ | (rw [lN0, Int64.add_zero]; exact Or.inr ⟨fun h => hg1 h.2, hSq⟩)) hP hD hS (lv_sub hl [0, 1, 2, 3, 4] rfl)
                          · skip
                            have hg1 := w13
                            refine lv_if_eq (tgt := 191) hx hb dX7_told_179 (by decide) (fun c16 => ?_) (fun c16 => ?_)
                            · skip
                              refine lv_lconst (v := lN 0) hx hb dX7_told_191 (by decide) ?_
                              refine lv_ladd hx hb dX7_told_192 ?_
                              refine lv_lstore_n (lv' := [(3, .long (v + (lN 0))), (5, .int (nI k)), (2, .int (nI (nowN fn n))), (0, .ref m0), (1, .int (nI 1))]) hx hb dX7_told_193 rfl hl (by decide) rfl (fun ls hl => ?_)
                              refine lv_goto (tgt := 267) hx hb dX7_told_194 (by decide) ?_
                              refine lv_iinc (v := nI (k + 1)) (lv' := [(5, .int (nI (k + 1))), (3, .long (v + (lN 0))), (2, .int (nI (nowN fn n))), (0, .ref m0), (1, .int (nI 1))]) hx hb dX7_told_267 hl (k := 1) rfl (nI_1 k) (by decide) rfl (fun ls hl => ?_)
                              refine lv_goto (tgt := 113) hx hb dX7_told_270 (by decide) ?_
                              exact ih8 (k + 1) (v + (lN 0)) _ _ _ (by omega) (by first | exact Or.inl ⟨⟨hfi, hg1⟩, v, rfl, hSq⟩ | exact Or.inr ⟨fun h => hfi h.1, hSq⟩ | (rw [lN0, Int64.add_zero]; exact Or.inr ⟨fun h => hg1 h.2, hSq⟩)) hP hD hS (lv_sub hl [0, 1, 2, 3, 4] rfl)
                            · exact absurd c16 (by first | decide | exact nz_lt (by omega) | exact fun h => h (nz_ge (by omega)))
                        · exact absurd c12 (by first | decide | exact nz_lt (by omega) | exact fun h => h (nz_ge (by omega)))
                      · skip
                        have hfi := w11
                        refine lv_if_ne (tgt := 135) hx hb dX7_told_129 (by decide) (fun c17 => ?_) (fun c17 => ?_)
                        · exact absurd c17 (by first | decide | exact nz_lt (by omega) | exact fun h => h (nz_ge (by omega)))
                        · skip
                          refine lv_goto (tgt := 267) hx hb dX7_told_132 (by decide) ?_
                          refine lv_iinc (v := nI (k + 1)) (lv' := [(5, .int (nI (k + 1))), (3, .long v), (2, .int (nI (nowN fn n))), (0, .ref m0), (1, .int (nI 1))]) hx hb dX7_told_267 hl (k := 0) rfl (nI_1 k) (by decide) rfl (fun ls hl => ?_)
                          refine lv_goto (tgt := 113) hx hb dX7_told_270 (by decide) ?_
                          exact ih8 (k + 1) v _ _ _ (by omega) (by first | exact Or.inl ⟨⟨hfi, hg1⟩, v, rfl, hSq⟩ | exact Or.inr ⟨fun h => hfi h.1, hSq⟩ | (rw [lN0, Int64.add_zero]; exact Or.inr ⟨fun h => hg1 h.2, hSq⟩)) hP hD hS (lv_sub hl [0, 1, 2, 3, 4] rfl)
                exact loop8 (2 ^ n + 1) 0 (lN 0) _ _ _ (by omega) rfl hP hD hS (lv_sub hl [0, 1, 2, 3, 4] rfl)
              · exact absurd c7 (by first | decide | exact nz_lt (by omega) | exact fun h => h (nz_ge (by omega)))
          · skip
            refine lv_iload_n hx hb dX7_told_38 rfl (lv_at hl 2 rfl) ?_
            refine lv_i2l hx hb dX7_told_39 rfl ?_
            refine cn_l (y := lN 2) (nI_l (by omega)) ?_
            refine lv_ldc2 (v := lN 2) hx hb hown (hts (.constantLong RX7 134 (lN 2)) (by decide +kernel)) dX7_told_40 ?_
            refine lv_ldc2 (v := lN 5) hx hb hown (hts (.constantLong RX7 136 (lN 5)) (by decide +kernel)) dX7_told_43 ?_
            refine pu_i (va_runS (As := [.long (lN 2), .long (lN 2), .long (lN 5)]) (rest := []) ⟨hx, hb, hml, hown, hts⟩ (c_X7_in l D cI cJ cZ (lN 2) (lN 2) (lN 5)) (va_cwS 3 hts gX7_told_X7_in rfl rfl rfl (by decide +kernel) ⟨Nat.le_of_ble_eq_true rfl, Nat.le_of_ble_eq_true rfl⟩) ⟨pc_blind, fun U hU hW => ⟨rfl, by rw [hU]; exact hP.sub (ws' := []) [] rfl, hKN.warm hW⟩⟩ rfl rfl hl.1 rfl (lv_room (Nat.le_of_ble_eq_true rfl)) dX7_told_46 ⟨Nat.le_of_ble_eq_true rfl, Nat.le_of_ble_eq_true rfl⟩) hS hP (fun r18 H locs w18r hP hS => ?_)
            have w18 : B01 r18 ((lN 2).toInt ≤ (lN 2).toInt ∧ (lN 2).toInt ≤ (lN 5).toInt) := w18r
            clear w18r
            rw [lN_toInt (n := 2) (by omega), lN_toInt (n := 5) (by omega)] at w18
            rcases w18 with ⟨rfl, w18⟩ | ⟨rfl, w18⟩
            · skip
              refine lv_if_eq (tgt := 108) hx hb dX7_told_49 (by decide) (fun c19 => ?_) (fun c19 => ?_)
              · exact absurd c19 (by first | decide | exact nz_lt (by omega) | exact fun h => h (nz_ge (by omega)))
              · skip
                refine lv_aload_n hx hb dX7_told_52 rfl (lv_at hl 1 rfl) ?_
                refine mu2_v (n := 12) (wc := [(m0, .inr (7, [.int (nI n), .ref g1, .ref g2, .ref g3, .int mr, .ref g4, .int (nI y), .ref g5, .int (nI q), .ref g6, .int ml, .ref g7, .ref g8, .ref g9, .ref g10, .ref g11, .ref g12])), (g1, .inl (cI, 9, .inl fg)), (g2, .inl (cI, 9, .inl fb)), (g3, .inl (cI, 9, .inl fp)), (g4, .inl (cZ, 20480, .inl fs)), (g12, .inl (cI, 9, .inl th)), (g8, .inl (cJ, 19683, .inr (.inl eb))), (g9, .inl (cI, 19683, .inl en)), (g10, .inl (cI, 19683, .inl ew)), (g11, .inl (cI, 19683, .inl ex))]) (wr := [(g5, .inl (cI, 9, .inl fn)), (g6, .inl (cI, 9, .inl fo))]) (as0 := [m0, g1, g2, g3, g4, g5, g6, g12, g8, g9, g10, g11]) (va_runV (As := []) (rest := []) ⟨hx, hb, hml, hown, hts⟩ (c_X7_plans_v l D cI cJ cZ m0 g1 g2 g3 g4 g5 g6 g7 g8 g9 g10 g11 g12 n y mr (nI q) ml fg fb fp fs th eb en ew ex (by first | assumption | omega) (by first | assumption | omega) (by first | assumption | omega) (by first | assumption | omega) (by first | assumption | omega)) (cwV 0 hts gX7_told_X7_plans rfl rfl rfl (by decide +kernel) ⟨Nat.le_of_ble_eq_true rfl, Nat.le_of_ble_eq_true rfl⟩) ⟨pm_blind, va_recv hK hP (ci := 7) (q0 := 0) rfl rfl, fun U hU hW => ⟨rfl, by rw [hU]; exact hP.sub (ws' := [(m0, .inr (7, [.int (nI n), .ref g1, .ref g2, .ref g3, .int mr, .ref g4, .int (nI y), .ref g5, .int (nI q), .ref g6, .int ml, .ref g7, .ref g8, .ref g9, .ref g10, .ref g11, .ref g12])), (g1, .inl (cI, 9, .inl fg)), (g2, .inl (cI, 9, .inl fb)), (g3, .inl (cI, 9, .inl fp)), (g4, .inl (cZ, 20480, .inl fs)), (g12, .inl (cI, 9, .inl th)), (g8, .inl (cJ, 19683, .inr (.inl eb))), (g9, .inl (cI, 19683, .inl en)), (g10, .inl (cI, 19683, .inl ew)), (g11, .inl (cI, 19683, .inl ex))]) [0, 1, 2, 3, 4, 7, 8, 9, 10, 11] rfl, hKN.warm hW, (hD.sub (ws' := [(m0, .inr (7, [.int (nI n), .ref g1, .ref g2, .ref g3, .int mr, .ref g4, .int (nI y), .ref g5, .int (nI q), .ref g6, .int ml, .ref g7, .ref g8, .ref g9, .ref g10, .ref g11, .ref g12])), (g1, .inl (cI, 9, .inl fg)), (g2, .inl (cI, 9, .inl fb)), (g3, .inl (cI, 9, .inl fp)), (g4, .inl (cZ, 20480, .inl fs)), (g12, .inl (cI, 9, .inl th)), (g8, .inl (cJ, 19683, .inr (.inl eb))), (g9, .inl (cI, 19683, .inl en)), (g10, .inl (cI, 19683, .inl ew)), (g11, .inl (cI, 19683, .inl ex))]) [0, 1, 2, 3, 4, 7, 8, 9, 10, 11] (by decide) rfl).weaken (fun _ _ _ _ => trivial)⟩⟩ rfl rfl hl.1 rfl (lv_room (Nat.le_of_ble_eq_true rfl)) dX7_told_53 ⟨Nat.le_of_ble_eq_true rfl, Nat.le_of_ble_eq_true rfl⟩) hS hP hD (fun (u : (Nat → Int64) × (Nat → Int32) × (Nat → Int32) × (Nat → Int32)) => [(m0, .inr (7, [.int (nI n), .ref g1, .ref g2, .ref g3, .int mr, .ref g4, .int (nI y), .ref g5, .int (nI q), .ref g6, .int ml, .ref g7, .ref g8, .ref g9, .ref g10, .ref g11, .ref g12])), (g1, .inl (cI, 9, .inl fg)), (g2, .inl (cI, 9, .inl fb)), (g3, .inl (cI, 9, .inl fp)), (g4, .inl (cZ, 20480, .inl fs)), (g5, .inl (cI, 9, .inl fn)), (g6, .inl (cI, 9, .inl fo)), (g12, .inl (cI, 9, .inl th)), (g8, .inl (cJ, 19683, .inr (.inl u.1))), (g9, .inl (cI, 19683, .inl u.2.1)), (g10, .inl (cI, 19683, .inl u.2.2.1)), (g11, .inl (cI, 19683, .inl u.2.2.2))]) [0, 1, 2, 3, 4, 7, 8, 9, 10, 11] [5, 6] rfl rfl rfl (fun _ => rfl) (fun _ => rfl) rfl (fun _ => rfl) (fun _ => rfl) (m_cov rfl) (m_dis rfl) (fun u20 H locs w20r hP hD hS => ?_)
                obtain ⟨u20_ub, u20_un, u20_uw, u20_ux⟩ := u20
                have hP : va_P D vwCl [(m0, .inr (7, [.int (nI n), .ref g1, .ref g2, .ref g3, .int mr, .ref g4, .int (nI y), .ref g5, .int (nI q), .ref g6, .int ml, .ref g7, .ref g8, .ref g9, .ref g10, .ref g11, .ref g12])), (g1, .inl (cI, 9, .inl fg)), (g2, .inl (cI, 9, .inl fb)), (g3, .inl (cI, 9, .inl fp)), (g4, .inl (cZ, 20480, .inl fs)), (g5, .inl (cI, 9, .inl fn)), (g6, .inl (cI, 9, .inl fo)), (g12, .inl (cI, 9, .inl th)), (g8, .inl (cJ, 19683, .inr (.inl u20_ub))), (g9, .inl (cI, 19683, .inl u20_un)), (g10, .inl (cI, 19683, .inl u20_uw)), (g11, .inl (cI, 19683, .inl u20_ux))] H := hP
                have hD : va_D (aA as) [(m0, .inr (7, [.int (nI n), .ref g1, .ref g2, .ref g3, .int mr, .ref g4, .int (nI y), .ref g5, .int (nI q), .ref g6, .int ml, .ref g7, .ref g8, .ref g9, .ref g10, .ref g11, .ref g12])), (g1, .inl (cI, 9, .inl fg)), (g2, .inl (cI, 9, .inl fb)), (g3, .inl (cI, 9, .inl fp)), (g4, .inl (cZ, 20480, .inl fs)), (g5, .inl (cI, 9, .inl fn)), (g6, .inl (cI, 9, .inl fo)), (g12, .inl (cI, 9, .inl th)), (g8, .inl (cJ, 19683, .inr (.inl u20_ub))), (g9, .inl (cI, 19683, .inl u20_un)), (g10, .inl (cI, 19683, .inl u20_uw)), (g11, .inl (cI, 19683, .inl u20_ux))] := hD
                have w20 : ∀ z, z < 3 ^ n → RM (Sg fs y) n (fun c9 => mlf fg fb th (nI c9) n) fp u20_ub u20_un u20_uw u20_ux z := w20r
                clear w20r
                have hpl := w20
                refine lv_iload_n hx hb dX7_told_56 rfl (lv_at hl 2 rfl) ?_
                refine lv_iconst (v := nI 2) hx hb dX7_told_57 (by decide) ?_
                refine lv_icmp_ne (tgt := 70) hx hb dX7_told_58 (by decide) (fun c21 => ?_) (fun c21 => ?_)
                · exact absurd c21 (by first | decide | exact nz_lt (by omega) | exact fun h => h (nz_ge (by omega)))
                · skip
                  refine lv_aload_n hx hb dX7_told_61 rfl (lv_at hl 1 rfl) ?_
                  refine va_get (D := D) (ci := 7) (v := .ref g8) (C := RX7) (T := TX7) (N := 17) hx hb hts hiX7 hown hK hP 0 rfl rfl 12 (by decide) hf39 (fun _ h9 => h9) rfl dX7_told_62 ?_
                  refine lv_iload_n hx hb dX7_told_65 rfl (lv_at hl 0 rfl) ?_
                  refine va_lald hx hb hK hP 8 1 rfl rfl (i := nI (nowN fn n)) (vp_in_nI (by omega) (by omega)) dX7_told_66 ?_
                  refine cn_l (y := u20_ub (nowN fn n)) (congrArg u20_ub (nI_clamp (by omega))) ?_
                  refine lv_goto (tgt := 107) hx hb dX7_told_67 (by decide) ?_
                  rw [← hQ]
                  exact W.lret (v := u20_ub (nowN fn n)) hx hb hr (fun tS htS hWS => ⟨⟨(u20_ub (nowN fn n)), (u20_ub, u20_un, u20_uw, u20_ux), rfl, ⟨fun e => absurd e (by decide), fun e => absurd e (by decide), fun _ => ⟨hpl, rfl⟩, fun e => absurd e (by decide), fun e => absurd e (by decide), fun e => absurd e (by decide), fun e => absurd e (by decide), fun e => absurd e (by decide), fun e => absurd e (by decide), fun e => absurd e.2 (by decide)⟩, m_at htS hP⟩, by rw [← has]; exact hS.F htS⟩) (by rw [← has]; exact hS.2.2) dX7_told_107
            · exact absurd (by omega) w18
          · skip
            refine lv_iload_n hx hb dX7_told_38 rfl (lv_at hl 2 rfl) ?_
            refine lv_i2l hx hb dX7_told_39 rfl ?_
            refine cn_l (y := lN 3) (nI_l (by omega)) ?_
            refine lv_ldc2 (v := lN 2) hx hb hown (hts (.constantLong RX7 134 (lN 2)) (by decide +kernel)) dX7_told_40 ?_
            refine lv_ldc2 (v := lN 5) hx hb hown (hts (.constantLong RX7 136 (lN 5)) (by decide +kernel)) dX7_told_43 ?_
            refine pu_i (va_runS (As := [.long (lN 3), .long (lN 2), .long (lN 5)]) (rest := []) ⟨hx, hb, hml, hown, hts⟩ (c_X7_in l D cI cJ cZ (lN 3) (lN 2) (lN 5)) (va_cwS 3 hts gX7_told_X7_in rfl rfl rfl (by decide +kernel) ⟨Nat.le_of_ble_eq_true rfl, Nat.le_of_ble_eq_true rfl⟩) ⟨pc_blind, fun U hU hW => ⟨rfl, by rw [hU]; exact hP.sub (ws' := []) [] rfl, hKN.warm hW⟩⟩ rfl rfl hl.1 rfl (lv_room (Nat.le_of_ble_eq_true rfl)) dX7_told_46 ⟨Nat.le_of_ble_eq_true rfl, Nat.le_of_ble_eq_true rfl⟩) hS hP (fun r22 H locs w22r hP hS => ?_)
            have w22 : B01 r22 ((lN 2).toInt ≤ (lN 3).toInt ∧ (lN 3).toInt ≤ (lN 5).toInt) := w22r
            clear w22r
            rw [lN_toInt (n := 2) (by omega), lN_toInt (n := 3) (by omega), lN_toInt (n := 5) (by omega)] at w22
            rcases w22 with ⟨rfl, w22⟩ | ⟨rfl, w22⟩
            · skip
              refine lv_if_eq (tgt := 108) hx hb dX7_told_49 (by decide) (fun c23 => ?_) (fun c23 => ?_)
              · exact absurd c23 (by first | decide | exact nz_lt (by omega) | exact fun h => h (nz_ge (by omega)))
              · skip
                refine lv_aload_n hx hb dX7_told_52 rfl (lv_at hl 1 rfl) ?_
                refine mu2_v (n := 12) (wc := [(m0, .inr (7, [.int (nI n), .ref g1, .ref g2, .ref g3, .int mr, .ref g4, .int (nI y), .ref g5, .int (nI q), .ref g6, .int ml, .ref g7, .ref g8, .ref g9, .ref g10, .ref g11, .ref g12])), (g1, .inl (cI, 9, .inl fg)), (g2, .inl (cI, 9, .inl fb)), (g3, .inl (cI, 9, .inl fp)), (g4, .inl (cZ, 20480, .inl fs)), (g12, .inl (cI, 9, .inl th)), (g8, .inl (cJ, 19683, .inr (.inl eb))), (g9, .inl (cI, 19683, .inl en)), (g10, .inl (cI, 19683, .inl ew)), (g11, .inl (cI, 19683, .inl ex))]) (wr := [(g5, .inl (cI, 9, .inl fn)), (g6, .inl (cI, 9, .inl fo))]) (as0 := [m0, g1, g2, g3, g4, g5, g6, g12, g8, g9, g10, g11]) (va_runV (As := []) (rest := []) ⟨hx, hb, hml, hown, hts⟩ (c_X7_plans_v l D cI cJ cZ m0 g1 g2 g3 g4 g5 g6 g7 g8 g9 g10 g11 g12 n y mr (nI q) ml fg fb fp fs th eb en ew ex (by first | assumption | omega) (by first | assumption | omega) (by first | assumption | omega) (by first | assumption | omega) (by first | assumption | omega)) (cwV 0 hts gX7_told_X7_plans rfl rfl rfl (by decide +kernel) ⟨Nat.le_of_ble_eq_true rfl, Nat.le_of_ble_eq_true rfl⟩) ⟨pm_blind, va_recv hK hP (ci := 7) (q0 := 0) rfl rfl, fun U hU hW => ⟨rfl, by rw [hU]; exact hP.sub (ws' := [(m0, .inr (7, [.int (nI n), .ref g1, .ref g2, .ref g3, .int mr, .ref g4, .int (nI y), .ref g5, .int (nI q), .ref g6, .int ml, .ref g7, .ref g8, .ref g9, .ref g10, .ref g11, .ref g12])), (g1, .inl (cI, 9, .inl fg)), (g2, .inl (cI, 9, .inl fb)), (g3, .inl (cI, 9, .inl fp)), (g4, .inl (cZ, 20480, .inl fs)), (g12, .inl (cI, 9, .inl th)), (g8, .inl (cJ, 19683, .inr (.inl eb))), (g9, .inl (cI, 19683, .inl en)), (g10, .inl (cI, 19683, .inl ew)), (g11, .inl (cI, 19683, .inl ex))]) [0, 1, 2, 3, 4, 7, 8, 9, 10, 11] rfl, hKN.warm hW, (hD.sub (ws' := [(m0, .inr (7, [.int (nI n), .ref g1, .ref g2, .ref g3, .int mr, .ref g4, .int (nI y), .ref g5, .int (nI q), .ref g6, .int ml, .ref g7, .ref g8, .ref g9, .ref g10, .ref g11, .ref g12])), (g1, .inl (cI, 9, .inl fg)), (g2, .inl (cI, 9, .inl fb)), (g3, .inl (cI, 9, .inl fp)), (g4, .inl (cZ, 20480, .inl fs)), (g12, .inl (cI, 9, .inl th)), (g8, .inl (cJ, 19683, .inr (.inl eb))), (g9, .inl (cI, 19683, .inl en)), (g10, .inl (cI, 19683, .inl ew)), (g11, .inl (cI, 19683, .inl ex))]) [0, 1, 2, 3, 4, 7, 8, 9, 10, 11] (by decide) rfl).weaken (fun _ _ _ _ => trivial)⟩⟩ rfl rfl hl.1 rfl (lv_room (Nat.le_of_ble_eq_true rfl)) dX7_told_53 ⟨Nat.le_of_ble_eq_true rfl, Nat.le_of_ble_eq_true rfl⟩) hS hP hD (fun (u : (Nat → Int64) × (Nat → Int32) × (Nat → Int32) × (Nat → Int32)) => [(m0, .inr (7, [.int (nI n), .ref g1, .ref g2, .ref g3, .int mr, .ref g4, .int (nI y), .ref g5, .int (nI q), .ref g6, .int ml, .ref g7, .ref g8, .ref g9, .ref g10, .ref g11, .ref g12])), (g1, .inl (cI, 9, .inl fg)), (g2, .inl (cI, 9, .inl fb)), (g3, .inl (cI, 9, .inl fp)), (g4, .inl (cZ, 20480, .inl fs)), (g5, .inl (cI, 9, .inl fn)), (g6, .inl (cI, 9, .inl fo)), (g12, .inl (cI, 9, .inl th)), (g8, .inl (cJ, 19683, .inr (.inl u.1))), (g9, .inl (cI, 19683, .inl u.2.1)), (g10, .inl (cI, 19683, .inl u.2.2.1)), (g11, .inl (cI, 19683, .inl u.2.2.2))]) [0, 1, 2, 3, 4, 7, 8, 9, 10, 11] [5, 6] rfl rfl rfl (fun _ => rfl) (fun _ => rfl) rfl (fun _ => rfl) (fun _ => rfl) (m_cov rfl) (m_dis rfl) (fun u24 H locs w24r hP hD hS => ?_)
                obtain ⟨u24_ub, u24_un, u24_uw, u24_ux⟩ := u24
                have hP : va_P D vwCl [(m0, .inr (7, [.int (nI n), .ref g1, .ref g2, .ref g3, .int mr, .ref g4, .int (nI y), .ref g5, .int (nI q), .ref g6, .int ml, .ref g7, .ref g8, .ref g9, .ref g10, .ref g11, .ref g12])), (g1, .inl (cI, 9, .inl fg)), (g2, .inl (cI, 9, .inl fb)), (g3, .inl (cI, 9, .inl fp)), (g4, .inl (cZ, 20480, .inl fs)), (g5, .inl (cI, 9, .inl fn)), (g6, .inl (cI, 9, .inl fo)), (g12, .inl (cI, 9, .inl th)), (g8, .inl (cJ, 19683, .inr (.inl u24_ub))), (g9, .inl (cI, 19683, .inl u24_un)), (g10, .inl (cI, 19683, .inl u24_uw)), (g11, .inl (cI, 19683, .inl u24_ux))] H := hP
                have hD : va_D (aA as) [(m0, .inr (7, [.int (nI n), .ref g1, .ref g2, .ref g3, .int mr, .ref g4, .int (nI y), .ref g5, .int (nI q), .ref g6, .int ml, .ref g7, .ref g8, .ref g9, .ref g10, .ref g11, .ref g12])), (g1, .inl (cI, 9, .inl fg)), (g2, .inl (cI, 9, .inl fb)), (g3, .inl (cI, 9, .inl fp)), (g4, .inl (cZ, 20480, .inl fs)), (g5, .inl (cI, 9, .inl fn)), (g6, .inl (cI, 9, .inl fo)), (g12, .inl (cI, 9, .inl th)), (g8, .inl (cJ, 19683, .inr (.inl u24_ub))), (g9, .inl (cI, 19683, .inl u24_un)), (g10, .inl (cI, 19683, .inl u24_uw)), (g11, .inl (cI, 19683, .inl u24_ux))] := hD
                have w24 : ∀ z, z < 3 ^ n → RM (Sg fs y) n (fun c9 => mlf fg fb th (nI c9) n) fp u24_ub u24_un u24_uw u24_ux z := w24r
                clear w24r
                have hpl := w24
                refine lv_iload_n hx hb dX7_told_56 rfl (lv_at hl 2 rfl) ?_
                refine lv_iconst (v := nI 2) hx hb dX7_told_57 (by decide) ?_
                refine lv_icmp_ne (tgt := 70) hx hb dX7_told_58 (by decide) (fun c25 => ?_) (fun c25 => ?_)
                · skip
                  refine lv_iload_n hx hb dX7_told_70 rfl (lv_at hl 2 rfl) ?_
                  refine lv_iconst (v := nI 3) hx hb dX7_told_71 (by decide) ?_
                  refine lv_icmp_ne (tgt := 85) hx hb dX7_told_72 (by decide) (fun c26 => ?_) (fun c26 => ?_)
                  · exact absurd c26 (by first | decide | exact nz_lt (by omega) | exact fun h => h (nz_ge (by omega)))
                  · skip
                    refine lv_aload_n hx hb dX7_told_75 rfl (lv_at hl 1 rfl) ?_
                    refine va_get (D := D) (ci := 7) (v := .ref g9) (C := RX7) (T := TX7) (N := 17) hx hb hts hiX7 hown hK hP 0 rfl rfl 13 (by decide) hf43 (fun _ h9 => h9) rfl dX7_told_76 ?_
                    refine lv_iload_n hx hb dX7_told_79 rfl (lv_at hl 0 rfl) ?_
                    refine va_iald hx hb hK hP 9 0 rfl rfl (i := nI (nowN fn n)) (vp_in_nI (by omega) (by omega)) dX7_told_80 ?_
                    refine cn_i (y := u24_un (nowN fn n)) (congrArg u24_un (nI_clamp (by omega))) ?_
                    refine lv_i2l hx hb dX7_told_81 rfl ?_
                    refine lv_goto (tgt := 107) hx hb dX7_told_82 (by decide) ?_
                    rw [← hQ]
                    exact W.lret (v := (u24_un (nowN fn n)).toInt64) hx hb hr (fun tS htS hWS => ⟨⟨((u24_un (nowN fn n)).toInt64), (u24_ub, u24_un, u24_uw, u24_ux), rfl, ⟨fun e => absurd e (by decide), fun e => absurd e (by decide), fun e => absurd e (by decide), fun _ => ⟨hpl, rfl⟩, fun e => absurd e (by decide), fun e => absurd e (by decide), fun e => absurd e (by decide), fun e => absurd e (by decide), fun e => absurd e (by decide), fun e => absurd e.2 (by decide)⟩, m_at htS hP⟩, by rw [← has]; exact hS.F htS⟩) (by rw [← has]; exact hS.2.2) dX7_told_107
                · exact absurd c25 (by first | decide | exact nz_lt (by omega) | exact fun h => h (nz_ge (by omega)))
            · exact absurd (by omega) w22
          · skip
            refine lv_iload_n hx hb dX7_told_38 rfl (lv_at hl 2 rfl) ?_
            refine lv_i2l hx hb dX7_told_39 rfl ?_
            refine cn_l (y := lN 4) (nI_l (by omega)) ?_
            refine lv_ldc2 (v := lN 2) hx hb hown (hts (.constantLong RX7 134 (lN 2)) (by decide +kernel)) dX7_told_40 ?_
            refine lv_ldc2 (v := lN 5) hx hb hown (hts (.constantLong RX7 136 (lN 5)) (by decide +kernel)) dX7_told_43 ?_
            refine pu_i (va_runS (As := [.long (lN 4), .long (lN 2), .long (lN 5)]) (rest := []) ⟨hx, hb, hml, hown, hts⟩ (c_X7_in l D cI cJ cZ (lN 4) (lN 2) (lN 5)) (va_cwS 3 hts gX7_told_X7_in rfl rfl rfl (by decide +kernel) ⟨Nat.le_of_ble_eq_true rfl, Nat.le_of_ble_eq_true rfl⟩) ⟨pc_blind, fun U hU hW => ⟨rfl, by rw [hU]; exact hP.sub (ws' := []) [] rfl, hKN.warm hW⟩⟩ rfl rfl hl.1 rfl (lv_room (Nat.le_of_ble_eq_true rfl)) dX7_told_46 ⟨Nat.le_of_ble_eq_true rfl, Nat.le_of_ble_eq_true rfl⟩) hS hP (fun r27 H locs w27r hP hS => ?_)
            have w27 : B01 r27 ((lN 2).toInt ≤ (lN 4).toInt ∧ (lN 4).toInt ≤ (lN 5).toInt) := w27r
            clear w27r
            rw [lN_toInt (n := 2) (by omega), lN_toInt (n := 4) (by omega), lN_toInt (n := 5) (by omega)] at w27
            rcases w27 with ⟨rfl, w27⟩ | ⟨rfl, w27⟩
            · skip
              refine lv_if_eq (tgt := 108) hx hb dX7_told_49 (by decide) (fun c28 => ?_) (fun c28 => ?_)
              · exact absurd c28 (by first | decide | exact nz_lt (by omega) | exact fun h => h (nz_ge (by omega)))
              · skip
                refine lv_aload_n hx hb dX7_told_52 rfl (lv_at hl 1 rfl) ?_
                refine mu2_v (n := 12) (wc := [(m0, .inr (7, [.int (nI n), .ref g1, .ref g2, .ref g3, .int mr, .ref g4, .int (nI y), .ref g5, .int (nI q), .ref g6, .int ml, .ref g7, .ref g8, .ref g9, .ref g10, .ref g11, .ref g12])), (g1, .inl (cI, 9, .inl fg)), (g2, .inl (cI, 9, .inl fb)), (g3, .inl (cI, 9, .inl fp)), (g4, .inl (cZ, 20480, .inl fs)), (g12, .inl (cI, 9, .inl th)), (g8, .inl (cJ, 19683, .inr (.inl eb))), (g9, .inl (cI, 19683, .inl en)), (g10, .inl (cI, 19683, .inl ew)), (g11, .inl (cI, 19683, .inl ex))]) (wr := [(g5, .inl (cI, 9, .inl fn)), (g6, .inl (cI, 9, .inl fo))]) (as0 := [m0, g1, g2, g3, g4, g5, g6, g12, g8, g9, g10, g11]) (va_runV (As := []) (rest := []) ⟨hx, hb, hml, hown, hts⟩ (c_X7_plans_v l D cI cJ cZ m0 g1 g2 g3 g4 g5 g6 g7 g8 g9 g10 g11 g12 n y mr (nI q) ml fg fb fp fs th eb en ew ex (by first | assumption | omega) (by first | assumption | omega) (by first | assumption | omega) (by first | assumption | omega) (by first | assumption | omega)) (cwV 0 hts gX7_told_X7_plans rfl rfl rfl (by decide +kernel) ⟨Nat.le_of_ble_eq_true rfl, Nat.le_of_ble_eq_true rfl⟩) ⟨pm_blind, va_recv hK hP (ci := 7) (q0 := 0) rfl rfl, fun U hU hW => ⟨rfl, by rw [hU]; exact hP.sub (ws' := [(m0, .inr (7, [.int (nI n), .ref g1, .ref g2, .ref g3, .int mr, .ref g4, .int (nI y), .ref g5, .int (nI q), .ref g6, .int ml, .ref g7, .ref g8, .ref g9, .ref g10, .ref g11, .ref g12])), (g1, .inl (cI, 9, .inl fg)), (g2, .inl (cI, 9, .inl fb)), (g3, .inl (cI, 9, .inl fp)), (g4, .inl (cZ, 20480, .inl fs)), (g12, .inl (cI, 9, .inl th)), (g8, .inl (cJ, 19683, .inr (.inl eb))), (g9, .inl (cI, 19683, .inl en)), (g10, .inl (cI, 19683, .inl ew)), (g11, .inl (cI, 19683, .inl ex))]) [0, 1, 2, 3, 4, 7, 8, 9, 10, 11] rfl, hKN.warm hW, (hD.sub (ws' := [(m0, .inr (7, [.int (nI n), .ref g1, .ref g2, .ref g3, .int mr, .ref g4, .int (nI y), .ref g5, .int (nI q), .ref g6, .int ml, .ref g7, .ref g8, .ref g9, .ref g10, .ref g11, .ref g12])), (g1, .inl (cI, 9, .inl fg)), (g2, .inl (cI, 9, .inl fb)), (g3, .inl (cI, 9, .inl fp)), (g4, .inl (cZ, 20480, .inl fs)), (g12, .inl (cI, 9, .inl th)), (g8, .inl (cJ, 19683, .inr (.inl eb))), (g9, .inl (cI, 19683, .inl en)), (g10, .inl (cI, 19683, .inl ew)), (g11, .inl (cI, 19683, .inl ex))]) [0, 1, 2, 3, 4, 7, 8, 9, 10, 11] (by decide) rfl).weaken (fun _ _ _ _ => trivial)⟩⟩ rfl rfl hl.1 rfl (lv_room (Nat.le_of_ble_eq_true rfl)) dX7_told_53 ⟨Nat.le_of_ble_eq_true rfl, Nat.le_of_ble_eq_true rfl⟩) hS hP hD (fun (u : (Nat → Int64) × (Nat → Int32) × (Nat → Int32) × (Nat → Int32)) => [(m0, .inr (7, [.int (nI n), .ref g1, .ref g2, .ref g3, .int mr, .ref g4, .int (nI y), .ref g5, .int (nI q), .ref g6, .int ml, .ref g7, .ref g8, .ref g9, .ref g10, .ref g11, .ref g12])), (g1, .inl (cI, 9, .inl fg)), (g2, .inl (cI, 9, .inl fb)), (g3, .inl (cI, 9, .inl fp)), (g4, .inl (cZ, 20480, .inl fs)), (g5, .inl (cI, 9, .inl fn)), (g6, .inl (cI, 9, .inl fo)), (g12, .inl (cI, 9, .inl th)), (g8, .inl (cJ, 19683, .inr (.inl u.1))), (g9, .inl (cI, 19683, .inl u.2.1)), (g10, .inl (cI, 19683, .inl u.2.2.1)), (g11, .inl (cI, 19683, .inl u.2.2.2))]) [0, 1, 2, 3, 4, 7, 8, 9, 10, 11] [5, 6] rfl rfl rfl (fun _ => rfl) (fun _ => rfl) rfl (fun _ => rfl) (fun _ => rfl) (m_cov rfl) (m_dis rfl) (fun u29 H locs w29r hP hD hS => ?_)
                obtain ⟨u29_ub, u29_un, u29_uw, u29_ux⟩ := u29
                have hP : va_P D vwCl [(m0, .inr (7, [.int (nI n), .ref g1, .ref g2, .ref g3, .int mr, .ref g4, .int (nI y), .ref g5, .int (nI q), .ref g6, .int ml, .ref g7, .ref g8, .ref g9, .ref g10, .ref g11, .ref g12])), (g1, .inl (cI, 9, .inl fg)), (g2, .inl (cI, 9, .inl fb)), (g3, .inl (cI, 9, .inl fp)), (g4, .inl (cZ, 20480, .inl fs)), (g5, .inl (cI, 9, .inl fn)), (g6, .inl (cI, 9, .inl fo)), (g12, .inl (cI, 9, .inl th)), (g8, .inl (cJ, 19683, .inr (.inl u29_ub))), (g9, .inl (cI, 19683, .inl u29_un)), (g10, .inl (cI, 19683, .inl u29_uw)), (g11, .inl (cI, 19683, .inl u29_ux))] H := hP
                have hD : va_D (aA as) [(m0, .inr (7, [.int (nI n), .ref g1, .ref g2, .ref g3, .int mr, .ref g4, .int (nI y), .ref g5, .int (nI q), .ref g6, .int ml, .ref g7, .ref g8, .ref g9, .ref g10, .ref g11, .ref g12])), (g1, .inl (cI, 9, .inl fg)), (g2, .inl (cI, 9, .inl fb)), (g3, .inl (cI, 9, .inl fp)), (g4, .inl (cZ, 20480, .inl fs)), (g5, .inl (cI, 9, .inl fn)), (g6, .inl (cI, 9, .inl fo)), (g12, .inl (cI, 9, .inl th)), (g8, .inl (cJ, 19683, .inr (.inl u29_ub))), (g9, .inl (cI, 19683, .inl u29_un)), (g10, .inl (cI, 19683, .inl u29_uw)), (g11, .inl (cI, 19683, .inl u29_ux))] := hD
                have w29 : ∀ z, z < 3 ^ n → RM (Sg fs y) n (fun c9 => mlf fg fb th (nI c9) n) fp u29_ub u29_un u29_uw u29_ux z := w29r
                clear w29r
                have hpl := w29
                refine lv_iload_n hx hb dX7_told_56 rfl (lv_at hl 2 rfl) ?_
                refine lv_iconst (v := nI 2) hx hb dX7_told_57 (by decide) ?_
                refine lv_icmp_ne (tgt := 70) hx hb dX7_told_58 (by decide) (fun c30 => ?_) (fun c30 => ?_)
                · skip
                  refine lv_iload_n hx hb dX7_told_70 rfl (lv_at hl 2 rfl) ?_
                  refine lv_iconst (v := nI 3) hx hb dX7_told_71 (by decide) ?_
                  refine lv_icmp_ne (tgt := 85) hx hb dX7_told_72 (by decide) (fun c31 => ?_) (fun c31 => ?_)
                  · skip
                    refine lv_iload_n hx hb dX7_told_85 rfl (lv_at hl 2 rfl) ?_
                    refine lv_iconst (v := nI 4) hx hb dX7_told_86 (by decide) ?_
                    refine lv_icmp_ne (tgt := 100) hx hb dX7_told_87 (by decide) (fun c32 => ?_) (fun c32 => ?_)
                    · exact absurd c32 (by first | decide | exact nz_lt (by omega) | exact fun h => h (nz_ge (by omega)))
                    · skip
                      refine lv_aload_n hx hb dX7_told_90 rfl (lv_at hl 1 rfl) ?_
                      refine va_get (D := D) (ci := 7) (v := .ref g10) (C := RX7) (T := TX7) (N := 17) hx hb hts hiX7 hown hK hP 0 rfl rfl 14 (by decide) hf46 (fun _ h9 => h9) rfl dX7_told_91 ?_
                      refine lv_iload_n hx hb dX7_told_94 rfl (lv_at hl 0 rfl) ?_
                      refine va_iald hx hb hK hP 10 0 rfl rfl (i := nI (nowN fn n)) (vp_in_nI (by omega) (by omega)) dX7_told_95 ?_
                      refine cn_i (y := u29_uw (nowN fn n)) (congrArg u29_uw (nI_clamp (by omega))) ?_
                      refine lv_i2l hx hb dX7_told_96 rfl ?_
                      refine lv_goto (tgt := 107) hx hb dX7_told_97 (by decide) ?_
                      rw [← hQ]
                      exact W.lret (v := (u29_uw (nowN fn n)).toInt64) hx hb hr (fun tS htS hWS => ⟨⟨((u29_uw (nowN fn n)).toInt64), (u29_ub, u29_un, u29_uw, u29_ux), rfl, ⟨fun e => absurd e (by decide), fun e => absurd e (by decide), fun e => absurd e (by decide), fun e => absurd e (by decide), fun _ => ⟨hpl, rfl⟩, fun e => absurd e (by decide), fun e => absurd e (by decide), fun e => absurd e (by decide), fun e => absurd e (by decide), fun e => absurd e.2 (by decide)⟩, m_at htS hP⟩, by rw [← has]; exact hS.F htS⟩) (by rw [← has]; exact hS.2.2) dX7_told_107
                  · exact absurd c31 (by first | decide | exact nz_lt (by omega) | exact fun h => h (nz_ge (by omega)))
                · exact absurd c30 (by first | decide | exact nz_lt (by omega) | exact fun h => h (nz_ge (by omega)))
            · exact absurd (by omega) w27
          · skip
            refine lv_iload_n hx hb dX7_told_38 rfl (lv_at hl 2 rfl) ?_
            refine lv_i2l hx hb dX7_told_39 rfl ?_
            refine cn_l (y := lN 5) (nI_l (by omega)) ?_
            refine lv_ldc2 (v := lN 2) hx hb hown (hts (.constantLong RX7 134 (lN 2)) (by decide +kernel)) dX7_told_40 ?_
            refine lv_ldc2 (v := lN 5) hx hb hown (hts (.constantLong RX7 136 (lN 5)) (by decide +kernel)) dX7_told_43 ?_
            refine pu_i (va_runS (As := [.long (lN 5), .long (lN 2), .long (lN 5)]) (rest := []) ⟨hx, hb, hml, hown, hts⟩ (c_X7_in l D cI cJ cZ (lN 5) (lN 2) (lN 5)) (va_cwS 3 hts gX7_told_X7_in rfl rfl rfl (by decide +kernel) ⟨Nat.le_of_ble_eq_true rfl, Nat.le_of_ble_eq_true rfl⟩) ⟨pc_blind, fun U hU hW => ⟨rfl, by rw [hU]; exact hP.sub (ws' := []) [] rfl, hKN.warm hW⟩⟩ rfl rfl hl.1 rfl (lv_room (Nat.le_of_ble_eq_true rfl)) dX7_told_46 ⟨Nat.le_of_ble_eq_true rfl, Nat.le_of_ble_eq_true rfl⟩) hS hP (fun r33 H locs w33r hP hS => ?_)
            have w33 : B01 r33 ((lN 2).toInt ≤ (lN 5).toInt ∧ (lN 5).toInt ≤ (lN 5).toInt) := w33r
            clear w33r
            rw [lN_toInt (n := 2) (by omega), lN_toInt (n := 5) (by omega)] at w33
            rcases w33 with ⟨rfl, w33⟩ | ⟨rfl, w33⟩
            · skip
              refine lv_if_eq (tgt := 108) hx hb dX7_told_49 (by decide) (fun c34 => ?_) (fun c34 => ?_)
              · exact absurd c34 (by first | decide | exact nz_lt (by omega) | exact fun h => h (nz_ge (by omega)))
              · skip
                refine lv_aload_n hx hb dX7_told_52 rfl (lv_at hl 1 rfl) ?_
                refine mu2_v (n := 12) (wc := [(m0, .inr (7, [.int (nI n), .ref g1, .ref g2, .ref g3, .int mr, .ref g4, .int (nI y), .ref g5, .int (nI q), .ref g6, .int ml, .ref g7, .ref g8, .ref g9, .ref g10, .ref g11, .ref g12])), (g1, .inl (cI, 9, .inl fg)), (g2, .inl (cI, 9, .inl fb)), (g3, .inl (cI, 9, .inl fp)), (g4, .inl (cZ, 20480, .inl fs)), (g12, .inl (cI, 9, .inl th)), (g8, .inl (cJ, 19683, .inr (.inl eb))), (g9, .inl (cI, 19683, .inl en)), (g10, .inl (cI, 19683, .inl ew)), (g11, .inl (cI, 19683, .inl ex))]) (wr := [(g5, .inl (cI, 9, .inl fn)), (g6, .inl (cI, 9, .inl fo))]) (as0 := [m0, g1, g2, g3, g4, g5, g6, g12, g8, g9, g10, g11]) (va_runV (As := []) (rest := []) ⟨hx, hb, hml, hown, hts⟩ (c_X7_plans_v l D cI cJ cZ m0 g1 g2 g3 g4 g5 g6 g7 g8 g9 g10 g11 g12 n y mr (nI q) ml fg fb fp fs th eb en ew ex (by first | assumption | omega) (by first | assumption | omega) (by first | assumption | omega) (by first | assumption | omega) (by first | assumption | omega)) (cwV 0 hts gX7_told_X7_plans rfl rfl rfl (by decide +kernel) ⟨Nat.le_of_ble_eq_true rfl, Nat.le_of_ble_eq_true rfl⟩) ⟨pm_blind, va_recv hK hP (ci := 7) (q0 := 0) rfl rfl, fun U hU hW => ⟨rfl, by rw [hU]; exact hP.sub (ws' := [(m0, .inr (7, [.int (nI n), .ref g1, .ref g2, .ref g3, .int mr, .ref g4, .int (nI y), .ref g5, .int (nI q), .ref g6, .int ml, .ref g7, .ref g8, .ref g9, .ref g10, .ref g11, .ref g12])), (g1, .inl (cI, 9, .inl fg)), (g2, .inl (cI, 9, .inl fb)), (g3, .inl (cI, 9, .inl fp)), (g4, .inl (cZ, 20480, .inl fs)), (g12, .inl (cI, 9, .inl th)), (g8, .inl (cJ, 19683, .inr (.inl eb))), (g9, .inl (cI, 19683, .inl en)), (g10, .inl (cI, 19683, .inl ew)), (g11, .inl (cI, 19683, .inl ex))]) [0, 1, 2, 3, 4, 7, 8, 9, 10, 11] rfl, hKN.warm hW, (hD.sub (ws' := [(m0, .inr (7, [.int (nI n), .ref g1, .ref g2, .ref g3, .int mr, .ref g4, .int (nI y), .ref g5, .int (nI q), .ref g6, .int ml, .ref g7, .ref g8, .ref g9, .ref g10, .ref g11, .ref g12])), (g1, .inl (cI, 9, .inl fg)), (g2, .inl (cI, 9, .inl fb)), (g3, .inl (cI, 9, .inl fp)), (g4, .inl (cZ, 20480, .inl fs)), (g12, .inl (cI, 9, .inl th)), (g8, .inl (cJ, 19683, .inr (.inl eb))), (g9, .inl (cI, 19683, .inl en)), (g10, .inl (cI, 19683, .inl ew)), (g11, .inl (cI, 19683, .inl ex))]) [0, 1, 2, 3, 4, 7, 8, 9, 10, 11] (by decide) rfl).weaken (fun _ _ _ _ => trivial)⟩⟩ rfl rfl hl.1 rfl (lv_room (Nat.le_of_ble_eq_true rfl)) dX7_told_53 ⟨Nat.le_of_ble_eq_true rfl, Nat.le_of_ble_eq_true rfl⟩) hS hP hD (fun (u : (Nat → Int64) × (Nat → Int32) × (Nat → Int32) × (Nat → Int32)) => [(m0, .inr (7, [.int (nI n), .ref g1, .ref g2, .ref g3, .int mr, .ref g4, .int (nI y), .ref g5, .int (nI q), .ref g6, .int ml, .ref g7, .ref g8, .ref g9, .ref g10, .ref g11, .ref g12])), (g1, .inl (cI, 9, .inl fg)), (g2, .inl (cI, 9, .inl fb)), (g3, .inl (cI, 9, .inl fp)), (g4, .inl (cZ, 20480, .inl fs)), (g5, .inl (cI, 9, .inl fn)), (g6, .inl (cI, 9, .inl fo)), (g12, .inl (cI, 9, .inl th)), (g8, .inl (cJ, 19683, .inr (.inl u.1))), (g9, .inl (cI, 19683, .inl u.2.1)), (g10, .inl (cI, 19683, .inl u.2.2.1)), (g11, .inl (cI, 19683, .inl u.2.2.2))]) [0, 1, 2, 3, 4, 7, 8, 9, 10, 11] [5, 6] rfl rfl rfl (fun _ => rfl) (fun _ => rfl) rfl (fun _ => rfl) (fun _ => rfl) (m_cov rfl) (m_dis rfl) (fun u35 H locs w35r hP hD hS => ?_)
                obtain ⟨u35_ub, u35_un, u35_uw, u35_ux⟩ := u35
                have hP : va_P D vwCl [(m0, .inr (7, [.int (nI n), .ref g1, .ref g2, .ref g3, .int mr, .ref g4, .int (nI y), .ref g5, .int (nI q), .ref g6, .int ml, .ref g7, .ref g8, .ref g9, .ref g10, .ref g11, .ref g12])), (g1, .inl (cI, 9, .inl fg)), (g2, .inl (cI, 9, .inl fb)), (g3, .inl (cI, 9, .inl fp)), (g4, .inl (cZ, 20480, .inl fs)), (g5, .inl (cI, 9, .inl fn)), (g6, .inl (cI, 9, .inl fo)), (g12, .inl (cI, 9, .inl th)), (g8, .inl (cJ, 19683, .inr (.inl u35_ub))), (g9, .inl (cI, 19683, .inl u35_un)), (g10, .inl (cI, 19683, .inl u35_uw)), (g11, .inl (cI, 19683, .inl u35_ux))] H := hP
                have hD : va_D (aA as) [(m0, .inr (7, [.int (nI n), .ref g1, .ref g2, .ref g3, .int mr, .ref g4, .int (nI y), .ref g5, .int (nI q), .ref g6, .int ml, .ref g7, .ref g8, .ref g9, .ref g10, .ref g11, .ref g12])), (g1, .inl (cI, 9, .inl fg)), (g2, .inl (cI, 9, .inl fb)), (g3, .inl (cI, 9, .inl fp)), (g4, .inl (cZ, 20480, .inl fs)), (g5, .inl (cI, 9, .inl fn)), (g6, .inl (cI, 9, .inl fo)), (g12, .inl (cI, 9, .inl th)), (g8, .inl (cJ, 19683, .inr (.inl u35_ub))), (g9, .inl (cI, 19683, .inl u35_un)), (g10, .inl (cI, 19683, .inl u35_uw)), (g11, .inl (cI, 19683, .inl u35_ux))] := hD
                have w35 : ∀ z, z < 3 ^ n → RM (Sg fs y) n (fun c9 => mlf fg fb th (nI c9) n) fp u35_ub u35_un u35_uw u35_ux z := w35r
                clear w35r
                have hpl := w35
                refine lv_iload_n hx hb dX7_told_56 rfl (lv_at hl 2 rfl) ?_
                refine lv_iconst (v := nI 2) hx hb dX7_told_57 (by decide) ?_
                refine lv_icmp_ne (tgt := 70) hx hb dX7_told_58 (by decide) (fun c36 => ?_) (fun c36 => ?_)
                · skip
                  refine lv_iload_n hx hb dX7_told_70 rfl (lv_at hl 2 rfl) ?_
                  refine lv_iconst (v := nI 3) hx hb dX7_told_71 (by decide) ?_
                  refine lv_icmp_ne (tgt := 85) hx hb dX7_told_72 (by decide) (fun c37 => ?_) (fun c37 => ?_)
                  · skip
                    refine lv_iload_n hx hb dX7_told_85 rfl (lv_at hl 2 rfl) ?_
                    refine lv_iconst (v := nI 4) hx hb dX7_told_86 (by decide) ?_
                    refine lv_icmp_ne (tgt := 100) hx hb dX7_told_87 (by decide) (fun c38 => ?_) (fun c38 => ?_)
                    · skip
                      refine lv_aload_n hx hb dX7_told_100 rfl (lv_at hl 1 rfl) ?_
                      refine va_get (D := D) (ci := 7) (v := .ref g11) (C := RX7) (T := TX7) (N := 17) hx hb hts hiX7 hown hK hP 0 rfl rfl 15 (by decide) hf49 (fun _ h9 => h9) rfl dX7_told_101 ?_
                      refine lv_iload_n hx hb dX7_told_104 rfl (lv_at hl 0 rfl) ?_
                      refine va_iald hx hb hK hP 11 0 rfl rfl (i := nI (nowN fn n)) (vp_in_nI (by omega) (by omega)) dX7_told_105 ?_
                      refine cn_i (y := u35_ux (nowN fn n)) (congrArg u35_ux (nI_clamp (by omega))) ?_
                      refine lv_i2l hx hb dX7_told_106 rfl ?_
                      rw [← hQ]
                      exact W.lret (v := (u35_ux (nowN fn n)).toInt64) hx hb hr (fun tS htS hWS => ⟨⟨((u35_ux (nowN fn n)).toInt64), (u35_ub, u35_un, u35_uw, u35_ux), rfl, ⟨fun e => absurd e (by decide), fun e => absurd e (by decide), fun e => absurd e (by decide), fun e => absurd e (by decide), fun e => absurd e (by decide), fun _ => ⟨hpl, rfl⟩, fun e => absurd e (by decide), fun e => absurd e (by decide), fun e => absurd e (by decide), fun e => absurd e.2 (by decide)⟩, m_at htS hP⟩, by rw [← has]; exact hS.F htS⟩) (by rw [← has]; exact hS.2.2) dX7_told_107
                    · exact absurd c38 (by first | decide | exact nz_lt (by omega) | exact fun h => h (nz_ge (by omega)))
                  · exact absurd c37 (by first | decide | exact nz_lt (by omega) | exact fun h => h (nz_ge (by omega)))
                · exact absurd c36 (by first | decide | exact nz_lt (by omega) | exact fun h => h (nz_ge (by omega)))
            · exact absurd (by omega) w33
          · skip
            refine lv_iload_n hx hb dX7_told_38 rfl (lv_at hl 2 rfl) ?_
            refine lv_i2l hx hb dX7_told_39 rfl ?_
            refine cn_l (y := lN 6) (nI_l (by omega)) ?_
            refine lv_ldc2 (v := lN 2) hx hb hown (hts (.constantLong RX7 134 (lN 2)) (by decide +kernel)) dX7_told_40 ?_
            refine lv_ldc2 (v := lN 5) hx hb hown (hts (.constantLong RX7 136 (lN 5)) (by decide +kernel)) dX7_told_43 ?_
            refine pu_i (va_runS (As := [.long (lN 6), .long (lN 2), .long (lN 5)]) (rest := []) ⟨hx, hb, hml, hown, hts⟩ (c_X7_in l D cI cJ cZ (lN 6) (lN 2) (lN 5)) (va_cwS 3 hts gX7_told_X7_in rfl rfl rfl (by decide +kernel) ⟨Nat.le_of_ble_eq_true rfl, Nat.le_of_ble_eq_true rfl⟩) ⟨pc_blind, fun U hU hW => ⟨rfl, by rw [hU]; exact hP.sub (ws' := []) [] rfl, hKN.warm hW⟩⟩ rfl rfl hl.1 rfl (lv_room (Nat.le_of_ble_eq_true rfl)) dX7_told_46 ⟨Nat.le_of_ble_eq_true rfl, Nat.le_of_ble_eq_true rfl⟩) hS hP (fun r39 H locs w39r hP hS => ?_)
            have w39 : B01 r39 ((lN 2).toInt ≤ (lN 6).toInt ∧ (lN 6).toInt ≤ (lN 5).toInt) := w39r
            clear w39r
            rw [lN_toInt (n := 2) (by omega), lN_toInt (n := 6) (by omega), lN_toInt (n := 5) (by omega)] at w39
            rcases w39 with ⟨rfl, w39⟩ | ⟨rfl, w39⟩
            · exact absurd w39 (by omega)
            · skip
              refine lv_if_eq (tgt := 108) hx hb dX7_told_49 (by decide) (fun c40 => ?_) (fun c40 => ?_)
              · skip
                refine lv_lconst (v := lN 0) hx hb dX7_told_108 (by decide) ?_
                refine lv_lstore_n (lv' := [(3, .long (lN 0)), (2, .int (nI (nowN fn n))), (0, .ref m0), (1, .int (nI 6))]) hx hb dX7_told_109 rfl hl (by decide) rfl (fun ls hl => ?_)
                refine lv_iconst (v := nI 0) hx hb dX7_told_110 (by decide) ?_
                refine lv_istore (lv' := [(5, .int (nI 0)), (3, .long (lN 0)), (2, .int (nI (nowN fn n))), (0, .ref m0), (1, .int (nI 6))]) hx hb dX7_told_111 hl (by decide) rfl (fun ls hl => ?_)
                have loop41 : ∀ (fu : Nat) (k : Nat) (v : Int64) (H : Heap) (locs : List Loc) (ls : Array Slot), (k ≤ 2 ^ n ∧ 2 ^ n < k + fu) → (SR (fun t => SCH (nowN fn n) n (nI t)) (fun t x => ∃ w : Int32, x = mwt fg fb (nI t) n * w.toInt64 ∧ SHW (Sg fs y) n (nowN fn n) (nI t) fp (2 ^ n) w) k v) → va_P D vwCl [(m0, .inr (7, [.int (nI n), .ref g1, .ref g2, .ref g3, .int mr, .ref g4, .int (nI y), .ref g5, .int (nI q), .ref g6, .int ml, .ref g7, .ref g8, .ref g9, .ref g10, .ref g11, .ref g12])), (g1, .inl (cI, 9, .inl fg)), (g2, .inl (cI, 9, .inl fb)), (g3, .inl (cI, 9, .inl fp)), (g4, .inl (cZ, 20480, .inl fs)), (g5, .inl (cI, 9, .inl fn)), (g6, .inl (cI, 9, .inl fo)), (g12, .inl (cI, 9, .inl th)), (g8, .inl (cJ, 19683, .inr (.inl eb))), (g9, .inl (cI, 19683, .inl en)), (g10, .inl (cI, 19683, .inl ew)), (g11, .inl (cI, 19683, .inl ex))] H → va_D (aA as) [(m0, .inr (7, [.int (nI n), .ref g1, .ref g2, .ref g3, .int mr, .ref g4, .int (nI y), .ref g5, .int (nI q), .ref g6, .int ml, .ref g7, .ref g8, .ref g9, .ref g10, .ref g11, .ref g12])), (g1, .inl (cI, 9, .inl fg)), (g2, .inl (cI, 9, .inl fb)), (g3, .inl (cI, 9, .inl fp)), (g4, .inl (cZ, 20480, .inl fs)), (g5, .inl (cI, 9, .inl fn)), (g6, .inl (cI, 9, .inl fo)), (g12, .inl (cI, 9, .inl th)), (g8, .inl (cJ, 19683, .inr (.inl eb))), (g9, .inl (cI, 19683, .inl en)), (g10, .inl (cI, 19683, .inl ew)), (g11, .inl (cI, 19683, .inl ex))] → va_S (aA as) s.heap H locs → lv_has ls 7 [(5, .int (nI k)), (3, .long v), (2, .int (nI (nowN fn n))), (0, .ref m0), (1, .int (nI 6))] → W p l e (headSpec wsX7_told rm_c_X7_told_v).room s m ([.ref m0, .int (nI 6)] : List Value).toArray below meth c H locs 0 0 Q (F0 m 113 ls []) := by
                  intro fu
                  induction fu with
                  | zero => intro k v H locs ls hk hSq; exact absurd hk (by omega)
                  | succ fu ih41 =>
                    intro k v H locs ls hk hSq hP hD hS hl
                    refine lv_iload hx hb dX7_told_113 (lv_at hl 0 rfl) ?_
                    refine lv_aload_n hx hb dX7_told_115 rfl (lv_at hl 3 rfl) ?_
                    refine pu_i (va_runV (As := []) (rest := [.int (nI k)]) ⟨hx, hb, hml, hown, hts⟩ (c_X7_settings l D cI cJ cZ m0 g1 g2 g3 g4 g5 g6 g7 g8 g9 g10 g11 g12 n mr (nI y) (nI q) ml (by first | assumption | omega)) (cwV 0 hts gX7_told_X7_settings rfl rfl rfl (by decide +kernel) ⟨Nat.le_of_ble_eq_true rfl, Nat.le_of_ble_eq_true rfl⟩) ⟨pc_blind, va_recv hK hP (ci := 7) (q0 := 0) rfl rfl, fun U hU hW => ⟨rfl, by rw [hU]; exact hP.sub (ws' := [(m0, .inr (7, [.int (nI n), .ref g1, .ref g2, .ref g3, .int mr, .ref g4, .int (nI y), .ref g5, .int (nI q), .ref g6, .int ml, .ref g7, .ref g8, .ref g9, .ref g10, .ref g11, .ref g12]))]) [0] rfl, hKN.warm hW⟩⟩ rfl rfl hl.1 rfl (lv_room (Nat.le_of_ble_eq_true rfl)) dX7_told_116 ⟨Nat.le_of_ble_eq_true rfl, Nat.le_of_ble_eq_true rfl⟩) hS hP (fun r42 H locs w42r hP hS => ?_)
                    have w42 : r42 = nI (2 ^ n) := w42r
                    clear w42r
                    obtain rfl : r42 = nI (2 ^ n) := w42
                    refine lv_icmp_ge (tgt := 273) hx hb dX7_told_119 (by decide) (fun c43 => ?_) (fun c43 => ?_)
                    · skip
                      have d43 := c43
                      rw [nI_leI (by omega) (by omega)] at d43
                      refine lv_lload_n hx hb dX7_told_273 rfl (lv_at hl 1 rfl) ?_
                      rw [← hQ]
                      exact W.lret (v := v) hx hb hr (fun tS htS hWS => ⟨⟨v, (eb, en, ew, ex), rfl, ⟨fun e => absurd e (by decide), fun e => absurd e (by decide), fun e => absurd e (by decide), fun e => absurd e (by decide), fun e => absurd e (by decide), fun e => absurd e (by decide), fun _ => (show k = 2 ^ n by omega) ▸ hSq, fun e => absurd e (by decide), fun e => absurd e (by decide), fun e => absurd e.2 (by decide)⟩, m_at htS hP⟩, by rw [← has]; exact hS.F htS⟩) (by rw [← has]; exact hS.2.2) dX7_told_274
                    · skip
                      have d43 := c43
                      rw [nI_leI (by omega) (by omega)] at d43
                      refine lv_aload_n hx hb dX7_told_122 rfl (lv_at hl 3 rfl) ?_
                      refine lv_iload hx hb dX7_told_123 (lv_at hl 0 rfl) ?_
                      refine lv_iload_n hx hb dX7_told_125 rfl (lv_at hl 2 rfl) ?_
                      refine pu_i (va_runV (As := [.int (nI k), .int (nI (nowN fn n))]) (rest := []) ⟨hx, hb, hml, hown, hts⟩ (c_X7_isSuch_v l D cI cJ cZ m0 g1 g2 g3 g4 g5 g6 g7 g8 g9 g10 g11 g12 n (nowN fn n) mr (nI y) (nI q) ml (nI k) th (by first | assumption | omega) (by first | assumption | omega) (by first | assumption | omega)) (cwV 2 hts gX7_told_X7_isSuch rfl rfl rfl (by decide +kernel) ⟨Nat.le_of_ble_eq_true rfl, Nat.le_of_ble_eq_true rfl⟩) ⟨pc_blind, va_recv hK hP (ci := 7) (q0 := 0) rfl rfl, fun U hU hW => ⟨rfl, by rw [hU]; exact hP.sub (ws' := [(m0, .inr (7, [.int (nI n), .ref g1, .ref g2, .ref g3, .int mr, .ref g4, .int (nI y), .ref g5, .int (nI q), .ref g6, .int ml, .ref g7, .ref g8, .ref g9, .ref g10, .ref g11, .ref g12])), (g12, .inl (cI, 9, .inl th))]) [0, 7] rfl, hKN.warm hW⟩⟩ rfl rfl hl.1 rfl (lv_room (Nat.le_of_ble_eq_true rfl)) dX7_told_126 ⟨Nat.le_of_ble_eq_true rfl, Nat.le_of_ble_eq_true rfl⟩) hS hP (fun r44 H locs w44r hP hS => ?_)
                      have w44 : B01 r44 (SCH (nowN fn n) n (nI k)) := w44r
                      clear w44r
                      rcases w44 with ⟨rfl, w44⟩ | ⟨rfl, w44⟩
                      · skip
                        have hfi := w44
                        refine lv_if_ne (tgt := 135) hx hb dX7_told_129 (by decide) (fun c45 => ?_) (fun c45 => ?_)
                        · skip
                          refine lv_iload_n hx hb dX7_told_135 rfl (lv_at hl 4 rfl) ?_
                          refine lv_lookup (tgt := 197) (off := 61) hx hb dX7_told_136 (by decide) (by decide) (by decide) ?_
                          refine lv_lload_n hx hb dX7_told_197 rfl (lv_at hl 1 rfl) ?_
                          refine lv_aload_n hx hb dX7_told_198 rfl (lv_at hl 3 rfl) ?_
                          refine lv_iload hx hb dX7_told_199 (lv_at hl 0 rfl) ?_
                          refine pu_l (va_runV (As := [.int (nI k)]) (rest := [.long v]) ⟨hx, hb, hml, hown, hts⟩ (c_X7_weight_v l D cI cJ cZ m0 g1 g2 g3 g4 g5 g6 g7 g8 g9 g10 g11 g12 n mr (nI y) (nI q) ml (nI k) fg fb (by first | assumption | omega)) (cwV 1 hts gX7_told_X7_weight rfl rfl rfl (by decide +kernel) ⟨Nat.le_of_ble_eq_true rfl, Nat.le_of_ble_eq_true rfl⟩) ⟨pc_blind, va_recv hK hP (ci := 7) (q0 := 0) rfl rfl, fun U hU hW => ⟨rfl, by rw [hU]; exact hP.sub (ws' := [(m0, .inr (7, [.int (nI n), .ref g1, .ref g2, .ref g3, .int mr, .ref g4, .int (nI y), .ref g5, .int (nI q), .ref g6, .int ml, .ref g7, .ref g8, .ref g9, .ref g10, .ref g11, .ref g12])), (g1, .inl (cI, 9, .inl fg)), (g2, .inl (cI, 9, .inl fb))]) [0, 1, 2] rfl, hKN.warm hW⟩⟩ rfl rfl hl.1 rfl (lv_room (Nat.le_of_ble_eq_true rfl)) dX7_told_201 ⟨Nat.le_of_ble_eq_true rfl, Nat.le_of_ble_eq_true rfl⟩) hS hP (fun r46 H locs w46r hP hS => ?_)
                          have w46 : r46 = mwt fg fb (nI k) n := w46r
                          clear w46r
                          obtain rfl : r46 = mwt fg fb (nI k) n := w46
                          refine lv_aload_n hx hb dX7_told_204 rfl (lv_at hl 3 rfl) ?_
                          refine lv_iload hx hb dX7_told_205 (lv_at hl 0 rfl) ?_
                          refine lv_iload_n hx hb dX7_told_207 rfl (lv_at hl 2 rfl) ?_
                          refine pu_i (va_runV (As := [.int (nI k), .int (nI (nowN fn n))]) (rest := [.long (mwt fg fb (nI k) n), .long v]) ⟨hx, hb, hml, hown, hts⟩ (c_X7_shown_v l D cI cJ cZ m0 g1 g2 g3 g4 g5 g6 g7 g8 g9 g10 g11 g12 n (nowN fn n) y mr (nI q) ml (nI k) fp fs th fg fb Gn Bn Pn (by first | assumption | omega) (by first | assumption | omega) (by first | assumption | omega) (by first | assumption | omega) (by first | assumption | omega) (by first | assumption | omega)) (cwV 2 hts gX7_told_X7_shown rfl rfl rfl (by decide +kernel) ⟨Nat.le_of_ble_eq_true rfl, Nat.le_of_ble_eq_true rfl⟩) ⟨pc_blind, va_recv hK hP (ci := 7) (q0 := 0) rfl rfl, fun U hU hW => ⟨rfl, by rw [hU]; exact hP.sub (ws' := [(m0, .inr (7, [.int (nI n), .ref g1, .ref g2, .ref g3, .int mr, .ref g4, .int (nI y), .ref g5, .int (nI q), .ref g6, .int ml, .ref g7, .ref g8, .ref g9, .ref g10, .ref g11, .ref g12])), (g3, .inl (cI, 9, .inl fp)), (g4, .inl (cZ, 20480, .inl fs)), (g12, .inl (cI, 9, .inl th))]) [0, 3, 4, 7] rfl, hKN.warm hW⟩⟩ rfl rfl hl.1 rfl (lv_room (Nat.le_of_ble_eq_true rfl)) dX7_told_208 ⟨Nat.le_of_ble_eq_true rfl, Nat.le_of_ble_eq_true rfl⟩) hS hP (fun r47 H locs w47r hP hS => ?_)
                          have w47 : SHW (Sg fs y) n (nowN fn n) (nI k) fp (2 ^ n) r47 := w47r
                          clear w47r
                          have hw9 := w47
                          refine lv_i2l hx hb dX7_told_211 rfl ?_
                          refine lv_lmul hx hb dX7_told_212 ?_
                          refine lv_ladd hx hb dX7_told_213 ?_
                          refine lv_lstore_n (lv' := [(3, .long (v + ((mwt fg fb (nI k) n) * r47.toInt64))), (5, .int (nI k)), (2, .int (nI (nowN fn n))), (0, .ref m0), (1, .int (nI 6))]) hx hb dX7_told_214 rfl hl (by decide) rfl (fun ls hl => ?_)
                          refine lv_goto (tgt := 267) hx hb dX7_told_215 (by decide) ?_
                          refine lv_iinc (v := nI (k + 1)) (lv' := [(5, .int (nI (k + 1))), (3, .long (v + ((mwt fg fb (nI k) n) * r47.toInt64))), (2, .int (nI (nowN fn n))), (0, .ref m0), (1, .int (nI 6))]) hx hb dX7_told_267 hl (k := 1) rfl (nI_1 k) (by decide) rfl (fun ls hl => ?_)
                          refine lv_goto (tgt := 113) hx hb dX7_told_270 (by decide) ?_
                          exact ih41 (k + 1) (v + ((mwt fg fb (nI k) n) * r47.toInt64)) _ _ _ (by omega) (by first | exact Or.inl ⟨hfi, v, _, rfl, ⟨_, rfl, hw9⟩, hSq⟩ | exact Or.inr ⟨hfi, hSq⟩) hP hD hS (lv_sub hl [0, 1, 2, 3, 4] rfl)
                        · exact absurd c45 (by first | decide | exact nz_lt (by omega) | exact fun h => h (nz_ge (by omega)))
                      · skip
                        have hfi := w44
                        refine lv_if_ne (tgt := 135) hx hb dX7_told_129 (by decide) (fun c48 => ?_) (fun c48 => ?_)
                        · exact absurd c48 (by first | decide | exact nz_lt (by omega) | exact fun h => h (nz_ge (by omega)))
                        · skip
                          refine lv_goto (tgt := 267) hx hb dX7_told_132 (by decide) ?_
                          refine lv_iinc (v := nI (k + 1)) (lv' := [(5, .int (nI (k + 1))), (3, .long v), (2, .int (nI (nowN fn n))), (0, .ref m0), (1, .int (nI 6))]) hx hb dX7_told_267 hl (k := 0) rfl (nI_1 k) (by decide) rfl (fun ls hl => ?_)
                          refine lv_goto (tgt := 113) hx hb dX7_told_270 (by decide) ?_
                          exact ih41 (k + 1) v _ _ _ (by omega) (by first | exact Or.inl ⟨hfi, v, _, rfl, ⟨_, rfl, hw9⟩, hSq⟩ | exact Or.inr ⟨hfi, hSq⟩) hP hD hS (lv_sub hl [0, 1, 2, 3, 4] rfl)
                exact loop41 (2 ^ n + 1) 0 (lN 0) _ _ _ (by omega) rfl hP hD hS (lv_sub hl [0, 1, 2, 3, 4] rfl)
              · exact absurd c40 (by first | decide | exact nz_lt (by omega) | exact fun h => h (nz_ge (by omega)))
          · skip
            refine lv_iload_n hx hb dX7_told_38 rfl (lv_at hl 2 rfl) ?_
            refine lv_i2l hx hb dX7_told_39 rfl ?_
            refine cn_l (y := lN 7) (nI_l (by omega)) ?_
            refine lv_ldc2 (v := lN 2) hx hb hown (hts (.constantLong RX7 134 (lN 2)) (by decide +kernel)) dX7_told_40 ?_
            refine lv_ldc2 (v := lN 5) hx hb hown (hts (.constantLong RX7 136 (lN 5)) (by decide +kernel)) dX7_told_43 ?_
            refine pu_i (va_runS (As := [.long (lN 7), .long (lN 2), .long (lN 5)]) (rest := []) ⟨hx, hb, hml, hown, hts⟩ (c_X7_in l D cI cJ cZ (lN 7) (lN 2) (lN 5)) (va_cwS 3 hts gX7_told_X7_in rfl rfl rfl (by decide +kernel) ⟨Nat.le_of_ble_eq_true rfl, Nat.le_of_ble_eq_true rfl⟩) ⟨pc_blind, fun U hU hW => ⟨rfl, by rw [hU]; exact hP.sub (ws' := []) [] rfl, hKN.warm hW⟩⟩ rfl rfl hl.1 rfl (lv_room (Nat.le_of_ble_eq_true rfl)) dX7_told_46 ⟨Nat.le_of_ble_eq_true rfl, Nat.le_of_ble_eq_true rfl⟩) hS hP (fun r49 H locs w49r hP hS => ?_)
            have w49 : B01 r49 ((lN 2).toInt ≤ (lN 7).toInt ∧ (lN 7).toInt ≤ (lN 5).toInt) := w49r
            clear w49r
            rw [lN_toInt (n := 2) (by omega), lN_toInt (n := 7) (by omega), lN_toInt (n := 5) (by omega)] at w49
            rcases w49 with ⟨rfl, w49⟩ | ⟨rfl, w49⟩
            · exact absurd w49 (by omega)
            · skip
              refine lv_if_eq (tgt := 108) hx hb dX7_told_49 (by decide) (fun c50 => ?_) (fun c50 => ?_)
              · skip
                refine lv_lconst (v := lN 0) hx hb dX7_told_108 (by decide) ?_
                refine lv_lstore_n (lv' := [(3, .long (lN 0)), (2, .int (nI (nowN fn n))), (0, .ref m0), (1, .int (nI 7))]) hx hb dX7_told_109 rfl hl (by decide) rfl (fun ls hl => ?_)
                refine lv_iconst (v := nI 0) hx hb dX7_told_110 (by decide) ?_
                refine lv_istore (lv' := [(5, .int (nI 0)), (3, .long (lN 0)), (2, .int (nI (nowN fn n))), (0, .ref m0), (1, .int (nI 7))]) hx hb dX7_told_111 hl (by decide) rfl (fun ls hl => ?_)
                have loop51 : ∀ (fu : Nat) (k : Nat) (v : Int64) (H : Heap) (locs : List Loc) (ls : Array Slot), (k ≤ 2 ^ n ∧ 2 ^ n < k + fu) → (SR (fun t => SCH (nowN fn n) n (nI t)) (fun t x => ∃ w : Int32, x = mwt fg fb (nI t) n * w.toInt64 ∧ BO fo q n (US (Sg fs y) n 1 2) fp (nowN fn n) t w) k v) → va_P D vwCl [(m0, .inr (7, [.int (nI n), .ref g1, .ref g2, .ref g3, .int mr, .ref g4, .int (nI y), .ref g5, .int (nI q), .ref g6, .int ml, .ref g7, .ref g8, .ref g9, .ref g10, .ref g11, .ref g12])), (g1, .inl (cI, 9, .inl fg)), (g2, .inl (cI, 9, .inl fb)), (g3, .inl (cI, 9, .inl fp)), (g4, .inl (cZ, 20480, .inl fs)), (g5, .inl (cI, 9, .inl fn)), (g6, .inl (cI, 9, .inl fo)), (g12, .inl (cI, 9, .inl th)), (g8, .inl (cJ, 19683, .inr (.inl eb))), (g9, .inl (cI, 19683, .inl en)), (g10, .inl (cI, 19683, .inl ew)), (g11, .inl (cI, 19683, .inl ex))] H → va_D (aA as) [(m0, .inr (7, [.int (nI n), .ref g1, .ref g2, .ref g3, .int mr, .ref g4, .int (nI y), .ref g5, .int (nI q), .ref g6, .int ml, .ref g7, .ref g8, .ref g9, .ref g10, .ref g11, .ref g12])), (g1, .inl (cI, 9, .inl fg)), (g2, .inl (cI, 9, .inl fb)), (g3, .inl (cI, 9, .inl fp)), (g4, .inl (cZ, 20480, .inl fs)), (g5, .inl (cI, 9, .inl fn)), (g6, .inl (cI, 9, .inl fo)), (g12, .inl (cI, 9, .inl th)), (g8, .inl (cJ, 19683, .inr (.inl eb))), (g9, .inl (cI, 19683, .inl en)), (g10, .inl (cI, 19683, .inl ew)), (g11, .inl (cI, 19683, .inl ex))] → va_S (aA as) s.heap H locs → lv_has ls 7 [(5, .int (nI k)), (3, .long v), (2, .int (nI (nowN fn n))), (0, .ref m0), (1, .int (nI 7))] → W p l e (headSpec wsX7_told rm_c_X7_told_v).room s m ([.ref m0, .int (nI 7)] : List Value).toArray below meth c H locs 0 0 Q (F0 m 113 ls []) := by
                  intro fu
                  induction fu with
                  | zero => intro k v H locs ls hk hSq; exact absurd hk (by omega)
                  | succ fu ih51 =>
                    intro k v H locs ls hk hSq hP hD hS hl
                    refine lv_iload hx hb dX7_told_113 (lv_at hl 0 rfl) ?_
                    refine lv_aload_n hx hb dX7_told_115 rfl (lv_at hl 3 rfl) ?_
                    refine pu_i (va_runV (As := []) (rest := [.int (nI k)]) ⟨hx, hb, hml, hown, hts⟩ (c_X7_settings l D cI cJ cZ m0 g1 g2 g3 g4 g5 g6 g7 g8 g9 g10 g11 g12 n mr (nI y) (nI q) ml (by first | assumption | omega)) (cwV 0 hts gX7_told_X7_settings rfl rfl rfl (by decide +kernel) ⟨Nat.le_of_ble_eq_true rfl, Nat.le_of_ble_eq_true rfl⟩) ⟨pc_blind, va_recv hK hP (ci := 7) (q0 := 0) rfl rfl, fun U hU hW => ⟨rfl, by rw [hU]; exact hP.sub (ws' := [(m0, .inr (7, [.int (nI n), .ref g1, .ref g2, .ref g3, .int mr, .ref g4, .int (nI y), .ref g5, .int (nI q), .ref g6, .int ml, .ref g7, .ref g8, .ref g9, .ref g10, .ref g11, .ref g12]))]) [0] rfl, hKN.warm hW⟩⟩ rfl rfl hl.1 rfl (lv_room (Nat.le_of_ble_eq_true rfl)) dX7_told_116 ⟨Nat.le_of_ble_eq_true rfl, Nat.le_of_ble_eq_true rfl⟩) hS hP (fun r52 H locs w52r hP hS => ?_)
                    have w52 : r52 = nI (2 ^ n) := w52r
                    clear w52r
                    obtain rfl : r52 = nI (2 ^ n) := w52
                    refine lv_icmp_ge (tgt := 273) hx hb dX7_told_119 (by decide) (fun c53 => ?_) (fun c53 => ?_)
                    · skip
                      have d53 := c53
                      rw [nI_leI (by omega) (by omega)] at d53
                      refine lv_lload_n hx hb dX7_told_273 rfl (lv_at hl 1 rfl) ?_
                      rw [← hQ]
                      exact W.lret (v := v) hx hb hr (fun tS htS hWS => ⟨⟨v, (eb, en, ew, ex), rfl, ⟨fun e => absurd e (by decide), fun e => absurd e (by decide), fun e => absurd e (by decide), fun e => absurd e (by decide), fun e => absurd e (by decide), fun e => absurd e (by decide), fun e => absurd e (by decide), fun _ => (show k = 2 ^ n by omega) ▸ hSq, fun e => absurd e (by decide), fun e => absurd e.2 (by decide)⟩, m_at htS hP⟩, by rw [← has]; exact hS.F htS⟩) (by rw [← has]; exact hS.2.2) dX7_told_274
                    · skip
                      have d53 := c53
                      rw [nI_leI (by omega) (by omega)] at d53
                      refine lv_aload_n hx hb dX7_told_122 rfl (lv_at hl 3 rfl) ?_
                      refine lv_iload hx hb dX7_told_123 (lv_at hl 0 rfl) ?_
                      refine lv_iload_n hx hb dX7_told_125 rfl (lv_at hl 2 rfl) ?_
                      refine pu_i (va_runV (As := [.int (nI k), .int (nI (nowN fn n))]) (rest := []) ⟨hx, hb, hml, hown, hts⟩ (c_X7_isSuch_v l D cI cJ cZ m0 g1 g2 g3 g4 g5 g6 g7 g8 g9 g10 g11 g12 n (nowN fn n) mr (nI y) (nI q) ml (nI k) th (by first | assumption | omega) (by first | assumption | omega) (by first | assumption | omega)) (cwV 2 hts gX7_told_X7_isSuch rfl rfl rfl (by decide +kernel) ⟨Nat.le_of_ble_eq_true rfl, Nat.le_of_ble_eq_true rfl⟩) ⟨pc_blind, va_recv hK hP (ci := 7) (q0 := 0) rfl rfl, fun U hU hW => ⟨rfl, by rw [hU]; exact hP.sub (ws' := [(m0, .inr (7, [.int (nI n), .ref g1, .ref g2, .ref g3, .int mr, .ref g4, .int (nI y), .ref g5, .int (nI q), .ref g6, .int ml, .ref g7, .ref g8, .ref g9, .ref g10, .ref g11, .ref g12])), (g12, .inl (cI, 9, .inl th))]) [0, 7] rfl, hKN.warm hW⟩⟩ rfl rfl hl.1 rfl (lv_room (Nat.le_of_ble_eq_true rfl)) dX7_told_126 ⟨Nat.le_of_ble_eq_true rfl, Nat.le_of_ble_eq_true rfl⟩) hS hP (fun r54 H locs w54r hP hS => ?_)
                      have w54 : B01 r54 (SCH (nowN fn n) n (nI k)) := w54r
                      clear w54r
                      rcases w54 with ⟨rfl, w54⟩ | ⟨rfl, w54⟩
                      · skip
                        have hfi := w54
                        refine lv_if_ne (tgt := 135) hx hb dX7_told_129 (by decide) (fun c55 => ?_) (fun c55 => ?_)
                        · skip
                          refine lv_iload_n hx hb dX7_told_135 rfl (lv_at hl 4 rfl) ?_
                          refine lv_lookup (tgt := 218) (off := 82) hx hb dX7_told_136 (by decide) (by decide) (by decide) ?_
                          refine lv_lload_n hx hb dX7_told_218 rfl (lv_at hl 1 rfl) ?_
                          refine lv_aload_n hx hb dX7_told_219 rfl (lv_at hl 3 rfl) ?_
                          refine lv_iload hx hb dX7_told_220 (lv_at hl 0 rfl) ?_
                          refine pu_l (va_runV (As := [.int (nI k)]) (rest := [.long v]) ⟨hx, hb, hml, hown, hts⟩ (c_X7_weight_v l D cI cJ cZ m0 g1 g2 g3 g4 g5 g6 g7 g8 g9 g10 g11 g12 n mr (nI y) (nI q) ml (nI k) fg fb (by first | assumption | omega)) (cwV 1 hts gX7_told_X7_weight rfl rfl rfl (by decide +kernel) ⟨Nat.le_of_ble_eq_true rfl, Nat.le_of_ble_eq_true rfl⟩) ⟨pc_blind, va_recv hK hP (ci := 7) (q0 := 0) rfl rfl, fun U hU hW => ⟨rfl, by rw [hU]; exact hP.sub (ws' := [(m0, .inr (7, [.int (nI n), .ref g1, .ref g2, .ref g3, .int mr, .ref g4, .int (nI y), .ref g5, .int (nI q), .ref g6, .int ml, .ref g7, .ref g8, .ref g9, .ref g10, .ref g11, .ref g12])), (g1, .inl (cI, 9, .inl fg)), (g2, .inl (cI, 9, .inl fb))]) [0, 1, 2] rfl, hKN.warm hW⟩⟩ rfl rfl hl.1 rfl (lv_room (Nat.le_of_ble_eq_true rfl)) dX7_told_222 ⟨Nat.le_of_ble_eq_true rfl, Nat.le_of_ble_eq_true rfl⟩) hS hP (fun r56 H locs w56r hP hS => ?_)
                          have w56 : r56 = mwt fg fb (nI k) n := w56r
                          clear w56r
                          obtain rfl : r56 = mwt fg fb (nI k) n := w56
                          refine lv_aload_n hx hb dX7_told_225 rfl (lv_at hl 3 rfl) ?_
                          refine lv_iload hx hb dX7_told_226 (lv_at hl 0 rfl) ?_
                          refine lv_iload_n hx hb dX7_told_228 rfl (lv_at hl 2 rfl) ?_
                          refine pu_i (va_runV (As := [.int (nI k), .int (nI (nowN fn n))]) (rest := [.long (mwt fg fb (nI k) n), .long v]) ⟨hx, hb, hml, hown, hts⟩ (c_X7_byOrder_v l D cI cJ cZ m0 g1 g2 g3 g4 g5 g6 g7 g8 g9 g10 g11 g12 n q (nowN fn n) y k mr ml fp fs fo th (by first | assumption | omega) (by first | assumption | omega) (by omega) (by first | assumption | omega) (by first | assumption | omega) (by first | assumption | omega) (by first | assumption | omega) (by first | assumption | omega)) (cwV 2 hts gX7_told_X7_byOrder rfl rfl rfl (by decide +kernel) ⟨Nat.le_of_ble_eq_true rfl, Nat.le_of_ble_eq_true rfl⟩) ⟨pc_blind, va_recv hK hP (ci := 7) (q0 := 0) rfl rfl, fun U hU hW => ⟨rfl, by rw [hU]; exact hP.sub (ws' := [(m0, .inr (7, [.int (nI n), .ref g1, .ref g2, .ref g3, .int mr, .ref g4, .int (nI y), .ref g5, .int (nI q), .ref g6, .int ml, .ref g7, .ref g8, .ref g9, .ref g10, .ref g11, .ref g12])), (g3, .inl (cI, 9, .inl fp)), (g4, .inl (cZ, 20480, .inl fs)), (g6, .inl (cI, 9, .inl fo)), (g12, .inl (cI, 9, .inl th))]) [0, 3, 4, 6, 7] rfl, hKN.warm hW⟩⟩ rfl rfl hl.1 rfl (lv_room (Nat.le_of_ble_eq_true rfl)) dX7_told_229 ⟨Nat.le_of_ble_eq_true rfl, Nat.le_of_ble_eq_true rfl⟩) hS hP (fun r57 H locs w57r hP hS => ?_)
                          have w57 : BO fo q n (US (Sg fs y) n 1 2) fp (nowN fn n) k r57 := w57r
                          clear w57r
                          have hw9 := w57
                          refine lv_i2l hx hb dX7_told_232 rfl ?_
                          refine lv_lmul hx hb dX7_told_233 ?_
                          refine lv_ladd hx hb dX7_told_234 ?_
                          refine lv_lstore_n (lv' := [(3, .long (v + ((mwt fg fb (nI k) n) * r57.toInt64))), (5, .int (nI k)), (2, .int (nI (nowN fn n))), (0, .ref m0), (1, .int (nI 7))]) hx hb dX7_told_235 rfl hl (by decide) rfl (fun ls hl => ?_)
                          refine lv_goto (tgt := 267) hx hb dX7_told_236 (by decide) ?_
                          refine lv_iinc (v := nI (k + 1)) (lv' := [(5, .int (nI (k + 1))), (3, .long (v + ((mwt fg fb (nI k) n) * r57.toInt64))), (2, .int (nI (nowN fn n))), (0, .ref m0), (1, .int (nI 7))]) hx hb dX7_told_267 hl (k := 1) rfl (nI_1 k) (by decide) rfl (fun ls hl => ?_)
                          refine lv_goto (tgt := 113) hx hb dX7_told_270 (by decide) ?_
                          exact ih51 (k + 1) (v + ((mwt fg fb (nI k) n) * r57.toInt64)) _ _ _ (by omega) (by first | exact Or.inl ⟨hfi, v, _, rfl, ⟨_, rfl, hw9⟩, hSq⟩ | exact Or.inr ⟨hfi, hSq⟩) hP hD hS (lv_sub hl [0, 1, 2, 3, 4] rfl)
                        · exact absurd c55 (by first | decide | exact nz_lt (by omega) | exact fun h => h (nz_ge (by omega)))
                      · skip
                        have hfi := w54
                        refine lv_if_ne (tgt := 135) hx hb dX7_told_129 (by decide) (fun c58 => ?_) (fun c58 => ?_)
                        · exact absurd c58 (by first | decide | exact nz_lt (by omega) | exact fun h => h (nz_ge (by omega)))
                        · skip
                          refine lv_goto (tgt := 267) hx hb dX7_told_132 (by decide) ?_
                          refine lv_iinc (v := nI (k + 1)) (lv' := [(5, .int (nI (k + 1))), (3, .long v), (2, .int (nI (nowN fn n))), (0, .ref m0), (1, .int (nI 7))]) hx hb dX7_told_267 hl (k := 0) rfl (nI_1 k) (by decide) rfl (fun ls hl => ?_)
                          refine lv_goto (tgt := 113) hx hb dX7_told_270 (by decide) ?_
                          exact ih51 (k + 1) v _ _ _ (by omega) (by first | exact Or.inl ⟨hfi, v, _, rfl, ⟨_, rfl, hw9⟩, hSq⟩ | exact Or.inr ⟨hfi, hSq⟩) hP hD hS (lv_sub hl [0, 1, 2, 3, 4] rfl)
                exact loop51 (2 ^ n + 1) 0 (lN 0) _ _ _ (by omega) rfl hP hD hS (lv_sub hl [0, 1, 2, 3, 4] rfl)
              · exact absurd c50 (by first | decide | exact nz_lt (by omega) | exact fun h => h (nz_ge (by omega)))
          · skip
            refine lv_iload_n hx hb dX7_told_38 rfl (lv_at hl 2 rfl) ?_
            refine lv_i2l hx hb dX7_told_39 rfl ?_
            refine cn_l (y := lN 8) (nI_l (by omega)) ?_
            refine lv_ldc2 (v := lN 2) hx hb hown (hts (.constantLong RX7 134 (lN 2)) (by decide +kernel)) dX7_told_40 ?_
            refine lv_ldc2 (v := lN 5) hx hb hown (hts (.constantLong RX7 136 (lN 5)) (by decide +kernel)) dX7_told_43 ?_
            refine pu_i (va_runS (As := [.long (lN 8), .long (lN 2), .long (lN 5)]) (rest := []) ⟨hx, hb, hml, hown, hts⟩ (c_X7_in l D cI cJ cZ (lN 8) (lN 2) (lN 5)) (va_cwS 3 hts gX7_told_X7_in rfl rfl rfl (by decide +kernel) ⟨Nat.le_of_ble_eq_true rfl, Nat.le_of_ble_eq_true rfl⟩) ⟨pc_blind, fun U hU hW => ⟨rfl, by rw [hU]; exact hP.sub (ws' := []) [] rfl, hKN.warm hW⟩⟩ rfl rfl hl.1 rfl (lv_room (Nat.le_of_ble_eq_true rfl)) dX7_told_46 ⟨Nat.le_of_ble_eq_true rfl, Nat.le_of_ble_eq_true rfl⟩) hS hP (fun r59 H locs w59r hP hS => ?_)
            have w59 : B01 r59 ((lN 2).toInt ≤ (lN 8).toInt ∧ (lN 8).toInt ≤ (lN 5).toInt) := w59r
            clear w59r
            rw [lN_toInt (n := 2) (by omega), lN_toInt (n := 8) (by omega), lN_toInt (n := 5) (by omega)] at w59
            rcases w59 with ⟨rfl, w59⟩ | ⟨rfl, w59⟩
            · exact absurd w59 (by omega)
            · skip
              refine lv_if_eq (tgt := 108) hx hb dX7_told_49 (by decide) (fun c60 => ?_) (fun c60 => ?_)
              · skip
                refine lv_lconst (v := lN 0) hx hb dX7_told_108 (by decide) ?_
                refine lv_lstore_n (lv' := [(3, .long (lN 0)), (2, .int (nI (nowN fn n))), (0, .ref m0), (1, .int (nI 8))]) hx hb dX7_told_109 rfl hl (by decide) rfl (fun ls hl => ?_)
                refine lv_iconst (v := nI 0) hx hb dX7_told_110 (by decide) ?_
                refine lv_istore (lv' := [(5, .int (nI 0)), (3, .long (lN 0)), (2, .int (nI (nowN fn n))), (0, .ref m0), (1, .int (nI 8))]) hx hb dX7_told_111 hl (by decide) rfl (fun ls hl => ?_)
                have loop61 : ∀ (fu : Nat) (k : Nat) (v : Int64) (H : Heap) (locs : List Loc) (ls : Array Slot), (k ≤ 2 ^ n ∧ 2 ^ n < k + fu) → (MXK (fun t => SCH (nowN fn n) n (nI t)) (BO fo q n (US (Sg fs y) n 1 2) fp (nowN fn n)) k v) → va_P D vwCl [(m0, .inr (7, [.int (nI n), .ref g1, .ref g2, .ref g3, .int mr, .ref g4, .int (nI y), .ref g5, .int (nI q), .ref g6, .int ml, .ref g7, .ref g8, .ref g9, .ref g10, .ref g11, .ref g12])), (g1, .inl (cI, 9, .inl fg)), (g2, .inl (cI, 9, .inl fb)), (g3, .inl (cI, 9, .inl fp)), (g4, .inl (cZ, 20480, .inl fs)), (g5, .inl (cI, 9, .inl fn)), (g6, .inl (cI, 9, .inl fo)), (g12, .inl (cI, 9, .inl th)), (g8, .inl (cJ, 19683, .inr (.inl eb))), (g9, .inl (cI, 19683, .inl en)), (g10, .inl (cI, 19683, .inl ew)), (g11, .inl (cI, 19683, .inl ex))] H → va_D (aA as) [(m0, .inr (7, [.int (nI n), .ref g1, .ref g2, .ref g3, .int mr, .ref g4, .int (nI y), .ref g5, .int (nI q), .ref g6, .int ml, .ref g7, .ref g8, .ref g9, .ref g10, .ref g11, .ref g12])), (g1, .inl (cI, 9, .inl fg)), (g2, .inl (cI, 9, .inl fb)), (g3, .inl (cI, 9, .inl fp)), (g4, .inl (cZ, 20480, .inl fs)), (g5, .inl (cI, 9, .inl fn)), (g6, .inl (cI, 9, .inl fo)), (g12, .inl (cI, 9, .inl th)), (g8, .inl (cJ, 19683, .inr (.inl eb))), (g9, .inl (cI, 19683, .inl en)), (g10, .inl (cI, 19683, .inl ew)), (g11, .inl (cI, 19683, .inl ex))] → va_S (aA as) s.heap H locs → lv_has ls 7 [(5, .int (nI k)), (3, .long v), (2, .int (nI (nowN fn n))), (0, .ref m0), (1, .int (nI 8))] → W p l e (headSpec wsX7_told rm_c_X7_told_v).room s m ([.ref m0, .int (nI 8)] : List Value).toArray below meth c H locs 0 0 Q (F0 m 113 ls []) := by
                  intro fu
                  induction fu with
                  | zero => intro k v H locs ls hk hSq; exact absurd hk (by omega)
                  | succ fu ih61 =>
                    intro k v H locs ls hk hSq hP hD hS hl
                    refine lv_iload hx hb dX7_told_113 (lv_at hl 0 rfl) ?_
                    refine lv_aload_n hx hb dX7_told_115 rfl (lv_at hl 3 rfl) ?_
                    refine pu_i (va_runV (As := []) (rest := [.int (nI k)]) ⟨hx, hb, hml, hown, hts⟩ (c_X7_settings l D cI cJ cZ m0 g1 g2 g3 g4 g5 g6 g7 g8 g9 g10 g11 g12 n mr (nI y) (nI q) ml (by first | assumption | omega)) (cwV 0 hts gX7_told_X7_settings rfl rfl rfl (by decide +kernel) ⟨Nat.le_of_ble_eq_true rfl, Nat.le_of_ble_eq_true rfl⟩) ⟨pc_blind, va_recv hK hP (ci := 7) (q0 := 0) rfl rfl, fun U hU hW => ⟨rfl, by rw [hU]; exact hP.sub (ws' := [(m0, .inr (7, [.int (nI n), .ref g1, .ref g2, .ref g3, .int mr, .ref g4, .int (nI y), .ref g5, .int (nI q), .ref g6, .int ml, .ref g7, .ref g8, .ref g9, .ref g10, .ref g11, .ref g12]))]) [0] rfl, hKN.warm hW⟩⟩ rfl rfl hl.1 rfl (lv_room (Nat.le_of_ble_eq_true rfl)) dX7_told_116 ⟨Nat.le_of_ble_eq_true rfl, Nat.le_of_ble_eq_true rfl⟩) hS hP (fun r62 H locs w62r hP hS => ?_)
                    have w62 : r62 = nI (2 ^ n) := w62r
                    clear w62r
                    obtain rfl : r62 = nI (2 ^ n) := w62
                    refine lv_icmp_ge (tgt := 273) hx hb dX7_told_119 (by decide) (fun c63 => ?_) (fun c63 => ?_)
                    · skip
                      have d63 := c63
                      rw [nI_leI (by omega) (by omega)] at d63
                      refine lv_lload_n hx hb dX7_told_273 rfl (lv_at hl 1 rfl) ?_
                      rw [← hQ]
                      exact W.lret (v := v) hx hb hr (fun tS htS hWS => ⟨⟨v, (eb, en, ew, ex), rfl, ⟨fun e => absurd e (by decide), fun e => absurd e (by decide), fun e => absurd e (by decide), fun e => absurd e (by decide), fun e => absurd e (by decide), fun e => absurd e (by decide), fun e => absurd e (by decide), fun e => absurd e (by decide), fun _ => (show k = 2 ^ n by omega) ▸ hSq, fun e => absurd e.2 (by decide)⟩, m_at htS hP⟩, by rw [← has]; exact hS.F htS⟩) (by rw [← has]; exact hS.2.2) dX7_told_274
                    · skip
                      have d63 := c63
                      rw [nI_leI (by omega) (by omega)] at d63
                      refine lv_aload_n hx hb dX7_told_122 rfl (lv_at hl 3 rfl) ?_
                      refine lv_iload hx hb dX7_told_123 (lv_at hl 0 rfl) ?_
                      refine lv_iload_n hx hb dX7_told_125 rfl (lv_at hl 2 rfl) ?_
                      refine pu_i (va_runV (As := [.int (nI k), .int (nI (nowN fn n))]) (rest := []) ⟨hx, hb, hml, hown, hts⟩ (c_X7_isSuch_v l D cI cJ cZ m0 g1 g2 g3 g4 g5 g6 g7 g8 g9 g10 g11 g12 n (nowN fn n) mr (nI y) (nI q) ml (nI k) th (by first | assumption | omega) (by first | assumption | omega) (by first | assumption | omega)) (cwV 2 hts gX7_told_X7_isSuch rfl rfl rfl (by decide +kernel) ⟨Nat.le_of_ble_eq_true rfl, Nat.le_of_ble_eq_true rfl⟩) ⟨pc_blind, va_recv hK hP (ci := 7) (q0 := 0) rfl rfl, fun U hU hW => ⟨rfl, by rw [hU]; exact hP.sub (ws' := [(m0, .inr (7, [.int (nI n), .ref g1, .ref g2, .ref g3, .int mr, .ref g4, .int (nI y), .ref g5, .int (nI q), .ref g6, .int ml, .ref g7, .ref g8, .ref g9, .ref g10, .ref g11, .ref g12])), (g12, .inl (cI, 9, .inl th))]) [0, 7] rfl, hKN.warm hW⟩⟩ rfl rfl hl.1 rfl (lv_room (Nat.le_of_ble_eq_true rfl)) dX7_told_126 ⟨Nat.le_of_ble_eq_true rfl, Nat.le_of_ble_eq_true rfl⟩) hS hP (fun r64 H locs w64r hP hS => ?_)
                      have w64 : B01 r64 (SCH (nowN fn n) n (nI k)) := w64r
                      clear w64r
                      rcases w64 with ⟨rfl, w64⟩ | ⟨rfl, w64⟩
                      · skip
                        have hfi := w64
                        refine lv_if_ne (tgt := 135) hx hb dX7_told_129 (by decide) (fun c65 => ?_) (fun c65 => ?_)
                        · skip
                          refine lv_iload_n hx hb dX7_told_135 rfl (lv_at hl 4 rfl) ?_
                          refine lv_lookup (tgt := 239) (off := 103) hx hb dX7_told_136 (by decide) (by decide) (by decide) ?_
                          refine lv_aload_n hx hb dX7_told_239 rfl (lv_at hl 3 rfl) ?_
                          refine lv_iload hx hb dX7_told_240 (lv_at hl 0 rfl) ?_
                          refine lv_iload_n hx hb dX7_told_242 rfl (lv_at hl 2 rfl) ?_
                          refine pu_i (va_runV (As := [.int (nI k), .int (nI (nowN fn n))]) (rest := []) ⟨hx, hb, hml, hown, hts⟩ (c_X7_byOrder_v l D cI cJ cZ m0 g1 g2 g3 g4 g5 g6 g7 g8 g9 g10 g11 g12 n q (nowN fn n) y k mr ml fp fs fo th (by first | assumption | omega) (by first | assumption | omega) (by omega) (by first | assumption | omega) (by first | assumption | omega) (by first | assumption | omega) (by first | assumption | omega) (by first | assumption | omega)) (cwV 2 hts gX7_told_X7_byOrder rfl rfl rfl (by decide +kernel) ⟨Nat.le_of_ble_eq_true rfl, Nat.le_of_ble_eq_true rfl⟩) ⟨pc_blind, va_recv hK hP (ci := 7) (q0 := 0) rfl rfl, fun U hU hW => ⟨rfl, by rw [hU]; exact hP.sub (ws' := [(m0, .inr (7, [.int (nI n), .ref g1, .ref g2, .ref g3, .int mr, .ref g4, .int (nI y), .ref g5, .int (nI q), .ref g6, .int ml, .ref g7, .ref g8, .ref g9, .ref g10, .ref g11, .ref g12])), (g3, .inl (cI, 9, .inl fp)), (g4, .inl (cZ, 20480, .inl fs)), (g6, .inl (cI, 9, .inl fo)), (g12, .inl (cI, 9, .inl th))]) [0, 3, 4, 6, 7] rfl, hKN.warm hW⟩⟩ rfl rfl hl.1 rfl (lv_room (Nat.le_of_ble_eq_true rfl)) dX7_told_243 ⟨Nat.le_of_ble_eq_true rfl, Nat.le_of_ble_eq_true rfl⟩) hS hP (fun r66 H locs w66r hP hS => ?_)
                          have w66 : BO fo q n (US (Sg fs y) n 1 2) fp (nowN fn n) k r66 := w66r
                          clear w66r
                          have hw9 := w66
                          refine lv_istore (lv' := [(6, .int r66), (5, .int (nI k)), (3, .long v), (2, .int (nI (nowN fn n))), (0, .ref m0), (1, .int (nI 8))]) hx hb dX7_told_246 hl (by decide) rfl (fun ls hl => ?_)
                          refine lv_iload hx hb dX7_told_248 (lv_at hl 0 rfl) ?_
                          refine lv_i2l hx hb dX7_told_250 rfl ?_
                          refine lv_lload_n hx hb dX7_told_251 rfl (lv_at hl 2 rfl) ?_
                          refine W.lcmp hx hb dX7_told_252 ?_
                          refine lv_if_le (tgt := 262) hx hb dX7_told_253 (by decide) (fun c67 => ?_) (fun c67 => ?_)
                          · skip
                            have d67 := c67
                            rw [lc_le, j_le, j2 r66] at d67
                            have hl9 := d67
                            refine lv_lload_n hx hb dX7_told_262 rfl (lv_at hl 2 rfl) ?_
                            refine lv_lstore_n (lv' := [(3, .long v), (6, .int r66), (5, .int (nI k)), (2, .int (nI (nowN fn n))), (0, .ref m0), (1, .int (nI 8))]) hx hb dX7_told_263 rfl hl (by decide) rfl (fun ls hl => ?_)
                            refine lv_goto (tgt := 267) hx hb dX7_told_264 (by decide) ?_
                            refine lv_iinc (v := nI (k + 1)) (lv' := [(5, .int (nI (k + 1))), (3, .long v), (6, .int r66), (2, .int (nI (nowN fn n))), (0, .ref m0), (1, .int (nI 8))]) hx hb dX7_told_267 hl (k := 2) rfl (nI_1 k) (by decide) rfl (fun ls hl => ?_)
                            refine lv_goto (tgt := 113) hx hb dX7_told_270 (by decide) ?_
                            exact ih61 (k + 1) v _ _ _ (by omega) (by first | exact hSq.skip hfi | exact hSq.leave hw9 hl9 | exact hSq.take hfi hw9 hl9) hP hD hS (lv_sub hl [0, 1, 3, 4, 5] rfl)
                          · skip
                            have d67 := c67
                            rw [lc_le, j_le, j2 r66] at d67
                            have hl9 := d67
                            refine lv_iload hx hb dX7_told_256 (lv_at hl 0 rfl) ?_
                            refine lv_i2l hx hb dX7_told_258 rfl ?_
                            refine lv_goto (tgt := 263) hx hb dX7_told_259 (by decide) ?_
                            refine lv_lstore_n (lv' := [(3, .long r66.toInt64), (6, .int r66), (5, .int (nI k)), (2, .int (nI (nowN fn n))), (0, .ref m0), (1, .int (nI 8))]) hx hb dX7_told_263 rfl hl (by decide) rfl (fun ls hl => ?_)
                            refine lv_goto (tgt := 267) hx hb dX7_told_264 (by decide) ?_
                            refine lv_iinc (v := nI (k + 1)) (lv' := [(5, .int (nI (k + 1))), (3, .long r66.toInt64), (6, .int r66), (2, .int (nI (nowN fn n))), (0, .ref m0), (1, .int (nI 8))]) hx hb dX7_told_267 hl (k := 2) rfl (nI_1 k) (by decide) rfl (fun ls hl => ?_)
                            refine lv_goto (tgt := 113) hx hb dX7_told_270 (by decide) ?_
                            exact ih61 (k + 1) r66.toInt64 _ _ _ (by omega) (by first | exact hSq.skip hfi | exact hSq.leave hw9 hl9 | exact hSq.take hfi hw9 hl9) hP hD hS (lv_sub hl [0, 1, 3, 4, 5] rfl)
                        · exact absurd c65 (by first | decide | exact nz_lt (by omega) | exact fun h => h (nz_ge (by omega)))
                      · skip
                        have hfi := w64
                        refine lv_if_ne (tgt := 135) hx hb dX7_told_129 (by decide) (fun c68 => ?_) (fun c68 => ?_)
                        · exact absurd c68 (by first | decide | exact nz_lt (by omega) | exact fun h => h (nz_ge (by omega)))
                        · skip
                          refine lv_goto (tgt := 267) hx hb dX7_told_132 (by decide) ?_
                          refine lv_iinc (v := nI (k + 1)) (lv' := [(5, .int (nI (k + 1))), (3, .long v), (2, .int (nI (nowN fn n))), (0, .ref m0), (1, .int (nI 8))]) hx hb dX7_told_267 hl (k := 0) rfl (nI_1 k) (by decide) rfl (fun ls hl => ?_)
                          refine lv_goto (tgt := 113) hx hb dX7_told_270 (by decide) ?_
                          exact ih61 (k + 1) v _ _ _ (by omega) (by first | exact hSq.skip hfi | exact hSq.leave hw9 hl9 | exact hSq.take hfi hw9 hl9) hP hD hS (lv_sub hl [0, 1, 2, 3, 4] rfl)
                exact loop61 (2 ^ n + 1) 0 (lN 0) _ _ _ (by omega) MXK.nil hP hD hS (lv_sub hl [0, 1, 2, 3, 4] rfl)
              · exact absurd c60 (by first | decide | exact nz_lt (by omega) | exact fun h => h (nz_ge (by omega)))
        · exact absurd c5 (by first | decide | exact nz_lt (by omega) | exact fun h => h (nz_ge (by omega)))
      · skip
        have hin := w4
        refine lv_if_ne (tgt := 38) hx hb dX7_told_31 (by decide) (fun c69 => ?_) (fun c69 => ?_)
        · exact absurd c69 (by first | decide | exact nz_lt (by omega) | exact fun h => h (nz_ge (by omega)))
        · skip
          refine lv_ldc2 (v := (-2 : Int64)) hx hb hown (hts (.constantLong RX7 132 (-2 : Int64)) (by decide +kernel)) dX7_told_34 ?_
          rw [← hQ]
          exact W.lret (v := (-2 : Int64)) hx hb hr (fun tS htS hWS => ⟨⟨(-2 : Int64), (eb, en, ew, ex), rfl, ⟨fun e => absurd e n9, fun e => absurd e (by intro e8; rw [e8, nI_toInt (by decide)] at hin; omega), fun e => absurd e (by intro e8; rw [e8, nI_toInt (by decide)] at hin; omega), fun e => absurd e (by intro e8; rw [e8, nI_toInt (by decide)] at hin; omega), fun e => absurd e (by intro e8; rw [e8, nI_toInt (by decide)] at hin; omega), fun e => absurd e (by intro e8; rw [e8, nI_toInt (by decide)] at hin; omega), fun e => absurd e (by intro e8; rw [e8, nI_toInt (by decide)] at hin; omega), fun e => absurd e (by intro e8; rw [e8, nI_toInt (by decide)] at hin; omega), fun e => absurd e (by intro e8; rw [e8, nI_toInt (by decide)] at hin; omega), fun _ => rfl⟩, m_at htS hP⟩, by rw [← has]; exact hS.F htS⟩) (by rw [← has]; exact hS.2.2) dX7_told_37
  · skip
    have e9 := c2
    refine lv_aload_n hx hb dX7_told_9 rfl (lv_at hl 1 rfl) ?_
    refine lv_iload_n hx hb dX7_told_10 rfl (lv_at hl 0 rfl) ?_
    refine pu_l (va_runV (As := [.int (nI (nowN fn n))]) (rest := []) ⟨hx, hb, hml, hown, hts⟩ (c_X7_left l D cI cJ cZ m0 g1 g2 g3 g4 g5 g6 g7 g8 g9 g10 g11 g12 n mr (nI y) (nI q) ml (nI (nowN fn n)) fg fb th (by first | assumption | omega) (by intro z hz; exact m_th0 (hth z hz) hz)) (cwV 1 hts gX7_told_X7_left rfl rfl rfl (by decide +kernel) ⟨Nat.le_of_ble_eq_true rfl, Nat.le_of_ble_eq_true rfl⟩) ⟨pc_blind, va_recv hK hP (ci := 7) (q0 := 0) rfl rfl, fun U hU hW => ⟨rfl, by rw [hU]; exact hP.sub (ws' := [(m0, .inr (7, [.int (nI n), .ref g1, .ref g2, .ref g3, .int mr, .ref g4, .int (nI y), .ref g5, .int (nI q), .ref g6, .int ml, .ref g7, .ref g8, .ref g9, .ref g10, .ref g11, .ref g12])), (g1, .inl (cI, 9, .inl fg)), (g2, .inl (cI, 9, .inl fb)), (g12, .inl (cI, 9, .inl th))]) [0, 1, 2, 7] rfl, hKN.warm hW⟩⟩ rfl rfl hl.1 rfl (lv_room (Nat.le_of_ble_eq_true rfl)) dX7_told_11 ⟨Nat.le_of_ble_eq_true rfl, Nat.le_of_ble_eq_true rfl⟩) hS hP (fun r70 H locs w70r hP hS => ?_)
    have w70 : r70 = mlf fg fb th (nI (nowN fn n)) n := w70r
    clear w70r
    obtain rfl : r70 = mlf fg fb th (nI (nowN fn n)) n := w70
    rw [← hQ]
    exact W.lret (v := mlf fg fb th (nI (nowN fn n)) n) hx hb hr (fun tS htS hWS => ⟨⟨(mlf fg fb th (nI (nowN fn n)) n), (eb, en, ew, ex), rfl, ⟨fun _ => rfl, fun e => absurd (e9.symm.trans e) (by decide), fun e => absurd (e9.symm.trans e) (by decide), fun e => absurd (e9.symm.trans e) (by decide), fun e => absurd (e9.symm.trans e) (by decide), fun e => absurd (e9.symm.trans e) (by decide), fun e => absurd (e9.symm.trans e) (by decide), fun e => absurd (e9.symm.trans e) (by decide), fun e => absurd (e9.symm.trans e) (by decide), fun e => absurd e9 e.1⟩, m_at htS hP⟩, by rw [← has]; exact hS.F htS⟩) (by rw [← has]; exact hS.2.2) dX7_told_14
