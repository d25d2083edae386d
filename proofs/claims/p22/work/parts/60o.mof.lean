def rm_c_X7_of_v : Room := { frames := 5, cells := 0, slots := 0, locals := 119 }
set_option maxHeartbeats 400000 in
set_option maxRecDepth 100000 in
theorem c_X7_of_v (l : Launch) (D : va_G) (cI cJ cZ : ClassId) (m0 : Nat) (g1 : Nat) (g2 : Nat) (g3 : Nat) (g4 : Nat) (g5 : Nat) (g6 : Nat) (g7 : Nat) (g8 : Nat) (g9 : Nat) (g10 : Nat) (g11 : Nat) (g12 : Nat) (n : Nat) (y : Nat) (q : Nat) (mr : Int32) (ml : Int32) (p0 : Int32) (wh : Int32) (fg : Nat → Int32) (fb : Nat → Int32) (fp : Nat → Int32) (fs : Nat → Int32) (fn : Nat → Int32) (fo : Nat → Int32) (th : Nat → Int32) (eb : Nat → Int64) (en : Nat → Int32) (ew : Nat → Int32) (ex : Nat → Int32) (hn : n ≤ 9) (h1n : 1 ≤ n) (hy : y < 40) (hq : q ≤ 9) (hfo : ∀ z, z < q → ∃ x, x < n ∧ fo z = nI x) (hth : ∀ z, z < 9 → th z = nI (3 ^ z)) (h01 : T01 fs) : Met l yX7_of wsX7_of rm_c_X7_of_v (pm_ D cI cJ cZ [.ref m0, .int p0, .int wh] [(m0, .inr (7, [.int (nI n), .ref g1, .ref g2, .ref g3, .int mr, .ref g4, .int (nI y), .ref g5, .int (nI q), .ref g6, .int ml, .ref g7, .ref g8, .ref g9, .ref g10, .ref g11, .ref g12])), (g1, .inl (cI, 9, .inl fg)), (g2, .inl (cI, 9, .inl fb)), (g3, .inl (cI, 9, .inl fp)), (g4, .inl (cZ, 20480, .inl fs)), (g5, .inl (cI, 9, .inl fn)), (g6, .inl (cI, 9, .inl fo)), (g12, .inl (cI, 9, .inl th)), (g8, .inl (cJ, 19683, .inr (.inl eb))), (g9, .inl (cI, 19683, .inl en)), (g10, .inl (cI, 19683, .inl ew)), (g11, .inl (cI, 19683, .inl ex))]) (va_Ql (fun (r : Int64) (u : (Nat → Int64) × (Nat → Int32) × (Nat → Int32) × (Nat → Int32)) => (((0 ≤ p0.toInt ∧ p0.toInt < n) ∧ fn p0.toInt.toNat = -1) ∧ wh = nI 0 ∧ (∀ z, z < 3 ^ n → RM (Sg fs y) n (fun c9 => mlf fg fb th (nI c9) n) fp u.1 u.2.1 u.2.2.1 u.2.2.2 z) ∧ r = u.1 (nowN fn n) - u.1 (nowN fn n + 3 ^ p0.toInt.toNat) - u.1 (nowN fn n + 2 * 3 ^ p0.toInt.toNat)) ∨ (((0 ≤ p0.toInt ∧ p0.toInt < n) ∧ fn p0.toInt.toNat = -1) ∧ wh = nI 1 ∧ SQ (fun t => SCH (nowN fn n) n (nI t) ∧ ¬ (Sg fs y t ↔ Sg fs y (t ^^^ 2 ^ p0.toInt.toNat))) (fun t => mwt fg fb (nI t) n) (2 ^ n) r) ∨ (r = -2 ∧ ¬ (((0 ≤ p0.toInt ∧ p0.toInt < n) ∧ fn p0.toInt.toNat = -1) ∧ (wh = nI 0 ∨ wh = nI 1)))) (fun (u : (Nat → Int64) × (Nat → Int32) × (Nat → Int32) × (Nat → Int32)) tS => va_P D vwCl [(m0, .inr (7, [.int (nI n), .ref g1, .ref g2, .ref g3, .int mr, .ref g4, .int (nI y), .ref g5, .int (nI q), .ref g6, .int ml, .ref g7, .ref g8, .ref g9, .ref g10, .ref g11, .ref g12])), (g1, .inl (cI, 9, .inl fg)), (g2, .inl (cI, 9, .inl fb)), (g3, .inl (cI, 9, .inl fp)), (g4, .inl (cZ, 20480, .inl fs)), (g5, .inl (cI, 9, .inl fn)), (g6, .inl (cI, 9, .inl fo)), (g12, .inl (cI, 9, .inl th)), (g8, .inl (cJ, 19683, .inr (.inl u.1))), (g9, .inl (cI, 19683, .inl u.2.1)), (g10, .inl (cI, 19683, .inl u.2.2.1)), (g11, .inl (cI, 19683, .inl u.2.2.2))] tS.heap) (aA [m0, g1, g2, g3, g4, g5, g6, g12, g8, g9, g10, g11])) 0 0 (aA [m0, g1, g2, g3, g4, g5, g6, g12, g8, g9, g10, g11]) := by
  refine Met.ofW (cc := cX7_of) (maxL := 7) (ret := (some .long)) (by decide) rfl ?_
  intro p e s m args below meth c s₁ B hml hv
  obtain ⟨rfl, hP, hKN, hD0⟩ := hv
  have hK := hKN.1
  have hx := B.exec
  have hb := B.bytes
  have hr := B.returns
  have hts := atoms_spec (ws := wsX7_of) B.pre
  have hown : s.vm.findClass RX7 = some m.cls := findClass_of_methodNamed B.named
  have hlocks := B.notSynchronized
  have hiX7 : ∀ w ∈ wsX70, w ∈ wsX7_of := by decide +kernel
  have hf27 := hts (.fieldLink RX7 27 "LookBenchModel" "system" "I") (by decide +kernel)
  have hf30 := hts (.fieldLink RX7 30 "LookBenchModel" "seen" "[I") (by decide +kernel)
  have hf39 := hts (.fieldLink RX7 39 "LookBenchModel" "best" "[J") (by decide +kernel)
  have hf52 := hts (.fieldLink RX7 52 "LookBenchModel" "three" "[I") (by decide +kernel)
  obtain ⟨as, has⟩ : ∃ z : List Nat, z = [m0, g1, g2, g3, g4, g5, g6, g12, g8, g9, g10, g11] := ⟨_, rfl⟩
  have hD := hD0.addr (as := as) (by rw [has]; rfl)
  have hS : va_S (aA as) s.heap s.heap [] := va_S.rf
  have hl := lv_entry ([.ref m0, .int p0, .int wh]) (n := 7) (Nat.le_of_ble_eq_true rfl)
  rw [lg_entry_eq]
  generalize (lg_sl ([.ref m0, .int p0, .int wh]) ++ List.replicate (7 - (lg_sl ([.ref m0, .int p0, .int wh])).length) Slot.unset).toArray = ls at hl ⊢
  have hl : lv_has ls 7 [(0, .ref m0), (1, .int p0), (2, .int wh)] := hl
  generalize hQ : MQ below _ _ s _ _ _ = Q
  obtain ⟨H, hH⟩ : ∃ z, z = s.heap := ⟨_, rfl⟩
  have hP : va_P D vwCl [(m0, .inr (7, [.int (nI n), .ref g1, .ref g2, .ref g3, .int mr, .ref g4, .int (nI y), .ref g5, .int (nI q), .ref g6, .int ml, .ref g7, .ref g8, .ref g9, .ref g10, .ref g11, .ref g12])), (g1, .inl (cI, 9, .inl fg)), (g2, .inl (cI, 9, .inl fb)), (g3, .inl (cI, 9, .inl fp)), (g4, .inl (cZ, 20480, .inl fs)), (g5, .inl (cI, 9, .inl fn)), (g6, .inl (cI, 9, .inl fo)), (g12, .inl (cI, 9, .inl th)), (g8, .inl (cJ, 19683, .inr (.inl eb))), (g9, .inl (cI, 19683, .inl en)), (g10, .inl (cI, 19683, .inl ew)), (g11, .inl (cI, 19683, .inl ex))] H := by rw [hH]; exact hP
  have hS : va_S (aA as) s.heap H [] := by rw [hH]; exact hS
  refine m_heap hH ?_
  clear hH
  have h2n := m_pow hn
  have h2p := m_powp n
  have h3n := m_p3 hn
  have hnl := nowN_lt fn n
  refine lv_aload_n hx hb dX7_of_0 rfl (lv_at hl 0 rfl) ?_
  refine lv_iload_n hx hb dX7_of_1 rfl (lv_at hl 1 rfl) ?_
  refine pu_i (va_runV (As := [.int p0]) (rest := []) ⟨hx, hb, hml, hown, hts⟩ (c_X7_isPart l D cI cJ cZ m0 g1 g2 g3 g4 g5 g6 g7 g8 g9 g10 g11 g12 n mr (nI y) (nI q) ml p0 (by first | assumption | omega) (by first | assumption | omega)) (cwV 1 hts gX7_of_X7_isPart rfl rfl rfl (by decide +kernel) ⟨Nat.le_of_ble_eq_true rfl, Nat.le_of_ble_eq_true rfl⟩) ⟨pc_blind, va_recv hK hP (ci := 7) (q0 := 0) rfl rfl, fun U hU hW => ⟨rfl, by rw [hU]; exact hP.sub (ws' := [(m0, .inr (7, [.int (nI n), .ref g1, .ref g2, .ref g3, .int mr, .ref g4, .int (nI y), .ref g5, .int (nI q), .ref g6, .int ml, .ref g7, .ref g8, .ref g9, .ref g10, .ref g11, .ref g12]))]) [0] rfl, hKN.warm hW⟩⟩ rfl rfl hl.1 rfl (lv_room (Nat.le_of_ble_eq_true rfl)) dX7_of_2 ⟨Nat.le_of_ble_eq_true rfl, Nat.le_of_ble_eq_true rfl⟩) hS hP (fun r1 H locs w1r hP hS => ?_)
  have w1 : B01 r1 (0 ≤ p0.toInt ∧ p0.toInt < n) := w1r
  clear w1r
  rcases w1 with ⟨rfl, w1⟩ | ⟨rfl, w1⟩
  · skip
    obtain ⟨j9, hj9, rfl⟩ := m_nat w1
    have tj9 : (nI j9).toInt = (j9 : Int) := nI_toInt (by omega)
    have hjt := m_tn (j := j9) (by omega)
    refine lv_if_eq (tgt := 35) hx hb dX7_of_5 (by decide) (fun c2 => ?_) (fun c2 => ?_)
    · exact absurd c2 (by first | decide | exact nz_lt (by omega) | exact fun h => h (nz_ge (by omega)))
    · skip
      refine lv_iload_n hx hb dX7_of_8 rfl (lv_at hl 2 rfl) ?_
      refine lv_i2l hx hb dX7_of_9 rfl ?_
      refine lv_lconst (v := lN 0) hx hb dX7_of_10 (by decide) ?_
      refine lv_lconst (v := lN 1) hx hb dX7_of_11 (by decide) ?_
      refine pu_i (va_runS (As := [.long wh.toInt64, .long (lN 0), .long (lN 1)]) (rest := []) ⟨hx, hb, hml, hown, hts⟩ (c_X7_in l D cI cJ cZ wh.toInt64 (lN 0) (lN 1)) (va_cwS 3 hts gX7_of_X7_in rfl rfl rfl (by decide +kernel) ⟨Nat.le_of_ble_eq_true rfl, Nat.le_of_ble_eq_true rfl⟩) ⟨pc_blind, fun U hU hW => ⟨rfl, by rw [hU]; exact hP.sub (ws' := []) [] rfl, hKN.warm hW⟩⟩ rfl rfl hl.1 rfl (lv_room (Nat.le_of_ble_eq_true rfl)) dX7_of_12 ⟨Nat.le_of_ble_eq_true rfl, Nat.le_of_ble_eq_true rfl⟩) hS hP (fun r3 H locs w3r hP hS => ?_)
      have w3 : B01 r3 ((lN 0).toInt ≤ wh.toInt64.toInt ∧ wh.toInt64.toInt ≤ (lN 1).toInt) := w3r
      clear w3r
      rw [lN_toInt (n := 0) (by omega), j2 wh, lN_toInt (n := 1) (by omega)] at w3
      rcases w3 with ⟨rfl, w3⟩ | ⟨rfl, w3⟩
      · skip
        have hwh := w3
        refine lv_if_eq (tgt := 35) hx hb dX7_of_15 (by decide) (fun c4 => ?_) (fun c4 => ?_)
        · exact absurd c4 (by first | decide | exact nz_lt (by omega) | exact fun h => h (nz_ge (by omega)))
        · skip
          refine lv_aload_n hx hb dX7_of_18 rfl (lv_at hl 0 rfl) ?_
          refine va_get (D := D) (ci := 7) (v := .ref g5) (C := RX7) (T := TX7) (N := 17) hx hb hts hiX7 hown hK hP 0 rfl rfl 7 (by decide) hf30 (fun _ h9 => h9) rfl dX7_of_19 ?_
          refine lv_iload_n hx hb dX7_of_22 rfl (lv_at hl 1 rfl) ?_
          refine va_iald hx hb hK hP 5 0 rfl rfl (i := nI j9) (vp_in_nI (by omega) (by omega)) dX7_of_23 ?_
          refine cn_i (y := fn j9) (congrArg fn (nI_clamp (by omega))) ?_
          refine lv_iconst (v := (-1 : Int32)) hx hb dX7_of_24 (by decide) ?_
          refine lv_icmp_ne (tgt := 35) hx hb dX7_of_25 (by decide) (fun c5 => ?_) (fun c5 => ?_)
          · skip
            have hfn9 := c5
            refine lv_ldc2 (v := (-2 : Int64)) hx hb hown (hts (.constantLong RX7 132 (-2 : Int64)) (by decide +kernel)) dX7_of_35 ?_
            rw [← hQ]
            exact W.lret (v := (-2 : Int64)) hx hb hr (fun tS htS hWS => ⟨⟨(-2 : Int64), (eb, en, ew, ex), rfl, by first | exact Or.inr (Or.inr ⟨rfl, fun h => hnp h.1.1⟩) | exact Or.inr (Or.inr ⟨rfl, fun h => absurd (wh01 h.2) hwh⟩) | exact Or.inr (Or.inr ⟨rfl, fun h => hfn9 (by have g := h.1.2; rw [hjt] at g; exact g)⟩), m_at htS hP⟩, by rw [← has]; exact hS.F htS⟩) (by rw [← has]; exact hS.2.2) dX7_of_38
          · skip
            have hfn9 := c5
            refine lv_aload_n hx hb dX7_of_28 rfl (lv_at hl 0 rfl) ?_
            refine va_get (D := D) (ci := 7) (v := .int (nI y)) (C := RX7) (T := TX7) (N := 17) hx hb hts hiX7 hown hK hP 0 rfl rfl 6 (by decide) hf27 (fun _ h9 => h9) rfl dX7_of_29 ?_
            refine lv_if_ge (tgt := 39) hx hb dX7_of_32 (by decide) (fun c6 => ?_) (fun c6 => ?_)
            · skip
              refine lv_aload_n hx hb dX7_of_39 rfl (lv_at hl 0 rfl) ?_
              refine pu_i (va_runV (As := []) (rest := []) ⟨hx, hb, hml, hown, hts⟩ (c_X7_now_g l D cI cJ cZ m0 g1 g2 g3 g4 g5 g6 g7 g8 g9 g10 g11 g12 n mr (nI y) (nI q) ml fn th (by first | assumption | omega) (by first | assumption | omega)) (cwV 0 hts gX7_of_X7_now rfl rfl rfl (by decide +kernel) ⟨Nat.le_of_ble_eq_true rfl, Nat.le_of_ble_eq_true rfl⟩) ⟨pc_blind, va_recv hK hP (ci := 7) (q0 := 0) rfl rfl, fun U hU hW => ⟨rfl, by rw [hU]; exact hP.sub (ws' := [(m0, .inr (7, [.int (nI n), .ref g1, .ref g2, .ref g3, .int mr, .ref g4, .int (nI y), .ref g5, .int (nI q), .ref g6, .int ml, .ref g7, .ref g8, .ref g9, .ref g10, .ref g11, .ref g12])), (g5, .inl (cI, 9, .inl fn)), (g12, .inl (cI, 9, .inl th))]) [0, 5, 7] rfl, hKN.warm hW⟩⟩ rfl rfl hl.1 rfl (lv_room (Nat.le_of_ble_eq_true rfl)) dX7_of_40 ⟨Nat.le_of_ble_eq_true rfl, Nat.le_of_ble_eq_true rfl⟩) hS hP (fun r7 H locs w7r hP hS => ?_)
              have w7 : r7 = nI (nowN fn n) := w7r
              clear w7r
              obtain rfl : r7 = nI (nowN fn n) := w7
              refine lv_istore_n (lv' := [(3, .int (nI (nowN fn n))), (0, .ref m0), (1, .int (nI j9)), (2, .int wh)]) hx hb dX7_of_43 rfl hl (by decide) rfl (fun ls hl => ?_)
              have hdg9 := nowN_dig (fn := fn) (n := n) (j := j9) hfn9 (by omega)
              have hup9 := m_up (n := n) hnl (by omega) hdg9
              have hp9 := m_p512 (j := j9) (by omega)
              refine lv_iload_n hx hb dX7_of_44 rfl (lv_at hl 3 rfl) ?_
              refine lv_if_ne (tgt := 89) hx hb dX7_of_45 (by decide) (fun c8 => ?_) (fun c8 => ?_)
              · skip
                have hwz := c8
                refine lv_lconst (v := lN 0) hx hb dX7_of_89 (by decide) ?_
                refine lv_lstore (lv' := [(4, .long (lN 0)), (3, .int (nI (nowN fn n))), (0, .ref m0), (1, .int (nI j9)), (2, .int wh)]) hx hb dX7_of_90 hl (by decide) rfl (fun ls hl => ?_)
                refine lv_iconst (v := nI 0) hx hb dX7_of_92 (by decide) ?_
                refine lv_istore (lv' := [(6, .int (nI 0)), (4, .long (lN 0)), (3, .int (nI (nowN fn n))), (0, .ref m0), (1, .int (nI j9)), (2, .int wh)]) hx hb dX7_of_93 hl (by decide) rfl (fun ls hl => ?_)
                have loop9 : ∀ (fu : Nat) (k : Nat) (v : Int64) (H : Heap) (locs : List Loc) (ls : Array Slot), (k ≤ 2 ^ n ∧ 2 ^ n < k + fu) → (SQ (fun t => SCH (nowN fn n) n (nI t) ∧ ¬ (Sg fs y t ↔ Sg fs y (t ^^^ 2 ^ j9))) (fun t => mwt fg fb (nI t) n) k v) → va_P D vwCl [(m0, .inr (7, [.int (nI n), .ref g1, .ref g2, .ref g3, .int mr, .ref g4, .int (nI y), .ref g5, .int (nI q), .ref g6, .int ml, .ref g7, .ref g8, .ref g9, .ref g10, .ref g11, .ref g12])), (g1, .inl (cI, 9, .inl fg)), (g2, .inl (cI, 9, .inl fb)), (g3, .inl (cI, 9, .inl fp)), (g4, .inl (cZ, 20480, .inl fs)), (g5, .inl (cI, 9, .inl fn)), (g6, .inl (cI, 9, .inl fo)), (g12, .inl (cI, 9, .inl th)), (g8, .inl (cJ, 19683, .inr (.inl eb))), (g9, .inl (cI, 19683, .inl en)), (g10, .inl (cI, 19683, .inl ew)), (g11, .inl (cI, 19683, .inl ex))] H → va_D (aA as) [(m0, .inr (7, [.int (nI n), .ref g1, .ref g2, .ref g3, .int mr, .ref g4, .int (nI y), .ref g5, .int (nI q), .ref g6, .int ml, .ref g7, .ref g8, .ref g9, .ref g10, .ref g11, .ref g12])), (g1, .inl (cI, 9, .inl fg)), (g2, .inl (cI, 9, .inl fb)), (g3, .inl (cI, 9, .inl fp)), (g4, .inl (cZ, 20480, .inl fs)), (g5, .inl (cI, 9, .inl fn)), (g6, .inl (cI, 9, .inl fo)), (g12, .inl (cI, 9, .inl th)), (g8, .inl (cJ, 19683, .inr (.inl eb))), (g9, .inl (cI, 19683, .inl en)), (g10, .inl (cI, 19683, .inl ew)), (g11, .inl (cI, 19683, .inl ex))] → va_S (aA as) s.heap H locs → lv_has ls 7 [(6, .int (nI k)), (4, .long v), (3, .int (nI (nowN fn n))), (0, .ref m0), (1, .int (nI j9)), (2, .int wh)] → W p l e (headSpec wsX7_of rm_c_X7_of_v).room s m ([.ref m0, .int (nI j9), .int wh] : List Value).toArray below meth c H locs 0 0 Q (F0 m 95 ls []) := by
                  intro fu
                  induction fu with
                  | zero => intro k v H locs ls hk hSq; exact absurd hk (by omega)
                  | succ fu ih9 =>
                    intro k v H locs ls hk hSq hP hD hS hl
                    refine lv_iload hx hb dX7_of_95 (lv_at hl 0 rfl) ?_
                    refine lv_aload_n hx hb dX7_of_97 rfl (lv_at hl 3 rfl) ?_
                    refine pu_i (va_runV (As := []) (rest := [.int (nI k)]) ⟨hx, hb, hml, hown, hts⟩ (c_X7_settings l D cI cJ cZ m0 g1 g2 g3 g4 g5 g6 g7 g8 g9 g10 g11 g12 n mr (nI y) (nI q) ml (by first | assumption | omega)) (cwV 0 hts gX7_of_X7_settings rfl rfl rfl (by decide +kernel) ⟨Nat.le_of_ble_eq_true rfl, Nat.le_of_ble_eq_true rfl⟩) ⟨pc_blind, va_recv hK hP (ci := 7) (q0 := 0) rfl rfl, fun U hU hW => ⟨rfl, by rw [hU]; exact hP.sub (ws' := [(m0, .inr (7, [.int (nI n), .ref g1, .ref g2, .ref g3, .int mr, .ref g4, .int (nI y), .ref g5, .int (nI q), .ref g6, .int ml, .ref g7, .ref g8, .ref g9, .ref g10, .ref g11, .ref g12]))]) [0] rfl, hKN.warm hW⟩⟩ rfl rfl hl.1 rfl (lv_room (Nat.le_of_ble_eq_true rfl)) dX7_of_98 ⟨Nat.le_of_ble_eq_true rfl, Nat.le_of_ble_eq_true rfl⟩) hS hP (fun r10 H locs w10r hP hS => ?_)
                    have w10 : r10 = nI (2 ^ n) := w10r
                    clear w10r
                    obtain rfl : r10 = nI (2 ^ n) := w10
                    refine lv_icmp_ge (tgt := 154) hx hb dX7_of_101 (by decide) (fun c11 => ?_) (fun c11 => ?_)
                    · skip
                      have d11 := c11
                      rw [nI_leI (by omega) (by omega)] at d11
                      refine lv_lload hx hb dX7_of_154 (lv_at hl 1 rfl) ?_
                      rw [← hQ]
                      exact W.lret (v := v) hx hb hr (fun tS htS hWS => ⟨⟨v, (eb, en, ew, ex), rfl, by rw [hjt]; exact Or.inr (Or.inl ⟨⟨by omega, hfn9⟩, wh1 hwh hwz, (show k = 2 ^ n by omega) ▸ hSq⟩), m_at htS hP⟩, by rw [← has]; exact hS.F htS⟩) (by rw [← has]; exact hS.2.2) dX7_of_156
                    · skip
                      have d11 := c11
                      rw [nI_leI (by omega) (by omega)] at d11
                      refine lv_lload hx hb dX7_of_104 (lv_at hl 1 rfl) ?_
                      refine lv_aload_n hx hb dX7_of_106 rfl (lv_at hl 3 rfl) ?_
                      refine lv_iload hx hb dX7_of_107 (lv_at hl 0 rfl) ?_
                      refine lv_iload_n hx hb dX7_of_109 rfl (lv_at hl 2 rfl) ?_
                      refine pu_i (va_runV (As := [.int (nI k), .int (nI (nowN fn n))]) (rest := [.long v]) ⟨hx, hb, hml, hown, hts⟩ (c_X7_isSuch_v l D cI cJ cZ m0 g1 g2 g3 g4 g5 g6 g7 g8 g9 g10 g11 g12 n (nowN fn n) mr (nI y) (nI q) ml (nI k) th (by first | assumption | omega) (by first | assumption | omega) (by first | assumption | omega)) (cwV 2 hts gX7_of_X7_isSuch rfl rfl rfl (by decide +kernel) ⟨Nat.le_of_ble_eq_true rfl, Nat.le_of_ble_eq_true rfl⟩) ⟨pc_blind, va_recv hK hP (ci := 7) (q0 := 0) rfl rfl, fun U hU hW => ⟨rfl, by rw [hU]; exact hP.sub (ws' := [(m0, .inr (7, [.int (nI n), .ref g1, .ref g2, .ref g3, .int mr, .ref g4, .int (nI y), .ref g5, .int (nI q), .ref g6, .int ml, .ref g7, .ref g8, .ref g9, .ref g10, .ref g11, .ref g12])), (g12, .inl (cI, 9, .inl th))]) [0, 7] rfl, hKN.warm hW⟩⟩ rfl rfl hl.1 rfl (lv_room (Nat.le_of_ble_eq_true rfl)) dX7_of_110 ⟨Nat.le_of_ble_eq_true rfl, Nat.le_of_ble_eq_true rfl⟩) hS hP (fun r12 H locs w12r hP hS => ?_)
                      have w12 : B01 r12 (SCH (nowN fn n) n (nI k)) := w12r
                      clear w12r
                      rcases w12 with ⟨rfl, w12⟩ | ⟨rfl, w12⟩
                      · skip
                        have hfi := w12
                        refine lv_if_eq (tgt := 144) hx hb dX7_of_113 (by decide) (fun c13 => ?_) (fun c13 => ?_)
                        · exact absurd c13 (by first | decide | exact nz_lt (by omega) | exact fun h => h (nz_ge (by omega)))
                        · skip
                          refine lv_aload_n hx hb dX7_of_116 rfl (lv_at hl 3 rfl) ?_
                          refine lv_iload hx hb dX7_of_117 (lv_at hl 0 rfl) ?_
                          refine pu_i (va_runV (As := [.int (nI k)]) (rest := [.long v]) ⟨hx, hb, hml, hown, hts⟩ (c_X7_isGood l D cI cJ cZ m0 g1 g2 g3 g4 g5 g6 g7 g8 g9 g10 g11 g12 y k (nI n) mr (nI q) ml fs (by first | assumption | omega) (by first | assumption | omega) (by first | assumption | omega)) (cwV 1 hts gX7_of_X7_isGood rfl rfl rfl (by decide +kernel) ⟨Nat.le_of_ble_eq_true rfl, Nat.le_of_ble_eq_true rfl⟩) ⟨pc_blind, va_recv hK hP (ci := 7) (q0 := 0) rfl rfl, fun U hU hW => ⟨rfl, by rw [hU]; exact hP.sub (ws' := [(m0, .inr (7, [.int (nI n), .ref g1, .ref g2, .ref g3, .int mr, .ref g4, .int (nI y), .ref g5, .int (nI q), .ref g6, .int ml, .ref g7, .ref g8, .ref g9, .ref g10, .ref g11, .ref g12])), (g4, .inl (cZ, 20480, .inl fs))]) [0, 4] rfl, hKN.warm hW⟩⟩ rfl rfl hl.1 rfl (lv_room (Nat.le_of_ble_eq_true rfl)) dX7_of_119 ⟨Nat.le_of_ble_eq_true rfl, Nat.le_of_ble_eq_true rfl⟩) hS hP (fun r14 H locs w14r hP hS => ?_)
                          have w14 : B01 r14 (Sg fs y k) := w14r
                          clear w14r
                          rcases w14 with ⟨rfl, w14⟩ | ⟨rfl, w14⟩
                          · skip
                            have hg1 := w14
                            refine lv_aload_n hx hb dX7_of_122 rfl (lv_at hl 3 rfl) ?_
                            refine lv_iload hx hb dX7_of_123 (lv_at hl 0 rfl) ?_
                            refine lv_iconst (v := nI 1) hx hb dX7_of_125 (by decide) ?_
                            refine lv_iload_n hx hb dX7_of_126 rfl (lv_at hl 4 rfl) ?_
                            refine lv_ishl hx hb dX7_of_127 ?_
                            refine cn_i (y := nI (2 ^ j9)) (m_shl1 (by omega)) ?_
                            refine lv_ixor hx hb dX7_of_128 ?_
                            refine cn_i (y := nI (k ^^^ (2 ^ j9))) (mb_xor k (2 ^ j9)) ?_
                            refine pu_i (va_runV (As := [.int (nI (k ^^^ (2 ^ j9)))]) (rest := [.int (nI 1), .long v]) ⟨hx, hb, hml, hown, hts⟩ (c_X7_isGood l D cI cJ cZ m0 g1 g2 g3 g4 g5 g6 g7 g8 g9 g10 g11 g12 y (k ^^^ (2 ^ j9)) (nI n) mr (nI q) ml fs (by first | assumption | omega) (by exact m_x512 (by omega) (m_p512 (by omega))) (by first | assumption | omega)) (cwV 1 hts gX7_of_X7_isGood rfl rfl rfl (by decide +kernel) ⟨Nat.le_of_ble_eq_true rfl, Nat.le_of_ble_eq_true rfl⟩) ⟨pc_blind, va_recv hK hP (ci := 7) (q0 := 0) rfl rfl, fun U hU hW => ⟨rfl, by rw [hU]; exact hP.sub (ws' := [(m0, .inr (7, [.int (nI n), .ref g1, .ref g2, .ref g3, .int mr, .ref g4, .int (nI y), .ref g5, .int (nI q), .ref g6, .int ml, .ref g7, .ref g8, .ref g9, .ref g10, .ref g11, .ref g12])), (g4, .inl (cZ, 20480, .inl fs))]) [0, 4] rfl, hKN.warm hW⟩⟩ rfl rfl hl.1 rfl (lv_room (Nat.le_of_ble_eq_true rfl)) dX7_of_129 ⟨Nat.le_of_ble_eq_true rfl, Nat.le_of_ble_eq_true rfl⟩) hS hP (fun r15 H locs w15r hP hS => ?_)
                            have w15 : B01 r15 (Sg fs y (k ^^^ (2 ^ j9))) := w15r
                            clear w15r
                            rcases w15 with ⟨rfl, w15⟩ | ⟨rfl, w15⟩
                            · skip
                              have hg2 := w15
                              refine lv_icmp_eq (tgt := 144) hx hb dX7_of_132 (by decide) (fun c16 => ?_) (fun c16 => ?_)
                              · skip
                                refine lv_lconst (v := lN 0) hx hb dX7_of_144 (by decide) ?_
                                refine lv_ladd hx hb dX7_of_145 ?_
                                refine lv_lstore (lv' := [(4, .long (v + (lN 0))), (6, .int (nI k)), (3, .int (nI (nowN fn n))), (0, .ref m0), (1, .int (nI j9)), (2, .int wh)]) hx hb dX7_of_146 hl (by decide) rfl (fun ls hl => ?_)
                                refine lv_iinc (v := nI (k + 1)) (lv' := [(6, .int (nI (k + 1))), (4, .long (v + (lN 0))), (3, .int (nI (nowN fn n))), (0, .ref m0), (1, .int (nI j9)), (2, .int wh)]) hx hb dX7_of_148 hl (k := 1) rfl (nI_1 k) (by decide) rfl (fun ls hl => ?_)
                                refine lv_goto (tgt := 95) hx hb dX7_of_151 (by decide) ?_
                                exact ih9 (k + 1) (v + (lN 0)) _ _ _ (by omega) (by first | exact Or.inl ⟨⟨hfi, fun h => absurd (h.mp hg1) hg2⟩, v, rfl, hSq⟩ | exact Or.inl ⟨⟨hfi, fun h => absurd (h.mpr hg2) hg1⟩, v, rfl, hSq⟩ | (rw [lN0, Int64.add_zero]; first | exact Or.inr ⟨fun h => h.2 ⟨fun _ => hg2, fun _ => hg1⟩, hSq⟩ | exact Or.inr ⟨fun h => h.2 ⟨fun a => absurd a hg1, fun a => absurd a hg2⟩, hSq⟩ | exact Or.inr ⟨fun h => hfi h.1, hSq⟩)) hP hD hS (lv_sub hl [0, 1, 2, 3, 4, 5] rfl)
                              · exact absurd c16 (by first | decide | exact nz_lt (by omega) | exact fun h => h (nz_ge (by omega)))
                            · skip
                              have hg2 := w15
                              refine lv_icmp_eq (tgt := 144) hx hb dX7_of_132 (by decide) (fun c17 => ?_) (fun c17 => ?_)
                              · exact absurd c17 (by first | decide | exact nz_lt (by omega) | exact fun h => h (nz_ge (by omega)))
                              · skip
                                refine lv_aload_n hx hb dX7_of_135 rfl (lv_at hl 3 rfl) ?_
                                refine lv_iload hx hb dX7_of_136 (lv_at hl 0 rfl) ?_
                                refine pu_l (va_runV (As := [.int (nI k)]) (rest := [.long v]) ⟨hx, hb, hml, hown, hts⟩ (c_X7_weight_v l D cI cJ cZ m0 g1 g2 g3 g4 g5 g6 g7 g8 g9 g10 g11 g12 n mr (nI y) (nI q) ml (nI k) fg fb (by first | assumption | omega)) (cwV 1 hts gX7_of_X7_weight rfl rfl rfl (by decide +kernel) ⟨Nat.le_of_ble_eq_true rfl, Nat.le_of_ble_eq_true rfl⟩) ⟨pc_blind, va_recv hK hP (ci := 7) (q0 := 0) rfl rfl, fun U hU hW => ⟨rfl, by rw [hU]; exact hP.sub (ws' := [(m0, .inr (7, [.int (nI n), .ref g1, .ref g2, .ref g3, .int mr, .ref g4, .int (nI y), .ref g5, .int (nI q), .ref g6, .int ml, .ref g7, .ref g8, .ref g9, .ref g10, .ref g11, .ref g12])), (g1, .inl (cI, 9, .inl fg)), (g2, .inl (cI, 9, .inl fb))]) [0, 1, 2] rfl, hKN.warm hW⟩⟩ rfl rfl hl.1 rfl (lv_room (Nat.le_of_ble_eq_true rfl)) dX7_of_138 ⟨Nat.le_of_ble_eq_true rfl, Nat.le_of_ble_eq_true rfl⟩) hS hP (fun r18 H locs w18r hP hS => ?_)
                                have w18 : r18 = mwt fg fb (nI k) n := w18r
                                clear w18r
                                obtain rfl : r18 = mwt fg fb (nI k) n := w18
                                refine lv_goto (tgt := 145) hx hb dX7_of_141 (by decide) ?_
                                refine lv_ladd hx hb dX7_of_145 ?_
                                refine lv_lstore (lv' := [(4, .long (v + (mwt fg fb (nI k) n))), (6, .int (nI k)), (3, .int (nI (nowN fn n))), (0, .ref m0), (1, .int (nI j9)), (2, .int wh)]) hx hb dX7_of_146 hl (by decide) rfl (fun ls hl => ?_)
                                refine lv_iinc (v := nI (k + 1)) (lv' := [(6, .int (nI (k + 1))), (4, .long (v + (mwt fg fb (nI k) n))), (3, .int (nI (nowN fn n))), (0, .ref m0), (1, .int (nI j9)), (2, .int wh)]) hx hb dX7_of_148 hl (k := 1) rfl (nI_1 k) (by decide) rfl (fun ls hl => ?_)
                                refine lv_goto (tgt := 95) hx hb dX7_of_151 (by decide) ?_
                                exact ih9 (k + 1) (v + (mwt fg fb (nI k) n)) _ _ _ (by omega) (by first | exact Or.inl ⟨⟨hfi, fun h => absurd (h.mp hg1) hg2⟩, v, rfl, hSq⟩ | exact Or.inl ⟨⟨hfi, fun h => absurd (h.mpr hg2) hg1⟩, v, rfl, hSq⟩ | (rw [lN0, Int64.add_zero]; first | exact Or.inr ⟨fun h => h.2 ⟨fun _ => hg2, fun _ => hg1⟩, hSq⟩ | exact Or.inr ⟨fun h => h.2 ⟨fun a => absurd a hg1, fun a => absurd a hg2⟩, hSq⟩ | exact Or.inr ⟨fun h => hfi h.1, hSq⟩)) hP hD hS (lv_sub hl [0, 1, 2, 3, 4, 5] rfl)
                          · skip
                            have hg1 := w14
                            refine lv_aload_n hx hb dX7_of_122 rfl (lv_at hl 3 rfl) ?_
                            refine lv_iload hx hb dX7_of_123 (lv_at hl 0 rfl) ?_
                            refine lv_iconst (v := nI 1) hx hb dX7_of_125 (by decide) ?_
                            refine lv_iload_n hx hb dX7_of_126 rfl (lv_at hl 4 rfl) ?_
                            refine lv_ishl hx hb dX7_of_127 ?_
                            refine cn_i (y := nI (2 ^ j9)) (m_shl1 (by omega)) ?_
                            refine lv_ixor hx hb dX7_of_128 ?_
                            refine cn_i (y := nI (k ^^^ (2 ^ j9))) (mb_xor k (2 ^ j9)) ?_
                            refine pu_i (va_runV (As := [.int (nI (k ^^^ (2 ^ j9)))]) (rest := [.int (nI 0), .long v]) ⟨hx, hb, hml, hown, hts⟩ (c_X7_isGood l D cI cJ cZ m0 g1 g2 g3 g4 g5 g6 g7 g8 g9 g10 g11 g12 y (k ^^^ (2 ^ j9)) (nI n) mr (nI q) ml fs (by first | assumption | omega) (by exact m_x512 (by omega) (m_p512 (by omega))) (by first | assumption | omega)) (cwV 1 hts gX7_of_X7_isGood rfl rfl rfl (by decide +kernel) ⟨Nat.le_of_ble_eq_true rfl, Nat.le_of_ble_eq_true rfl⟩) ⟨pc_blind, va_recv hK hP (ci := 7) (q0 := 0) rfl rfl, fun U hU hW => ⟨rfl, by rw [hU]; exact hP.sub (ws' := [(m0, .inr (7, [.int (nI n), .ref g1, .ref g2, .ref g3, .int mr, .ref g4, .int (nI y), .ref g5, .int (nI q), .ref g6, .int ml, .ref g7, .ref g8, .ref g9, .ref g10, .ref g11, .ref g12])), (g4, .inl (cZ, 20480, .inl fs))]) [0, 4] rfl, hKN.warm hW⟩⟩ rfl rfl hl.1 rfl (lv_room (Nat.le_of_ble_eq_true rfl)) dX7_of_129 ⟨Nat.le_of_ble_eq_true rfl, Nat.le_of_ble_eq_true rfl⟩) hS hP (fun r19 H locs w19r hP hS => ?_)
                            have w19 : B01 r19 (Sg fs y (k ^^^ (2 ^ j9))) := w19r
                            clear w19r
                            rcases w19 with ⟨rfl, w19⟩ | ⟨rfl, w19⟩
                            · skip
                              have hg2 := w19
                              refine lv_icmp_eq (tgt := 144) hx hb dX7_of_132 (by decide) (fun c20 => ?_) (fun c20 => ?_)
                              · exact absurd c20 (by first | decide | exact nz_lt (by omega) | exact fun h => h (nz_ge (by omega)))
                              · skip
                                refine lv_aload_n hx hb dX7_of_135 rfl (lv_at hl 3 rfl) ?_
                                refine lv_iload hx hb dX7_of_136 (lv_at hl 0 rfl) ?_
                                refine pu_l (va_runV (As := [.int (nI k)]) (rest := [.long v]) ⟨hx, hb, hml, hown, hts⟩ (c_X7_weight_v l D cI cJ cZ m0 g1 g2 g3 g4 g5 g6 g7 g8 g9 g10 g11 g12 n mr (nI y) (nI q) ml (nI k) fg fb (by first | assumption | omega)) (cwV 1 hts gX7_of_X7_weight rfl rfl rfl (by decide +kernel) ⟨Nat.le_of_ble_eq_true rfl, Nat.le_of_ble_eq_true rfl⟩) ⟨pc_blind, va_recv hK hP (ci := 7) (q0 := 0) rfl rfl, fun U hU hW => ⟨rfl, by rw [hU]; exact hP.sub (ws' := [(m0, .inr (7, [.int (nI n), .ref g1, .ref g2, .ref g3, .int mr, .ref g4, .int (nI y), .ref g5, .int (nI q), .ref g6, .int ml, .ref g7, .ref g8, .ref g9, .ref g10, .ref g11, .ref g12])), (g1, .inl (cI, 9, .inl fg)), (g2, .inl (cI, 9, .inl fb))]) [0, 1, 2] rfl, hKN.warm hW⟩⟩ rfl rfl hl.1 rfl (lv_room (Nat.le_of_ble_eq_true rfl)) dX7_of_138 ⟨Nat.le_of_ble_eq_true rfl, Nat.le_of_ble_eq_true rfl⟩) hS hP (fun r21 H locs w21r hP hS => ?_)
                                have w21 : r21 = mwt fg fb (nI k) n := w21r
                                clear w21r
                                obtain rfl : r21 = mwt fg fb (nI k) n := w21
                                refine lv_goto (tgt := 145) hx hb dX7_of_141 (by decide) ?_
                                refine lv_ladd hx hb dX7_of_145 ?_
                                refine lv_lstore (lv' := [(4, .long (v + (mwt fg fb (nI k) n))), (6, .int (nI k)), (3, .int (nI (nowN fn n))), (0, .ref m0), (1, .int (nI j9)), (2, .int wh)]) hx hb dX7_of_146 hl (by decide) rfl (fun ls hl => ?_)
                                refine lv_iinc (v := nI (k + 1)) (lv' := [(6, .int (nI (k + 1))), (4, .long (v + (mwt fg fb (nI k) n))), (3, .int (nI (nowN fn n))), (0, .ref m0), (1, .int (nI j9)), (2, .int wh)]) hx hb dX7_of_148 hl (k := 1) rfl (nI_1 k) (by decide) rfl (fun ls hl => ?_)
                                refine lv_goto (tgt := 95) hx hb dX7_of_151 (by decide) ?_
                                exact ih9 (k + 1) (v + (mwt fg fb (nI k) n)) _ _ _ (by omega) (by first | exact Or.inl ⟨⟨hfi, fun h => absurd (h.mp hg1) hg2⟩, v, rfl, hSq⟩ | exact Or.inl ⟨⟨hfi, fun h => absurd (h.mpr hg2) hg1⟩, v, rfl, hSq⟩ | (rw [lN0, Int64.add_zero]; first | exact Or.inr ⟨fun h => h.2 ⟨fun _ => hg2, fun _ => hg1⟩, hSq⟩ | exact Or.inr ⟨fun h => h.2 ⟨fun a => absurd a hg1, fun a => absurd a hg2⟩, hSq⟩ | exact Or.inr ⟨fun h => hfi h.1, hSq⟩)) hP hD hS (lv_sub hl [0, 1, 2, 3, 4, 5] rfl)
                            · skip
                              have hg2 := w19
                              refine lv_icmp_eq (tgt := 144) hx hb dX7_of_132 (by decide) (fun c22 => ?_) (fun c22 => ?_)
                              · skip
                                refine lv_lconst (v := lN 0) hx hb dX7_of_144 (by decide) ?_
                                refine lv_ladd hx hb dX7_of_145 ?_
                                refine lv_lstore (lv' := [(4, .long (v + (lN 0))), (6, .int (nI k)), (3, .int (nI (nowN fn n))), (0, .ref m0), (1, .int (nI j9)), (2, .int wh)]) hx hb dX7_of_146 hl (by decide) rfl (fun ls hl => ?_)
                                refine lv_iinc (v := nI (k + 1)) (lv' := [(6, .int (nI (k + 1))), (4, .long (v + (lN 0))), (3, .int (nI (nowN fn n))), (0, .ref m0), (1, .int (nI j9)), (2, .int wh)]) hx hb dX7_of_148 hl (k := 1) rfl (nI_1 k) (by decide) rfl (fun ls hl => ?_)
                                refine lv_goto (tgt := 95) hx hb dX7_of_151 (by decide) ?_
                                exact ih9 (k + 1) (v + (lN 0)) _ _ _ (by omega) (by first | exact Or.inl ⟨⟨hfi, fun h => absurd (h.mp hg1) hg2⟩, v, rfl, hSq⟩ | exact Or.inl ⟨⟨hfi, fun h => absurd (h.mpr hg2) hg1⟩, v, rfl, hSq⟩ | (rw [lN0, Int64.add_zero]; first | exact Or.inr ⟨fun h => h.2 ⟨fun _ => hg2, fun _ => hg1⟩, hSq⟩ | exact Or.inr ⟨fun h => h.2 ⟨fun a => absurd a hg1, fun a => absurd a hg2⟩, hSq⟩ | exact Or.inr ⟨fun h => hfi h.1, hSq⟩)) hP hD hS (lv_sub hl [0, 1, 2, 3, 4, 5] rfl)
                              · exact absurd c22 (by first | decide | exact nz_lt (by omega) | exact fun h => h (nz_ge (by omega)))
                      · skip
                        have hfi := w12
                        refine lv_if_eq (tgt := 144) hx hb dX7_of_113 (by decide) (fun c23 => ?_) (fun c23 => ?_)
                        · skip
                          refine lv_lconst (v := lN 0) hx hb dX7_of_144 (by decide) ?_
                          refine lv_ladd hx hb dX7_of_145 ?_
                          refine lv_lstore (lv' := [(4, .long (v + (lN 0))), (6, .int (nI k)), (3, .int (nI (nowN fn n))), (0, .ref m0), (1, .int (nI j9)), (2, .int wh)]) hx hb dX7_of_146 hl (by decide) rfl (fun ls hl => ?_)
                          refine lv_iinc (v := nI (k + 1)) (lv' := [(6, .int (nI (k + 1))), (4, .long (v + (lN 0))), (3, .int (nI (nowN fn n))), (0, .ref m0), (1, .int (nI j9)), (2, .int wh)]) hx hb dX7_of_148 hl (k := 1) rfl (nI_1 k) (by decide) rfl (fun ls hl => ?_)
                          refine lv_goto (tgt := 95) hx hb dX7_of_151 (by decide) ?_
                          exact ih9 (k + 1) (v + (lN 0)) _ _ _ (by omega) (by first | exact Or.inl ⟨⟨hfi, fun h => absurd (h.mp hg1) hg2⟩, v, rfl, hSq⟩ | exact Or.inl ⟨⟨hfi, fun h => absurd (h.mpr hg2) hg1⟩, v, rfl, hSq⟩ | (rw [lN0, Int64.add_zero]; first | exact Or.inr ⟨fun h => h.2 ⟨fun _ => hg2, fun _ => hg1⟩, hSq⟩ | exact Or.inr ⟨fun h => h.2 ⟨fun a => absurd a hg1, fun a => absurd a hg2⟩, hSq⟩ | exact Or.inr ⟨fun h => hfi h.1, hSq⟩)) hP hD hS (lv_sub hl [0, 1, 2, 3, 4, 5] rfl)
                        · exact absurd c23 (by first | decide | exact nz_lt (by omega) | exact fun h => h (nz_ge (by omega)))
                exact loop9 (2 ^ n + 1) 0 (lN 0) _ _ _ (by omega) rfl hP hD hS (lv_sub hl [0, 1, 2, 3, 4, 5] rfl)
              · skip
                have hwz := c8
                refine lv_aload_n hx hb dX7_of_48 rfl (lv_at hl 1 rfl) ?_
                refine mu2_v (n := 12) (wc := [(m0, .inr (7, [.int (nI n), .ref g1, .ref g2, .ref g3, .int mr, .ref g4, .int (nI y), .ref g5, .int (nI q), .ref g6, .int ml, .ref g7, .ref g8, .ref g9, .ref g10, .ref g11, .ref g12])), (g1, .inl (cI, 9, .inl fg)), (g2, .inl (cI, 9, .inl fb)), (g3, .inl (cI, 9, .inl fp)), (g4, .inl (cZ, 20480, .inl fs)), (g12, .inl (cI, 9, .inl th)), (g8, .inl (cJ, 19683, .inr (.inl eb))), (g9, .inl (cI, 19683, .inl en)), (g10, .inl (cI, 19683, .inl ew)), (g11, .inl (cI, 19683, .inl ex))]) (wr := [(g5, .inl (cI, 9, .inl fn)), (g6, .inl (cI, 9, .inl fo))]) (as0 := [m0, g1, g2, g3, g4, g5, g6, g12, g8, g9, g10, g11]) (va_runV (As := []) (rest := []) ⟨hx, hb, hml, hown, hts⟩ (c_X7_plans_v l D cI cJ cZ m0 g1 g2 g3 g4 g5 g6 g7 g8 g9 g10 g11 g12 n y mr (nI q) ml fg fb fp fs th eb en ew ex (by first | assumption | omega) (by first | assumption | omega) (by first | assumption | omega) (by first | assumption | omega) (by first | assumption | omega)) (cwV 0 hts gX7_of_X7_plans rfl rfl rfl (by decide +kernel) ⟨Nat.le_of_ble_eq_true rfl, Nat.le_of_ble_eq_true rfl⟩) ⟨pm_blind, va_recv hK hP (ci := 7) (q0 := 0) rfl rfl, fun U hU hW => ⟨rfl, by rw [hU]; exact hP.sub (ws' := [(m0, .inr (7, [.int (nI n), .ref g1, .ref g2, .ref g3, .int mr, .ref g4, .int (nI y), .ref g5, .int (nI q), .ref g6, .int ml, .ref g7, .ref g8, .ref g9, .ref g10, .ref g11, .ref g12])), (g1, .inl (cI, 9, .inl fg)), (g2, .inl (cI, 9, .inl fb)), (g3, .inl (cI, 9, .inl fp)), (g4, .inl (cZ, 20480, .inl fs)), (g12, .inl (cI, 9, .inl th)), (g8, .inl (cJ, 19683, .inr (.inl eb))), (g9, .inl (cI, 19683, .inl en)), (g10, .inl (cI, 19683, .inl ew)), (g11, .inl (cI, 19683, .inl ex))]) [0, 1, 2, 3, 4, 7, 8, 9, 10, 11] rfl, hKN.warm hW, (hD.sub (ws' := [(m0, .inr (7, [.int (nI n), .ref g1, .ref g2, .ref g3, .int mr, .ref g4, .int (nI y), .ref g5, .int (nI q), .ref g6, .int ml, .ref g7, .ref g8, .ref g9, .ref g10, .ref g11, .ref g12])), (g1, .inl (cI, 9, .inl fg)), (g2, .inl (cI, 9, .inl fb)), (g3, .inl (cI, 9, .inl fp)), (g4, .inl (cZ, 20480, .inl fs)), (g12, .inl (cI, 9, .inl th)), (g8, .inl (cJ, 19683, .inr (.inl eb))), (g9, .inl (cI, 19683, .inl en)), (g10, .inl (cI, 19683, .inl ew)), (g11, .inl (cI, 19683, .inl ex))]) [0, 1, 2, 3, 4, 7, 8, 9, 10, 11] (by decide) rfl).weaken (fun _ _ _ _ => trivial)⟩⟩ rfl rfl hl.1 rfl (lv_room (Nat.le_of_ble_eq_true rfl)) dX7_of_49 ⟨Nat.le_of_ble_eq_true rfl, Nat.le_of_ble_eq_true rfl⟩) hS hP hD (fun (u : (Nat → Int64) × (Nat → Int32) × (Nat → Int32) × (Nat → Int32)) => [(m0, .inr (7, [.int (nI n), .ref g1, .ref g2, .ref g3, .int mr, .ref g4, .int (nI y), .ref g5, .int (nI q), .ref g6, .int ml, .ref g7, .ref g8, .ref g9, .ref g10, .ref g11, .ref g12])), (g1, .inl (cI, 9, .inl fg)), (g2, .inl (cI, 9, .inl fb)), (g3, .inl (cI, 9, .inl fp)), (g4, .inl (cZ, 20480, .inl fs)), (g5, .inl (cI, 9, .inl fn)), (g6, .inl (cI, 9, .inl fo)), (g12, .inl (cI, 9, .inl th)), (g8, .inl (cJ, 19683, .inr (.inl u.1))), (g9, .inl (cI, 19683, .inl u.2.1)), (g10, .inl (cI, 19683, .inl u.2.2.1)), (g11, .inl (cI, 19683, .inl u.2.2.2))]) [0, 1, 2, 3, 4, 7, 8, 9, 10, 11] [5, 6] rfl rfl rfl (fun _ => rfl) (fun _ => rfl) rfl (fun _ => rfl) (fun _ => rfl) (m_cov rfl) (m_dis rfl) (fun u24 H locs w24r hP hD hS => ?_)
                obtain ⟨u24_ub, u24_un, u24_uw, u24_ux⟩ := u24
                have hP : va_P D vwCl [(m0, .inr (7, [.int (nI n), .ref g1, .ref g2, .ref g3, .int mr, .ref g4, .int (nI y), .ref g5, .int (nI q), .ref g6, .int ml, .ref g7, .ref g8, .ref g9, .ref g10, .ref g11, .ref g12])), (g1, .inl (cI, 9, .inl fg)), (g2, .inl (cI, 9, .inl fb)), (g3, .inl (cI, 9, .inl fp)), (g4, .inl (cZ, 20480, .inl fs)), (g5, .inl (cI, 9, .inl fn)), (g6, .inl (cI, 9, .inl fo)), (g12, .inl (cI, 9, .inl th)), (g8, .inl (cJ, 19683, .inr (.inl u24_ub))), (g9, .inl (cI, 19683, .inl u24_un)), (g10, .inl (cI, 19683, .inl u24_uw)), (g11, .inl (cI, 19683, .inl u24_ux))] H := hP
                have hD : va_D (aA as) [(m0, .inr (7, [.int (nI n), .ref g1, .ref g2, .ref g3, .int mr, .ref g4, .int (nI y), .ref g5, .int (nI q), .ref g6, .int ml, .ref g7, .ref g8, .ref g9, .ref g10, .ref g11, .ref g12])), (g1, .inl (cI, 9, .inl fg)), (g2, .inl (cI, 9, .inl fb)), (g3, .inl (cI, 9, .inl fp)), (g4, .inl (cZ, 20480, .inl fs)), (g5, .inl (cI, 9, .inl fn)), (g6, .inl (cI, 9, .inl fo)), (g12, .inl (cI, 9, .inl th)), (g8, .inl (cJ, 19683, .inr (.inl u24_ub))), (g9, .inl (cI, 19683, .inl u24_un)), (g10, .inl (cI, 19683, .inl u24_uw)), (g11, .inl (cI, 19683, .inl u24_ux))] := hD
                have w24 : ∀ z, z < 3 ^ n → RM (Sg fs y) n (fun c9 => mlf fg fb th (nI c9) n) fp u24_ub u24_un u24_uw u24_ux z := w24r
                clear w24r
                refine lv_aload_n hx hb dX7_of_52 rfl (lv_at hl 1 rfl) ?_
                refine va_get (D := D) (ci := 7) (v := .ref g8) (C := RX7) (T := TX7) (N := 17) hx hb hts hiX7 hown hK hP 0 rfl rfl 12 (by decide) hf39 (fun _ h9 => h9) rfl dX7_of_53 ?_
                refine lv_iload_n hx hb dX7_of_56 rfl (lv_at hl 0 rfl) ?_
                refine va_lald hx hb hK hP 8 1 rfl rfl (i := nI (nowN fn n)) (vp_in_nI (by omega) (by omega)) dX7_of_57 ?_
                refine cn_l (y := u24_ub (nowN fn n)) (congrArg u24_ub (nI_clamp (by omega))) ?_
                refine lv_aload_n hx hb dX7_of_58 rfl (lv_at hl 1 rfl) ?_
                refine va_get (D := D) (ci := 7) (v := .ref g8) (C := RX7) (T := TX7) (N := 17) hx hb hts hiX7 hown hK hP 0 rfl rfl 12 (by decide) hf39 (fun _ h9 => h9) rfl dX7_of_59 ?_
                refine lv_iload_n hx hb dX7_of_62 rfl (lv_at hl 0 rfl) ?_
                refine lv_aload_n hx hb dX7_of_63 rfl (lv_at hl 1 rfl) ?_
                refine va_get (D := D) (ci := 7) (v := .ref g12) (C := RX7) (T := TX7) (N := 17) hx hb hts hiX7 hown hK hP 0 rfl rfl 16 (by decide) hf52 (fun _ h9 => h9) rfl dX7_of_64 ?_
                refine lv_iload_n hx hb dX7_of_67 rfl (lv_at hl 2 rfl) ?_
                refine va_iald hx hb hK hP 7 0 rfl rfl (i := nI j9) (vp_in_nI (by omega) (by omega)) dX7_of_68 ?_
                refine cn_i (y := nI (3 ^ j9)) ((congrArg th (nI_clamp (by omega))).trans (hth j9 (by omega))) ?_
                refine lv_iadd hx hb dX7_of_69 ?_
                refine cn_i (y := nI ((nowN fn n) + (3 ^ j9))) (nI_add (nowN fn n) (3 ^ j9)) ?_
                refine va_lald hx hb hK hP 8 1 rfl rfl (i := nI ((nowN fn n) + (3 ^ j9))) (vp_in_nI (by omega) (by omega)) dX7_of_70 ?_
                refine cn_l (y := u24_ub ((nowN fn n) + (3 ^ j9))) (congrArg u24_ub (nI_clamp (by omega))) ?_
                refine lv_lsub hx hb dX7_of_71 ?_
                refine lv_aload_n hx hb dX7_of_72 rfl (lv_at hl 1 rfl) ?_
                refine va_get (D := D) (ci := 7) (v := .ref g8) (C := RX7) (T := TX7) (N := 17) hx hb hts hiX7 hown hK hP 0 rfl rfl 12 (by decide) hf39 (fun _ h9 => h9) rfl dX7_of_73 ?_
                refine lv_iload_n hx hb dX7_of_76 rfl (lv_at hl 0 rfl) ?_
                refine lv_iconst (v := nI 2) hx hb dX7_of_77 (by decide) ?_
                refine lv_aload_n hx hb dX7_of_78 rfl (lv_at hl 1 rfl) ?_
                refine va_get (D := D) (ci := 7) (v := .ref g12) (C := RX7) (T := TX7) (N := 17) hx hb hts hiX7 hown hK hP 0 rfl rfl 16 (by decide) hf52 (fun _ h9 => h9) rfl dX7_of_79 ?_
                refine lv_iload_n hx hb dX7_of_82 rfl (lv_at hl 2 rfl) ?_
                refine va_iald hx hb hK hP 7 0 rfl rfl (i := nI j9) (vp_in_nI (by omega) (by omega)) dX7_of_83 ?_
                refine cn_i (y := nI (3 ^ j9)) ((congrArg th (nI_clamp (by omega))).trans (hth j9 (by omega))) ?_
                refine lv_imul hx hb dX7_of_84 ?_
                refine cn_i (y := nI (2 * (3 ^ j9))) (pk_mul 2 (3 ^ j9)) ?_
                refine lv_iadd hx hb dX7_of_85 ?_
                refine cn_i (y := nI ((nowN fn n) + (2 * (3 ^ j9)))) (nI_add (nowN fn n) (2 * (3 ^ j9))) ?_
                refine va_lald hx hb hK hP 8 1 rfl rfl (i := nI ((nowN fn n) + (2 * (3 ^ j9)))) (vp_in_nI (by omega) (by omega)) dX7_of_86 ?_
                refine cn_l (y := u24_ub ((nowN fn n) + (2 * (3 ^ j9)))) (congrArg u24_ub (nI_clamp (by omega))) ?_
                refine lv_lsub hx hb dX7_of_87 ?_
                rw [← hQ]
                exact W.lret (v := ((u24_ub (nowN fn n)) - (u24_ub ((nowN fn n) + (3 ^ j9)))) - (u24_ub ((nowN fn n) + (2 * (3 ^ j9))))) hx hb hr (fun tS htS hWS => ⟨⟨(((u24_ub (nowN fn n)) - (u24_ub ((nowN fn n) + (3 ^ j9)))) - (u24_ub ((nowN fn n) + (2 * (3 ^ j9))))), (u24_ub, u24_un, u24_uw, u24_ux), rfl, by rw [hjt]; exact Or.inl ⟨⟨by omega, hfn9⟩, hwz, w24, rfl⟩, m_at htS hP⟩, by rw [← has]; exact hS.F htS⟩) (by rw [← has]; exact hS.2.2) dX7_of_88
            · exact absurd c6 (by first | decide | exact nz_lt (by omega) | exact fun h => h (nz_ge (by omega)))
      · skip
        have hwh := w3
        refine lv_if_eq (tgt := 35) hx hb dX7_of_15 (by decide) (fun c25 => ?_) (fun c25 => ?_)
        · skip
          refine lv_ldc2 (v := (-2 : Int64)) hx hb hown (hts (.constantLong RX7 132 (-2 : Int64)) (by decide +kernel)) dX7_of_35 ?_
          rw [← hQ]
          exact W.lret (v := (-2 : Int64)) hx hb hr (fun tS htS hWS => ⟨⟨(-2 : Int64), (eb, en, ew, ex), rfl, by first | exact Or.inr (Or.inr ⟨rfl, fun h => hnp h.1.1⟩) | exact Or.inr (Or.inr ⟨rfl, fun h => absurd (wh01 h.2) hwh⟩) | exact Or.inr (Or.inr ⟨rfl, fun h => hfn9 (by have g := h.1.2; rw [hjt] at g; exact g)⟩), m_at htS hP⟩, by rw [← has]; exact hS.F htS⟩) (by rw [← has]; exact hS.2.2) dX7_of_38
        · exact absurd c25 (by first | decide | exact nz_lt (by omega) | exact fun h => h (nz_ge (by omega)))
  · skip
    have hnp := w1
    refine lv_if_eq (tgt := 35) hx hb dX7_of_5 (by decide) (fun c26 => ?_) (fun c26 => ?_)
    · skip
      refine lv_ldc2 (v := (-2 : Int64)) hx hb hown (hts (.constantLong RX7 132 (-2 : Int64)) (by decide +kernel)) dX7_of_35 ?_
      rw [← hQ]
      exact W.lret (v := (-2 : Int64)) hx hb hr (fun tS htS hWS => ⟨⟨(-2 : Int64), (eb, en, ew, ex), rfl, by first | exact Or.inr (Or.inr ⟨rfl, fun h => hnp h.1.1⟩) | exact Or.inr (Or.inr ⟨rfl, fun h => absurd (wh01 h.2) hwh⟩) | exact Or.inr (Or.inr ⟨rfl, fun h => hfn9 (by have g := h.1.2; rw [hjt] at g; exact g)⟩), m_at htS hP⟩, by rw [← has]; exact hS.F htS⟩) (by rw [← has]; exact hS.2.2) dX7_of_38
    · exact absurd c26 (by first | decide | exact nz_lt (by omega) | exact fun h => h (nz_ge (by omega)))
