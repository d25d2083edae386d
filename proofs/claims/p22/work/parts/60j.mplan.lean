def rm_c_X7_plan_v : Room := { frames := 3, cells := 0, slots := 0, locals := 67 }
set_option maxHeartbeats 400000 in
set_option maxRecDepth 100000 in
theorem c_X7_plan_v (l : Launch) (D : va_G) (cI cJ cZ : ClassId) (m0 : Nat) (g1 : Nat) (g2 : Nat) (g3 : Nat) (g4 : Nat) (g5 : Nat) (g6 : Nat) (g7 : Nat) (g8 : Nat) (g9 : Nat) (g10 : Nat) (g11 : Nat) (g12 : Nat) (n : Nat) (cv : Nat) (y : Nat) (mr : Int32) (mo : Int32) (ml : Int32) (fg : Nat → Int32) (fb : Nat → Int32) (fp : Nat → Int32) (fs : Nat → Int32) (th : Nat → Int32) (eb : Nat → Int64) (en : Nat → Int32) (ew : Nat → Int32) (ex : Nat → Int32) (hn : n ≤ 9) (hcv : cv < 3 ^ n) (hy : y < 40) (hth : ∀ z, z < 9 → th z = nI (3 ^ z)) (h01 : T01 fs) : Met l yX7_plan wsX7_plan rm_c_X7_plan_v (pm_ D cI cJ cZ [.ref m0, .int (nI cv)] [(m0, .inr (7, [.int (nI n), .ref g1, .ref g2, .ref g3, .int mr, .ref g4, .int (nI y), .ref g5, .int mo, .ref g6, .int ml, .ref g7, .ref g8, .ref g9, .ref g10, .ref g11, .ref g12])), (g1, .inl (cI, 9, .inl fg)), (g2, .inl (cI, 9, .inl fb)), (g3, .inl (cI, 9, .inl fp)), (g4, .inl (cZ, 20480, .inl fs)), (g12, .inl (cI, 9, .inl th)), (g8, .inl (cJ, 19683, .inr (.inl eb))), (g9, .inl (cI, 19683, .inl en)), (g10, .inl (cI, 19683, .inl ew)), (g11, .inl (cI, 19683, .inl ex))]) (va_Qv (fun (u : (Nat → Int64) × (Nat → Int32) × (Nat → Int32) × (Nat → Int32)) => (∀ z, ¬ z = cv → u.1 z = eb z ∧ u.2.1 z = en z ∧ u.2.2.1 z = ew z ∧ u.2.2.2 z = ex z) ∧ RM (Sg fs y) n (fun c9 => mlf fg fb th (nI c9) n) fp u.1 u.2.1 u.2.2.1 u.2.2.2 cv) (fun (u : (Nat → Int64) × (Nat → Int32) × (Nat → Int32) × (Nat → Int32)) tS => va_P D vwCl [(m0, .inr (7, [.int (nI n), .ref g1, .ref g2, .ref g3, .int mr, .ref g4, .int (nI y), .ref g5, .int mo, .ref g6, .int ml, .ref g7, .ref g8, .ref g9, .ref g10, .ref g11, .ref g12])), (g1, .inl (cI, 9, .inl fg)), (g2, .inl (cI, 9, .inl fb)), (g3, .inl (cI, 9, .inl fp)), (g4, .inl (cZ, 20480, .inl fs)), (g12, .inl (cI, 9, .inl th)), (g8, .inl (cJ, 19683, .inr (.inl u.1))), (g9, .inl (cI, 19683, .inl u.2.1)), (g10, .inl (cI, 19683, .inl u.2.2.1)), (g11, .inl (cI, 19683, .inl u.2.2.2))] tS.heap) (aA [m0, g1, g2, g3, g4, g12, g8, g9, g10, g11])) 0 0 (aA [m0, g1, g2, g3, g4, g12, g8, g9, g10, g11]) := by
  refine Met.ofW (cc := cX7_plan) (maxL := 10) (ret := none) (by decide) rfl ?_
  intro p e s m args below meth c s₁ B hml hv
  obtain ⟨rfl, hP, hKN, hD0⟩ := hv
  have hK := hKN.1
  have hx := B.exec
  have hb := B.bytes
  have hr := B.returns
  have hts := atoms_spec (ws := wsX7_plan) B.pre
  have hown : s.vm.findClass RX7 = some m.cls := findClass_of_methodNamed B.named
  have hlocks := B.notSynchronized
  have hiX7 : ∀ w ∈ wsX70, w ∈ wsX7_plan := by decide +kernel
  have hf7 := hts (.fieldLink RX7 7 "LookBenchModel" "parts" "I") (by decide +kernel)
  have hf20 := hts (.fieldLink RX7 20 "LookBenchModel" "price" "[I") (by decide +kernel)
  have hf39 := hts (.fieldLink RX7 39 "LookBenchModel" "best" "[J") (by decide +kernel)
  have hf43 := hts (.fieldLink RX7 43 "LookBenchModel" "bestNext" "[I") (by decide +kernel)
  have hf46 := hts (.fieldLink RX7 46 "LookBenchModel" "worst" "[I") (by decide +kernel)
  have hf49 := hts (.fieldLink RX7 49 "LookBenchModel" "worstNext" "[I") (by decide +kernel)
  have hf52 := hts (.fieldLink RX7 52 "LookBenchModel" "three" "[I") (by decide +kernel)
  obtain ⟨as, has⟩ : ∃ z : List Nat, z = [m0, g1, g2, g3, g4, g12, g8, g9, g10, g11] := ⟨_, rfl⟩
  have hD := hD0.addr (as := as) (by rw [has]; rfl)
  have hS : va_S (aA as) s.heap s.heap [] := va_S.rf
  have hl := lv_entry ([.ref m0, .int (nI cv)]) (n := 10) (Nat.le_of_ble_eq_true rfl)
  rw [lg_entry_eq]
  generalize (lg_sl ([.ref m0, .int (nI cv)]) ++ List.replicate (10 - (lg_sl ([.ref m0, .int (nI cv)])).length) Slot.unset).toArray = ls at hl ⊢
  have hl : lv_has ls 10 [(0, .ref m0), (1, .int (nI cv))] := hl
  generalize hQ : MQ below _ _ s _ _ _ = Q
  obtain ⟨H, hH⟩ : ∃ z, z = s.heap := ⟨_, rfl⟩
  have hP : va_P D vwCl [(m0, .inr (7, [.int (nI n), .ref g1, .ref g2, .ref g3, .int mr, .ref g4, .int (nI y), .ref g5, .int mo, .ref g6, .int ml, .ref g7, .ref g8, .ref g9, .ref g10, .ref g11, .ref g12])), (g1, .inl (cI, 9, .inl fg)), (g2, .inl (cI, 9, .inl fb)), (g3, .inl (cI, 9, .inl fp)), (g4, .inl (cZ, 20480, .inl fs)), (g12, .inl (cI, 9, .inl th)), (g8, .inl (cJ, 19683, .inr (.inl eb))), (g9, .inl (cI, 19683, .inl en)), (g10, .inl (cI, 19683, .inl ew)), (g11, .inl (cI, 19683, .inl ex))] H := by rw [hH]; exact hP
  have hS : va_S (aA as) s.heap H [] := by rw [hH]; exact hS
  refine m_heap hH ?_
  clear hH
  have h3n := m_p3 hn
  refine lv_aload_n hx hb dX7_plan_0 rfl (lv_at hl 0 rfl) ?_
  refine va_get (D := D) (ci := 7) (v := .ref g8) (C := RX7) (T := TX7) (N := 17) hx hb hts hiX7 hown hK hP 0 rfl rfl 12 (by decide) hf39 (fun _ h9 => h9) rfl dX7_plan_1 ?_
  refine lv_iload_n hx hb dX7_plan_4 rfl (lv_at hl 1 rfl) ?_
  refine lv_lconst (v := lN 0) hx hb dX7_plan_5 (by decide) ?_
  refine va_last hx hb hK hP hD hS 6 1 rfl rfl (i := nI cv) (vp_in_nI (by omega) (by omega)) dX7_plan_6 (fun H locs hP hD hS => ?_)
  have hP : va_P D vwCl [(m0, .inr (7, [.int (nI n), .ref g1, .ref g2, .ref g3, .int mr, .ref g4, .int (nI y), .ref g5, .int mo, .ref g6, .int ml, .ref g7, .ref g8, .ref g9, .ref g10, .ref g11, .ref g12])), (g1, .inl (cI, 9, .inl fg)), (g2, .inl (cI, 9, .inl fb)), (g3, .inl (cI, 9, .inl fp)), (g4, .inl (cZ, 20480, .inl fs)), (g12, .inl (cI, 9, .inl th)), (g8, .inl (cJ, 19683, .inr (.inl (vp_updL eb (nI cv).toNatClampNeg (lN 0))))), (g9, .inl (cI, 19683, .inl en)), (g10, .inl (cI, 19683, .inl ew)), (g11, .inl (cI, 19683, .inl ex))] H := hP
  have hD : va_D (aA as) [(m0, .inr (7, [.int (nI n), .ref g1, .ref g2, .ref g3, .int mr, .ref g4, .int (nI y), .ref g5, .int mo, .ref g6, .int ml, .ref g7, .ref g8, .ref g9, .ref g10, .ref g11, .ref g12])), (g1, .inl (cI, 9, .inl fg)), (g2, .inl (cI, 9, .inl fb)), (g3, .inl (cI, 9, .inl fp)), (g4, .inl (cZ, 20480, .inl fs)), (g12, .inl (cI, 9, .inl th)), (g8, .inl (cJ, 19683, .inr (.inl (vp_updL eb (nI cv).toNatClampNeg (lN 0))))), (g9, .inl (cI, 19683, .inl en)), (g10, .inl (cI, 19683, .inl ew)), (g11, .inl (cI, 19683, .inl ex))] := hD
  rw [nI_clamp (n := cv) (by omega)] at hP hD
  refine lv_aload_n hx hb dX7_plan_7 rfl (lv_at hl 0 rfl) ?_
  refine va_get (D := D) (ci := 7) (v := .ref g10) (C := RX7) (T := TX7) (N := 17) hx hb hts hiX7 hown hK hP 0 rfl rfl 14 (by decide) hf46 (fun _ h9 => h9) rfl dX7_plan_8 ?_
  refine lv_iload_n hx hb dX7_plan_11 rfl (lv_at hl 1 rfl) ?_
  refine lv_iconst (v := nI 0) hx hb dX7_plan_12 (by decide) ?_
  refine va_iast hx hb hK hP hD hS 8 0 rfl rfl (i := nI cv) (vp_in_nI (by omega) (by omega)) dX7_plan_13 (fun H locs hP hD hS => ?_)
  have hP : va_P D vwCl [(m0, .inr (7, [.int (nI n), .ref g1, .ref g2, .ref g3, .int mr, .ref g4, .int (nI y), .ref g5, .int mo, .ref g6, .int ml, .ref g7, .ref g8, .ref g9, .ref g10, .ref g11, .ref g12])), (g1, .inl (cI, 9, .inl fg)), (g2, .inl (cI, 9, .inl fb)), (g3, .inl (cI, 9, .inl fp)), (g4, .inl (cZ, 20480, .inl fs)), (g12, .inl (cI, 9, .inl th)), (g8, .inl (cJ, 19683, .inr (.inl (vp_updL eb cv (lN 0))))), (g9, .inl (cI, 19683, .inl en)), (g10, .inl (cI, 19683, .inl (upd ew (nI cv).toNatClampNeg (nI 0)))), (g11, .inl (cI, 19683, .inl ex))] H := hP
  have hD : va_D (aA as) [(m0, .inr (7, [.int (nI n), .ref g1, .ref g2, .ref g3, .int mr, .ref g4, .int (nI y), .ref g5, .int mo, .ref g6, .int ml, .ref g7, .ref g8, .ref g9, .ref g10, .ref g11, .ref g12])), (g1, .inl (cI, 9, .inl fg)), (g2, .inl (cI, 9, .inl fb)), (g3, .inl (cI, 9, .inl fp)), (g4, .inl (cZ, 20480, .inl fs)), (g12, .inl (cI, 9, .inl th)), (g8, .inl (cJ, 19683, .inr (.inl (vp_updL eb cv (lN 0))))), (g9, .inl (cI, 19683, .inl en)), (g10, .inl (cI, 19683, .inl (upd ew (nI cv).toNatClampNeg (nI 0)))), (g11, .inl (cI, 19683, .inl ex))] := hD
  rw [nI_clamp (n := cv) (by omega)] at hP hD
  refine lv_aload_n hx hb dX7_plan_14 rfl (lv_at hl 0 rfl) ?_
  refine va_get (D := D) (ci := 7) (v := .ref g9) (C := RX7) (T := TX7) (N := 17) hx hb hts hiX7 hown hK hP 0 rfl rfl 13 (by decide) hf43 (fun _ h9 => h9) rfl dX7_plan_15 ?_
  refine lv_iload_n hx hb dX7_plan_18 rfl (lv_at hl 1 rfl) ?_
  refine lv_iconst (v := (-1 : Int32)) hx hb dX7_plan_19 (by decide) ?_
  refine va_iast hx hb hK hP hD hS 7 0 rfl rfl (i := nI cv) (vp_in_nI (by omega) (by omega)) dX7_plan_20 (fun H locs hP hD hS => ?_)
  have hP : va_P D vwCl [(m0, .inr (7, [.int (nI n), .ref g1, .ref g2, .ref g3, .int mr, .ref g4, .int (nI y), .ref g5, .int mo, .ref g6, .int ml, .ref g7, .ref g8, .ref g9, .ref g10, .ref g11, .ref g12])), (g1, .inl (cI, 9, .inl fg)), (g2, .inl (cI, 9, .inl fb)), (g3, .inl (cI, 9, .inl fp)), (g4, .inl (cZ, 20480, .inl fs)), (g12, .inl (cI, 9, .inl th)), (g8, .inl (cJ, 19683, .inr (.inl (vp_updL eb cv (lN 0))))), (g9, .inl (cI, 19683, .inl (upd en (nI cv).toNatClampNeg (-1 : Int32)))), (g10, .inl (cI, 19683, .inl (upd ew cv (nI 0)))), (g11, .inl (cI, 19683, .inl ex))] H := hP
  have hD : va_D (aA as) [(m0, .inr (7, [.int (nI n), .ref g1, .ref g2, .ref g3, .int mr, .ref g4, .int (nI y), .ref g5, .int mo, .ref g6, .int ml, .ref g7, .ref g8, .ref g9, .ref g10, .ref g11, .ref g12])), (g1, .inl (cI, 9, .inl fg)), (g2, .inl (cI, 9, .inl fb)), (g3, .inl (cI, 9, .inl fp)), (g4, .inl (cZ, 20480, .inl fs)), (g12, .inl (cI, 9, .inl th)), (g8, .inl (cJ, 19683, .inr (.inl (vp_updL eb cv (lN 0))))), (g9, .inl (cI, 19683, .inl (upd en (nI cv).toNatClampNeg (-1 : Int32)))), (g10, .inl (cI, 19683, .inl (upd ew cv (nI 0)))), (g11, .inl (cI, 19683, .inl ex))] := hD
  rw [nI_clamp (n := cv) (by omega)] at hP hD
  refine lv_aload_n hx hb dX7_plan_21 rfl (lv_at hl 0 rfl) ?_
  refine va_get (D := D) (ci := 7) (v := .ref g11) (C := RX7) (T := TX7) (N := 17) hx hb hts hiX7 hown hK hP 0 rfl rfl 15 (by decide) hf49 (fun _ h9 => h9) rfl dX7_plan_22 ?_
  refine lv_iload_n hx hb dX7_plan_25 rfl (lv_at hl 1 rfl) ?_
  refine lv_iconst (v := (-1 : Int32)) hx hb dX7_plan_26 (by decide) ?_
  refine va_iast hx hb hK hP hD hS 9 0 rfl rfl (i := nI cv) (vp_in_nI (by omega) (by omega)) dX7_plan_27 (fun H locs hP hD hS => ?_)
  have hP : va_P D vwCl [(m0, .inr (7, [.int (nI n), .ref g1, .ref g2, .ref g3, .int mr, .ref g4, .int (nI y), .ref g5, .int mo, .ref g6, .int ml, .ref g7, .ref g8, .ref g9, .ref g10, .ref g11, .ref g12])), (g1, .inl (cI, 9, .inl fg)), (g2, .inl (cI, 9, .inl fb)), (g3, .inl (cI, 9, .inl fp)), (g4, .inl (cZ, 20480, .inl fs)), (g12, .inl (cI, 9, .inl th)), (g8, .inl (cJ, 19683, .inr (.inl (vp_updL eb cv (lN 0))))), (g9, .inl (cI, 19683, .inl (upd en cv (-1 : Int32)))), (g10, .inl (cI, 19683, .inl (upd ew cv (nI 0)))), (g11, .inl (cI, 19683, .inl (upd ex (nI cv).toNatClampNeg (-1 : Int32))))] H := hP
  have hD : va_D (aA as) [(m0, .inr (7, [.int (nI n), .ref g1, .ref g2, .ref g3, .int mr, .ref g4, .int (nI y), .ref g5, .int mo, .ref g6, .int ml, .ref g7, .ref g8, .ref g9, .ref g10, .ref g11, .ref g12])), (g1, .inl (cI, 9, .inl fg)), (g2, .inl (cI, 9, .inl fb)), (g3, .inl (cI, 9, .inl fp)), (g4, .inl (cZ, 20480, .inl fs)), (g12, .inl (cI, 9, .inl th)), (g8, .inl (cJ, 19683, .inr (.inl (vp_updL eb cv (lN 0))))), (g9, .inl (cI, 19683, .inl (upd en cv (-1 : Int32)))), (g10, .inl (cI, 19683, .inl (upd ew cv (nI 0)))), (g11, .inl (cI, 19683, .inl (upd ex (nI cv).toNatClampNeg (-1 : Int32))))] := hD
  rw [nI_clamp (n := cv) (by omega)] at hP hD
  refine lv_aload_n hx hb dX7_plan_28 rfl (lv_at hl 0 rfl) ?_
  refine lv_iload_n hx hb dX7_plan_29 rfl (lv_at hl 1 rfl) ?_
  refine pu_i (va_runV (As := [.int (nI cv)]) (rest := []) ⟨hx, hb, hml, hown, hts⟩ (c_X7_sureAt l D cI cJ cZ m0 g1 g2 g3 g4 g5 g6 g7 g8 g9 g10 g11 g12 n cv y mr mo ml fs th (by first | assumption | omega) (by first | assumption | omega) (by first | assumption | omega) (by first | assumption | omega) (by first | assumption | omega)) (cwV 1 hts gX7_plan_X7_sureAt rfl rfl rfl (by decide +kernel) ⟨Nat.le_of_ble_eq_true rfl, Nat.le_of_ble_eq_true rfl⟩) ⟨pc_blind, va_recv hK hP (ci := 7) (q0 := 0) rfl rfl, fun U hU hW => ⟨rfl, by rw [hU]; exact hP.sub (ws' := [(m0, .inr (7, [.int (nI n), .ref g1, .ref g2, .ref g3, .int mr, .ref g4, .int (nI y), .ref g5, .int mo, .ref g6, .int ml, .ref g7, .ref g8, .ref g9, .ref g10, .ref g11, .ref g12])), (g4, .inl (cZ, 20480, .inl fs)), (g12, .inl (cI, 9, .inl th))]) [0, 4, 5] rfl, hKN.warm hW⟩⟩ rfl rfl hl.1 rfl (lv_room (Nat.le_of_ble_eq_true rfl)) dX7_plan_30 ⟨Nat.le_of_ble_eq_true rfl, Nat.le_of_ble_eq_true rfl⟩) hS hP (fun r1 H locs w1r hP hS => ?_)
  have w1 : (r1 = nI 1 ∧ Sg fs y (setN cv 1 n)) ∨ (r1 = -1 ∧ ¬ Sg fs y (setN cv 1 n) ∧ Sg fs y (2 ^ n - 1 - setN cv 2 n)) ∨ (r1 = nI 0 ∧ ¬ Sg fs y (setN cv 1 n) ∧ ¬ Sg fs y (2 ^ n - 1 - setN cv 2 n)) := w1r
  clear w1r
  rcases w1 with ⟨rfl, w1⟩ | ⟨rfl, w1⟩ | ⟨rfl, w1⟩
  · skip
    refine lv_iconst (v := (-1 : Int32)) hx hb dX7_plan_33 (by decide) ?_
    refine lv_icmp_eq (tgt := 38) hx hb dX7_plan_34 (by decide) (fun c2 => ?_) (fun c2 => ?_)
    · exact absurd c2 (by first | decide | exact nz_lt (by omega) | exact fun h => h (nz_ge (by omega)))
    · skip
      rw [← hQ]
      exact W.vret hx hb hr (fun tS htS hWS => ⟨⟨(vp_updL eb cv (lN 0), upd en cv (-1 : Int32), upd ew cv (nI 0), upd ex cv (-1 : Int32)), rfl, ⟨fun z hz => ⟨if_neg hz, if_neg hz, if_neg hz, if_neg hz⟩, RM.sure (fun h => by first | exact absurd w1 h.1 | exact absurd h.2 w1.2) (if_pos rfl) (if_pos rfl) (if_pos rfl) (if_pos rfl)⟩, m_at htS hP⟩, by rw [← has]; exact hS.F htS⟩) (by rw [← has]; exact hS.2.2) dX7_plan_37
  · skip
    have hus := w1
    refine lv_iconst (v := (-1 : Int32)) hx hb dX7_plan_33 (by decide) ?_
    refine lv_icmp_eq (tgt := 38) hx hb dX7_plan_34 (by decide) (fun c3 => ?_) (fun c3 => ?_)
    · skip
      refine lv_aload_n hx hb dX7_plan_38 rfl (lv_at hl 0 rfl) ?_
      refine lv_iload_n hx hb dX7_plan_39 rfl (lv_at hl 1 rfl) ?_
      refine pu_l (va_runV (As := [.int (nI cv)]) (rest := []) ⟨hx, hb, hml, hown, hts⟩ (c_X7_left l D cI cJ cZ m0 g1 g2 g3 g4 g5 g6 g7 g8 g9 g10 g11 g12 n mr (nI y) mo ml (nI cv) fg fb th (by first | assumption | omega) (by intro z hz; exact m_th0 (hth z hz) hz)) (cwV 1 hts gX7_plan_X7_left rfl rfl rfl (by decide +kernel) ⟨Nat.le_of_ble_eq_true rfl, Nat.le_of_ble_eq_true rfl⟩) ⟨pc_blind, va_recv hK hP (ci := 7) (q0 := 0) rfl rfl, fun U hU hW => ⟨rfl, by rw [hU]; exact hP.sub (ws' := [(m0, .inr (7, [.int (nI n), .ref g1, .ref g2, .ref g3, .int mr, .ref g4, .int (nI y), .ref g5, .int mo, .ref g6, .int ml, .ref g7, .ref g8, .ref g9, .ref g10, .ref g11, .ref g12])), (g1, .inl (cI, 9, .inl fg)), (g2, .inl (cI, 9, .inl fb)), (g12, .inl (cI, 9, .inl th))]) [0, 1, 2, 5] rfl, hKN.warm hW⟩⟩ rfl rfl hl.1 rfl (lv_room (Nat.le_of_ble_eq_true rfl)) dX7_plan_40 ⟨Nat.le_of_ble_eq_true rfl, Nat.le_of_ble_eq_true rfl⟩) hS hP (fun r4 H locs w4r hP hS => ?_)
      have w4 : r4 = mlf fg fb th (nI cv) n := w4r
      clear w4r
      obtain rfl : r4 = mlf fg fb th (nI cv) n := w4
      refine lv_lstore_n (lv' := [(2, .long (mlf fg fb th (nI cv) n)), (0, .ref m0), (1, .int (nI cv))]) hx hb dX7_plan_43 rfl hl (by decide) rfl (fun ls hl => ?_)
      refine lv_iconst (v := nI 0) hx hb dX7_plan_44 (by decide) ?_
      refine lv_istore (lv' := [(4, .int (nI 0)), (2, .long (mlf fg fb th (nI cv) n)), (0, .ref m0), (1, .int (nI cv))]) hx hb dX7_plan_45 hl (by decide) rfl (fun ls hl => ?_)
      have loop5 : ∀ (fu : Nat) (k : Nat) (ub : Nat → Int64) (un : Nat → Int32) (uw : Nat → Int32) (ux : Nat → Int32) (H : Heap) (locs : List Loc) (ls : Array Slot), (k ≤ n ∧ n < k + fu) → (∀ z, ¬ z = cv → ub z = eb z ∧ un z = en z ∧ uw z = ew z ∧ ux z = ex z) → (AM (fun z => cv / 3 ^ z % 3 = 0) (fun z => (mE fp eb (mlf fg fb th (nI cv) n) cv z).toInt) k (un cv) (ub cv).toInt) → (AM (fun z => cv / 3 ^ z % 3 = 0) (fun z => (mW fp ew cv z).toInt) k (ux cv) (uw cv).toInt) → va_P D vwCl [(m0, .inr (7, [.int (nI n), .ref g1, .ref g2, .ref g3, .int mr, .ref g4, .int (nI y), .ref g5, .int mo, .ref g6, .int ml, .ref g7, .ref g8, .ref g9, .ref g10, .ref g11, .ref g12])), (g1, .inl (cI, 9, .inl fg)), (g2, .inl (cI, 9, .inl fb)), (g3, .inl (cI, 9, .inl fp)), (g4, .inl (cZ, 20480, .inl fs)), (g12, .inl (cI, 9, .inl th)), (g8, .inl (cJ, 19683, .inr (.inl ub))), (g9, .inl (cI, 19683, .inl un)), (g10, .inl (cI, 19683, .inl uw)), (g11, .inl (cI, 19683, .inl ux))] H → va_D (aA as) [(m0, .inr (7, [.int (nI n), .ref g1, .ref g2, .ref g3, .int mr, .ref g4, .int (nI y), .ref g5, .int mo, .ref g6, .int ml, .ref g7, .ref g8, .ref g9, .ref g10, .ref g11, .ref g12])), (g1, .inl (cI, 9, .inl fg)), (g2, .inl (cI, 9, .inl fb)), (g3, .inl (cI, 9, .inl fp)), (g4, .inl (cZ, 20480, .inl fs)), (g12, .inl (cI, 9, .inl th)), (g8, .inl (cJ, 19683, .inr (.inl ub))), (g9, .inl (cI, 19683, .inl un)), (g10, .inl (cI, 19683, .inl uw)), (g11, .inl (cI, 19683, .inl ux))] → va_S (aA as) s.heap H locs → lv_has ls 10 [(4, .int (nI k)), (2, .long (mlf fg fb th (nI cv) n)), (0, .ref m0), (1, .int (nI cv))] → W p l e (headSpec wsX7_plan rm_c_X7_plan_v).room s m ([.ref m0, .int (nI cv)] : List Value).toArray below meth c H locs 0 0 Q (F0 m 47 ls []) := by
        intro fu
        induction fu with
        | zero => intro k ub un uw ux H locs ls hk hsm hb9 hw9; exact absurd hk (by omega)
        | succ fu ih5 =>
          intro k ub un uw ux H locs ls hk hsm hb9 hw9 hP hD hS hl
          refine lv_iload hx hb dX7_plan_47 (lv_at hl 0 rfl) ?_
          refine lv_aload_n hx hb dX7_plan_49 rfl (lv_at hl 2 rfl) ?_
          refine va_get (D := D) (ci := 7) (v := .int (nI n)) (C := RX7) (T := TX7) (N := 17) hx hb hts hiX7 hown hK hP 0 rfl rfl 0 (by decide) hf7 (fun _ h9 => h9) rfl dX7_plan_50 ?_
          refine lv_icmp_ge (tgt := 245) hx hb dX7_plan_53 (by decide) (fun c6 => ?_) (fun c6 => ?_)
          · skip
            have d6 := c6
            rw [nI_leI (by omega) (by omega)] at d6
            rw [← hQ]
            exact W.vret hx hb hr (fun tS htS hWS => ⟨⟨(ub, un, uw, ux), rfl, ⟨hsm, RM.uns (W := (fun c9 => mlf fg fb th (nI c9) n)) hus (uns_exM hus) (fun z hz => ⟨(hsm z hz).1, (hsm z hz).2.2.1⟩) ((show k = n by omega) ▸ hb9) ((show k = n by omega) ▸ hw9)⟩, m_at htS hP⟩, by rw [← has]; exact hS.F htS⟩) (by rw [← has]; exact hS.2.2) dX7_plan_245
          · skip
            have d6 := c6
            rw [nI_leI (by omega) (by omega)] at d6
            refine lv_aload_n hx hb dX7_plan_56 rfl (lv_at hl 2 rfl) ?_
            refine lv_iload_n hx hb dX7_plan_57 rfl (lv_at hl 3 rfl) ?_
            refine lv_iload hx hb dX7_plan_58 (lv_at hl 0 rfl) ?_
            refine pu_i (va_runV (As := [.int (nI cv), .int (nI k)]) (rest := []) ⟨hx, hb, hml, hown, hts⟩ (c_X7_digit_g l D cI cJ cZ m0 g1 g2 g3 g4 g5 g6 g7 g8 g9 g10 g11 g12 k cv (nI n) mr (nI y) mo ml th (by first | assumption | omega) (by first | assumption | omega) (by first | assumption | omega)) (cwV 2 hts gX7_plan_X7_digit rfl rfl rfl (by decide +kernel) ⟨Nat.le_of_ble_eq_true rfl, Nat.le_of_ble_eq_true rfl⟩) ⟨pc_blind, va_recv hK hP (ci := 7) (q0 := 0) rfl rfl, fun U hU hW => ⟨rfl, by rw [hU]; exact hP.sub (ws' := [(m0, .inr (7, [.int (nI n), .ref g1, .ref g2, .ref g3, .int mr, .ref g4, .int (nI y), .ref g5, .int mo, .ref g6, .int ml, .ref g7, .ref g8, .ref g9, .ref g10, .ref g11, .ref g12])), (g12, .inl (cI, 9, .inl th))]) [0, 5] rfl, hKN.warm hW⟩⟩ rfl rfl hl.1 rfl (lv_room (Nat.le_of_ble_eq_true rfl)) dX7_plan_60 ⟨Nat.le_of_ble_eq_true rfl, Nat.le_of_ble_eq_true rfl⟩) hS hP (fun r7 H locs w7r hP hS => ?_)
            have w7 : r7 = nI (cv / 3 ^ k % 3) := w7r
            clear w7r
            obtain rfl : r7 = nI (cv / 3 ^ k % 3) := w7
            refine lv_if_eq (tgt := 69) hx hb dX7_plan_63 (by decide) (fun c8 => ?_) (fun c8 => ?_)
            · skip
              have d8 := c8
              rw [nz_eq (by omega)] at d8
              have hT := d8
              refine lv_iload_n hx hb dX7_plan_69 rfl (lv_at hl 3 rfl) ?_
              refine lv_aload_n hx hb dX7_plan_70 rfl (lv_at hl 2 rfl) ?_
              refine va_get (D := D) (ci := 7) (v := .ref g12) (C := RX7) (T := TX7) (N := 17) hx hb hts hiX7 hown hK hP 0 rfl rfl 16 (by decide) hf52 (fun _ h9 => h9) rfl dX7_plan_71 ?_
              refine lv_iload hx hb dX7_plan_74 (lv_at hl 0 rfl) ?_
              refine va_iald hx hb hK hP 5 0 rfl rfl (i := nI k) (vp_in_nI (by omega) (by omega)) dX7_plan_76 ?_
              refine cn_i (y := nI (3 ^ k)) ((congrArg th (nI_clamp (by omega))).trans (hth k (by omega))) ?_
              refine lv_iadd hx hb dX7_plan_77 ?_
              refine cn_i (y := nI (cv + (3 ^ k))) (nI_add cv (3 ^ k)) ?_
              refine lv_istore (lv' := [(5, .int (nI (cv + (3 ^ k)))), (4, .int (nI k)), (2, .long (mlf fg fb th (nI cv) n)), (0, .ref m0), (1, .int (nI cv))]) hx hb dX7_plan_78 hl (by decide) rfl (fun ls hl => ?_)
              have h8 := m_up (n := n) (x := k) hcv (by omega) (by omega)
              have h3p := m_p3p k
              refine lv_iload hx hb dX7_plan_80 (lv_at hl 0 rfl) ?_
              refine lv_aload_n hx hb dX7_plan_82 rfl (lv_at hl 3 rfl) ?_
              refine va_get (D := D) (ci := 7) (v := .ref g12) (C := RX7) (T := TX7) (N := 17) hx hb hts hiX7 hown hK hP 0 rfl rfl 16 (by decide) hf52 (fun _ h9 => h9) rfl dX7_plan_83 ?_
              refine lv_iload hx hb dX7_plan_86 (lv_at hl 1 rfl) ?_
              refine va_iald hx hb hK hP 5 0 rfl rfl (i := nI k) (vp_in_nI (by omega) (by omega)) dX7_plan_88 ?_
              refine cn_i (y := nI (3 ^ k)) ((congrArg th (nI_clamp (by omega))).trans (hth k (by omega))) ?_
              refine lv_iadd hx hb dX7_plan_89 ?_
              refine cn_i (y := nI ((cv + (3 ^ k)) + (3 ^ k))) (nI_add (cv + (3 ^ k)) (3 ^ k)) ?_
              refine lv_istore (lv' := [(6, .int (nI ((cv + (3 ^ k)) + (3 ^ k)))), (5, .int (nI (cv + (3 ^ k)))), (4, .int (nI k)), (2, .long (mlf fg fb th (nI cv) n)), (0, .ref m0), (1, .int (nI cv))]) hx hb dX7_plan_90 hl (by decide) rfl (fun ls hl => ?_)
              refine lv_lload_n hx hb dX7_plan_92 rfl (lv_at hl 3 rfl) ?_
              refine lv_aload_n hx hb dX7_plan_93 rfl (lv_at hl 4 rfl) ?_
              refine va_get (D := D) (ci := 7) (v := .ref g3) (C := RX7) (T := TX7) (N := 17) hx hb hts hiX7 hown hK hP 0 rfl rfl 3 (by decide) hf20 (fun _ h9 => h9) rfl dX7_plan_94 ?_
              refine lv_iload hx hb dX7_plan_97 (lv_at hl 2 rfl) ?_
              refine va_iald hx hb hK hP 3 0 rfl rfl (i := nI k) (vp_in_nI (by omega) (by omega)) dX7_plan_99 ?_
              refine cn_i (y := fp k) (congrArg fp (nI_clamp (by omega))) ?_
              refine lv_i2l hx hb dX7_plan_100 rfl ?_
              refine lv_lmul hx hb dX7_plan_101 ?_
              refine lv_aload_n hx hb dX7_plan_102 rfl (lv_at hl 4 rfl) ?_
              refine va_get (D := D) (ci := 7) (v := .ref g8) (C := RX7) (T := TX7) (N := 17) hx hb hts hiX7 hown hK hP 0 rfl rfl 12 (by decide) hf39 (fun _ h9 => h9) rfl dX7_plan_103 ?_
              refine lv_iload hx hb dX7_plan_106 (lv_at hl 1 rfl) ?_
              refine va_lald hx hb hK hP 6 1 rfl rfl (i := nI (cv + (3 ^ k))) (vp_in_nI (by omega) (by omega)) dX7_plan_108 ?_
              refine cn_l (y := ub (cv + (3 ^ k))) (congrArg ub (nI_clamp (by omega))) ?_
              refine lv_ladd hx hb dX7_plan_109 ?_
              refine lv_aload_n hx hb dX7_plan_110 rfl (lv_at hl 4 rfl) ?_
              refine va_get (D := D) (ci := 7) (v := .ref g8) (C := RX7) (T := TX7) (N := 17) hx hb hts hiX7 hown hK hP 0 rfl rfl 12 (by decide) hf39 (fun _ h9 => h9) rfl dX7_plan_111 ?_
              refine lv_iload hx hb dX7_plan_114 (lv_at hl 0 rfl) ?_
              refine va_lald hx hb hK hP 6 1 rfl rfl (i := nI ((cv + (3 ^ k)) + (3 ^ k))) (vp_in_nI (by omega) (by omega)) dX7_plan_116 ?_
              refine cn_l (y := ub ((cv + (3 ^ k)) + (3 ^ k))) (congrArg ub (nI_clamp (by omega))) ?_
              refine lv_ladd hx hb dX7_plan_117 ?_
              refine cn_l (y := mE fp eb (mlf fg fb th (nI cv) n) cv k) (mE_of (hsm (cv + 3 ^ k) (by omega)).1 (hsm (cv + 3 ^ k + 3 ^ k) (by omega)).1) ?_
              refine lv_lstore (lv' := [(7, .long (mE fp eb (mlf fg fb th (nI cv) n) cv k)), (6, .int (nI ((cv + (3 ^ k)) + (3 ^ k)))), (5, .int (nI (cv + (3 ^ k)))), (4, .int (nI k)), (2, .long (mlf fg fb th (nI cv) n)), (0, .ref m0), (1, .int (nI cv))]) hx hb dX7_plan_118 hl (by decide) rfl (fun ls hl => ?_)
              refine lv_aload_n hx hb dX7_plan_120 rfl (lv_at hl 5 rfl) ?_
              refine va_get (D := D) (ci := 7) (v := .ref g9) (C := RX7) (T := TX7) (N := 17) hx hb hts hiX7 hown hK hP 0 rfl rfl 13 (by decide) hf43 (fun _ h9 => h9) rfl dX7_plan_121 ?_
              refine lv_iload_n hx hb dX7_plan_124 rfl (lv_at hl 6 rfl) ?_
              refine va_iald hx hb hK hP 7 0 rfl rfl (i := nI cv) (vp_in_nI (by omega) (by omega)) dX7_plan_125 ?_
              refine cn_i (y := un cv) (congrArg un (nI_clamp (by omega))) ?_
              refine lv_iconst (v := (-1 : Int32)) hx hb dX7_plan_126 (by decide) ?_
              refine lv_icmp_eq (tgt := 142) hx hb dX7_plan_127 (by decide) (fun c9 => ?_) (fun c9 => ?_)
              · skip
                have hb1 := c9
                refine lv_aload_n hx hb dX7_plan_142 rfl (lv_at hl 5 rfl) ?_
                refine va_get (D := D) (ci := 7) (v := .ref g8) (C := RX7) (T := TX7) (N := 17) hx hb hts hiX7 hown hK hP 0 rfl rfl 12 (by decide) hf39 (fun _ h9 => h9) rfl dX7_plan_143 ?_
                refine lv_iload_n hx hb dX7_plan_146 rfl (lv_at hl 6 rfl) ?_
                refine lv_lload hx hb dX7_plan_147 (lv_at hl 0 rfl) ?_
                refine va_last hx hb hK hP hD hS 6 1 rfl rfl (i := nI cv) (vp_in_nI (by omega) (by omega)) dX7_plan_149 (fun H locs hP hD hS => ?_)
                have hP : va_P D vwCl [(m0, .inr (7, [.int (nI n), .ref g1, .ref g2, .ref g3, .int mr, .ref g4, .int (nI y), .ref g5, .int mo, .ref g6, .int ml, .ref g7, .ref g8, .ref g9, .ref g10, .ref g11, .ref g12])), (g1, .inl (cI, 9, .inl fg)), (g2, .inl (cI, 9, .inl fb)), (g3, .inl (cI, 9, .inl fp)), (g4, .inl (cZ, 20480, .inl fs)), (g12, .inl (cI, 9, .inl th)), (g8, .inl (cJ, 19683, .inr (.inl (vp_updL ub (nI cv).toNatClampNeg (mE fp eb (mlf fg fb th (nI cv) n) cv k))))), (g9, .inl (cI, 19683, .inl un)), (g10, .inl (cI, 19683, .inl uw)), (g11, .inl (cI, 19683, .inl ux))] H := hP
                have hD : va_D (aA as) [(m0, .inr (7, [.int (nI n), .ref g1, .ref g2, .ref g3, .int mr, .ref g4, .int (nI y), .ref g5, .int mo, .ref g6, .int ml, .ref g7, .ref g8, .ref g9, .ref g10, .ref g11, .ref g12])), (g1, .inl (cI, 9, .inl fg)), (g2, .inl (cI, 9, .inl fb)), (g3, .inl (cI, 9, .inl fp)), (g4, .inl (cZ, 20480, .inl fs)), (g12, .inl (cI, 9, .inl th)), (g8, .inl (cJ, 19683, .inr (.inl (vp_updL ub (nI cv).toNatClampNeg (mE fp eb (mlf fg fb th (nI cv) n) cv k))))), (g9, .inl (cI, 19683, .inl un)), (g10, .inl (cI, 19683, .inl uw)), (g11, .inl (cI, 19683, .inl ux))] := hD
                rw [nI_clamp (n := cv) (by omega)] at hP hD
                refine lv_aload_n hx hb dX7_plan_150 rfl (lv_at hl 5 rfl) ?_
                refine va_get (D := D) (ci := 7) (v := .ref g9) (C := RX7) (T := TX7) (N := 17) hx hb hts hiX7 hown hK hP 0 rfl rfl 13 (by decide) hf43 (fun _ h9 => h9) rfl dX7_plan_151 ?_
                refine lv_iload_n hx hb dX7_plan_154 rfl (lv_at hl 6 rfl) ?_
                refine lv_iload hx hb dX7_plan_155 (lv_at hl 3 rfl) ?_
                refine va_iast hx hb hK hP hD hS 7 0 rfl rfl (i := nI cv) (vp_in_nI (by omega) (by omega)) dX7_plan_157 (fun H locs hP hD hS => ?_)
                have hP : va_P D vwCl [(m0, .inr (7, [.int (nI n), .ref g1, .ref g2, .ref g3, .int mr, .ref g4, .int (nI y), .ref g5, .int mo, .ref g6, .int ml, .ref g7, .ref g8, .ref g9, .ref g10, .ref g11, .ref g12])), (g1, .inl (cI, 9, .inl fg)), (g2, .inl (cI, 9, .inl fb)), (g3, .inl (cI, 9, .inl fp)), (g4, .inl (cZ, 20480, .inl fs)), (g12, .inl (cI, 9, .inl th)), (g8, .inl (cJ, 19683, .inr (.inl (vp_updL ub cv (mE fp eb (mlf fg fb th (nI cv) n) cv k))))), (g9, .inl (cI, 19683, .inl (upd un (nI cv).toNatClampNeg (nI k)))), (g10, .inl (cI, 19683, .inl uw)), (g11, .inl (cI, 19683, .inl ux))] H := hP
                have hD : va_D (aA as) [(m0, .inr (7, [.int (nI n), .ref g1, .ref g2, .ref g3, .int mr, .ref g4, .int (nI y), .ref g5, .int mo, .ref g6, .int ml, .ref g7, .ref g8, .ref g9, .ref g10, .ref g11, .ref g12])), (g1, .inl (cI, 9, .inl fg)), (g2, .inl (cI, 9, .inl fb)), (g3, .inl (cI, 9, .inl fp)), (g4, .inl (cZ, 20480, .inl fs)), (g12, .inl (cI, 9, .inl th)), (g8, .inl (cJ, 19683, .inr (.inl (vp_updL ub cv (mE fp eb (mlf fg fb th (nI cv) n) cv k))))), (g9, .inl (cI, 19683, .inl (upd un (nI cv).toNatClampNeg (nI k)))), (g10, .inl (cI, 19683, .inl uw)), (g11, .inl (cI, 19683, .inl ux))] := hD
                rw [nI_clamp (n := cv) (by omega)] at hP hD
                refine lv_aload_n hx hb dX7_plan_158 rfl (lv_at hl 5 rfl) ?_
                refine va_get (D := D) (ci := 7) (v := .ref g3) (C := RX7) (T := TX7) (N := 17) hx hb hts hiX7 hown hK hP 0 rfl rfl 3 (by decide) hf20 (fun _ h9 => h9) rfl dX7_plan_159 ?_
                refine lv_iload hx hb dX7_plan_162 (lv_at hl 3 rfl) ?_
                refine va_iald hx hb hK hP 3 0 rfl rfl (i := nI k) (vp_in_nI (by omega) (by omega)) dX7_plan_164 ?_
                refine cn_i (y := fp k) (congrArg fp (nI_clamp (by omega))) ?_
                refine lv_aload_n hx hb dX7_plan_165 rfl (lv_at hl 5 rfl) ?_
                refine va_get (D := D) (ci := 7) (v := .ref g10) (C := RX7) (T := TX7) (N := 17) hx hb hts hiX7 hown hK hP 0 rfl rfl 14 (by decide) hf46 (fun _ h9 => h9) rfl dX7_plan_166 ?_
                refine lv_iload hx hb dX7_plan_169 (lv_at hl 2 rfl) ?_
                refine va_iald hx hb hK hP 8 0 rfl rfl (i := nI (cv + (3 ^ k))) (vp_in_nI (by omega) (by omega)) dX7_plan_171 ?_
                refine cn_i (y := uw (cv + (3 ^ k))) (congrArg uw (nI_clamp (by omega))) ?_
                refine lv_aload_n hx hb dX7_plan_172 rfl (lv_at hl 5 rfl) ?_
                refine va_get (D := D) (ci := 7) (v := .ref g10) (C := RX7) (T := TX7) (N := 17) hx hb hts hiX7 hown hK hP 0 rfl rfl 14 (by decide) hf46 (fun _ h9 => h9) rfl dX7_plan_173 ?_
                refine lv_iload hx hb dX7_plan_176 (lv_at hl 1 rfl) ?_
                refine va_iald hx hb hK hP 8 0 rfl rfl (i := nI ((cv + (3 ^ k)) + (3 ^ k))) (vp_in_nI (by omega) (by omega)) dX7_plan_178 ?_
                refine cn_i (y := uw ((cv + (3 ^ k)) + (3 ^ k))) (congrArg uw (nI_clamp (by omega))) ?_
                refine lv_icmp_le (tgt := 192) hx hb dX7_plan_179 (by decide) (fun c10 => ?_) (fun c10 => ?_)
                · skip
                  have hm9 := mxw_r c10
                  refine lv_aload_n hx hb dX7_plan_192 rfl (lv_at hl 5 rfl) ?_
                  refine va_get (D := D) (ci := 7) (v := .ref g10) (C := RX7) (T := TX7) (N := 17) hx hb hts hiX7 hown hK hP 0 rfl rfl 14 (by decide) hf46 (fun _ h9 => h9) rfl dX7_plan_193 ?_
                  refine lv_iload hx hb dX7_plan_196 (lv_at hl 1 rfl) ?_
                  refine va_iald hx hb hK hP 8 0 rfl rfl (i := nI ((cv + (3 ^ k)) + (3 ^ k))) (vp_in_nI (by omega) (by omega)) dX7_plan_198 ?_
                  refine cn_i (y := uw ((cv + (3 ^ k)) + (3 ^ k))) (congrArg uw (nI_clamp (by omega))) ?_
                  refine lv_iadd hx hb dX7_plan_199 ?_
                  refine cn_i (y := mW fp ew cv k) (mW_of (hsm (cv + 3 ^ k) (by omega)).2.2.1 (hsm (cv + 3 ^ k + 3 ^ k) (by omega)).2.2.1 hm9) ?_
                  refine lv_istore (lv' := [(9, .int (mW fp ew cv k)), (7, .long (mE fp eb (mlf fg fb th (nI cv) n) cv k)), (6, .int (nI ((cv + (3 ^ k)) + (3 ^ k)))), (5, .int (nI (cv + (3 ^ k)))), (4, .int (nI k)), (2, .long (mlf fg fb th (nI cv) n)), (0, .ref m0), (1, .int (nI cv))]) hx hb dX7_plan_200 hl (by decide) rfl (fun ls hl => ?_)
                  refine lv_aload_n hx hb dX7_plan_202 rfl (lv_at hl 6 rfl) ?_
                  refine va_get (D := D) (ci := 7) (v := .ref g11) (C := RX7) (T := TX7) (N := 17) hx hb hts hiX7 hown hK hP 0 rfl rfl 15 (by decide) hf49 (fun _ h9 => h9) rfl dX7_plan_203 ?_
                  refine lv_iload_n hx hb dX7_plan_206 rfl (lv_at hl 7 rfl) ?_
                  refine va_iald hx hb hK hP 9 0 rfl rfl (i := nI cv) (vp_in_nI (by omega) (by omega)) dX7_plan_207 ?_
                  refine cn_i (y := ux cv) (congrArg ux (nI_clamp (by omega))) ?_
                  refine lv_iconst (v := (-1 : Int32)) hx hb dX7_plan_208 (by decide) ?_
                  refine lv_icmp_eq (tgt := 223) hx hb dX7_plan_209 (by decide) (fun c11 => ?_) (fun c11 => ?_)
                  · skip
                    have hw1 := c11
                    refine lv_aload_n hx hb dX7_plan_223 rfl (lv_at hl 6 rfl) ?_
                    refine va_get (D := D) (ci := 7) (v := .ref g10) (C := RX7) (T := TX7) (N := 17) hx hb hts hiX7 hown hK hP 0 rfl rfl 14 (by decide) hf46 (fun _ h9 => h9) rfl dX7_plan_224 ?_
                    refine lv_iload_n hx hb dX7_plan_227 rfl (lv_at hl 7 rfl) ?_
                    refine lv_iload hx hb dX7_plan_228 (lv_at hl 0 rfl) ?_
                    refine va_iast hx hb hK hP hD hS 8 0 rfl rfl (i := nI cv) (vp_in_nI (by omega) (by omega)) dX7_plan_230 (fun H locs hP hD hS => ?_)
                    have hP : va_P D vwCl [(m0, .inr (7, [.int (nI n), .ref g1, .ref g2, .ref g3, .int mr, .ref g4, .int (nI y), .ref g5, .int mo, .ref g6, .int ml, .ref g7, .ref g8, .ref g9, .ref g10, .ref g11, .ref g12])), (g1, .inl (cI, 9, .inl fg)), (g2, .inl (cI, 9, .inl fb)), (g3, .inl (cI, 9, .inl fp)), (g4, .inl (cZ, 20480, .inl fs)), (g12, .inl (cI, 9, .inl th)), (g8, .inl (cJ, 19683, .inr (.inl (vp_updL ub cv (mE fp eb (mlf fg fb th (nI cv) n) cv k))))), (g9, .inl (cI, 19683, .inl (upd un cv (nI k)))), (g10, .inl (cI, 19683, .inl (upd uw (nI cv).toNatClampNeg (mW fp ew cv k)))), (g11, .inl (cI, 19683, .inl ux))] H := hP
                    have hD : va_D (aA as) [(m0, .inr (7, [.int (nI n), .ref g1, .ref g2, .ref g3, .int mr, .ref g4, .int (nI y), .ref g5, .int mo, .ref g6, .int ml, .ref g7, .ref g8, .ref g9, .ref g10, .ref g11, .ref g12])), (g1, .inl (cI, 9, .inl fg)), (g2, .inl (cI, 9, .inl fb)), (g3, .inl (cI, 9, .inl fp)), (g4, .inl (cZ, 20480, .inl fs)), (g12, .inl (cI, 9, .inl th)), (g8, .inl (cJ, 19683, .inr (.inl (vp_updL ub cv (mE fp eb (mlf fg fb th (nI cv) n) cv k))))), (g9, .inl (cI, 19683, .inl (upd un cv (nI k)))), (g10, .inl (cI, 19683, .inl (upd uw (nI cv).toNatClampNeg (mW fp ew cv k)))), (g11, .inl (cI, 19683, .inl ux))] := hD
                    rw [nI_clamp (n := cv) (by omega)] at hP hD
                    refine lv_aload_n hx hb dX7_plan_231 rfl (lv_at hl 6 rfl) ?_
                    refine va_get (D := D) (ci := 7) (v := .ref g11) (C := RX7) (T := TX7) (N := 17) hx hb hts hiX7 hown hK hP 0 rfl rfl 15 (by decide) hf49 (fun _ h9 => h9) rfl dX7_plan_232 ?_
                    refine lv_iload_n hx hb dX7_plan_235 rfl (lv_at hl 7 rfl) ?_
                    refine lv_iload hx hb dX7_plan_236 (lv_at hl 4 rfl) ?_
                    refine va_iast hx hb hK hP hD hS 9 0 rfl rfl (i := nI cv) (vp_in_nI (by omega) (by omega)) dX7_plan_238 (fun H locs hP hD hS => ?_)
                    have hP : va_P D vwCl [(m0, .inr (7, [.int (nI n), .ref g1, .ref g2, .ref g3, .int mr, .ref g4, .int (nI y), .ref g5, .int mo, .ref g6, .int ml, .ref g7, .ref g8, .ref g9, .ref g10, .ref g11, .ref g12])), (g1, .inl (cI, 9, .inl fg)), (g2, .inl (cI, 9, .inl fb)), (g3, .inl (cI, 9, .inl fp)), (g4, .inl (cZ, 20480, .inl fs)), (g12, .inl (cI, 9, .inl th)), (g8, .inl (cJ, 19683, .inr (.inl (vp_updL ub cv (mE fp eb (mlf fg fb th (nI cv) n) cv k))))), (g9, .inl (cI, 19683, .inl (upd un cv (nI k)))), (g10, .inl (cI, 19683, .inl (upd uw cv (mW fp ew cv k)))), (g11, .inl (cI, 19683, .inl (upd ux (nI cv).toNatClampNeg (nI k))))] H := hP
                    have hD : va_D (aA as) [(m0, .inr (7, [.int (nI n), .ref g1, .ref g2, .ref g3, .int mr, .ref g4, .int (nI y), .ref g5, .int mo, .ref g6, .int ml, .ref g7, .ref g8, .ref g9, .ref g10, .ref g11, .ref g12])), (g1, .inl (cI, 9, .inl fg)), (g2, .inl (cI, 9, .inl fb)), (g3, .inl (cI, 9, .inl fp)), (g4, .inl (cZ, 20480, .inl fs)), (g12, .inl (cI, 9, .inl th)), (g8, .inl (cJ, 19683, .inr (.inl (vp_updL ub cv (mE fp eb (mlf fg fb th (nI cv) n) cv k))))), (g9, .inl (cI, 19683, .inl (upd un cv (nI k)))), (g10, .inl (cI, 19683, .inl (upd uw cv (mW fp ew cv k)))), (g11, .inl (cI, 19683, .inl (upd ux (nI cv).toNatClampNeg (nI k))))] := hD
                    rw [nI_clamp (n := cv) (by omega)] at hP hD
                    refine lv_iinc (v := nI (k + 1)) (lv' := [(4, .int (nI (k + 1))), (9, .int (mW fp ew cv k)), (7, .long (mE fp eb (mlf fg fb th (nI cv) n) cv k)), (6, .int (nI ((cv + (3 ^ k)) + (3 ^ k)))), (5, .int (nI (cv + (3 ^ k)))), (2, .long (mlf fg fb th (nI cv) n)), (0, .ref m0), (1, .int (nI cv))]) hx hb dX7_plan_239 hl (k := 4) rfl (nI_1 k) (by decide) rfl (fun ls hl => ?_)
                    refine lv_goto (tgt := 47) hx hb dX7_plan_242 (by decide) ?_
                    exact ih5 (k + 1) (vp_updL ub cv (mE fp eb (mlf fg fb th (nI cv) n) cv k)) (upd un cv (nI k)) (upd uw cv (mW fp ew cv k)) (upd ux cv (nI k)) _ _ _ (by omega) (fun z hz => by have h7 := hsm z hz; first | exact h7 | exact ⟨(if_neg hz).trans h7.1, (if_neg hz).trans h7.2.1, h7.2.2⟩ | exact ⟨h7.1, h7.2.1, (if_neg hz).trans h7.2.2.1, (if_neg hz).trans h7.2.2.2⟩ | exact ⟨(if_neg hz).trans h7.1, (if_neg hz).trans h7.2.1, (if_neg hz).trans h7.2.2.1, (if_neg hz).trans h7.2.2.2⟩) (by first | exact hb9.skip hT | (rw [upd_same, updL_same]; first | exact hb9.first hT (by omega) hb1 | exact hb9.take hT hb1 hb2) | exact hb9.leave hb1 hb2) (by first | exact hw9.skip hT | (rw [upd_same, upd_same]; first | exact hw9.first hT (by omega) hw1 | exact hw9.take hT hw1 hw2) | exact hw9.leave hw1 hw2) hP hD hS (lv_sub hl [0, 5, 6, 7] rfl)
                  · skip
                    have hw1 := c11
                    refine lv_iload hx hb dX7_plan_212 (lv_at hl 0 rfl) ?_
                    refine lv_aload_n hx hb dX7_plan_214 rfl (lv_at hl 6 rfl) ?_
                    refine va_get (D := D) (ci := 7) (v := .ref g10) (C := RX7) (T := TX7) (N := 17) hx hb hts hiX7 hown hK hP 0 rfl rfl 14 (by decide) hf46 (fun _ h9 => h9) rfl dX7_plan_215 ?_
                    refine lv_iload_n hx hb dX7_plan_218 rfl (lv_at hl 7 rfl) ?_
                    refine va_iald hx hb hK hP 8 0 rfl rfl (i := nI cv) (vp_in_nI (by omega) (by omega)) dX7_plan_219 ?_
                    refine cn_i (y := uw cv) (congrArg uw (nI_clamp (by omega))) ?_
                    refine lv_icmp_ge (tgt := 239) hx hb dX7_plan_220 (by decide) (fun c12 => ?_) (fun c12 => ?_)
                    · skip
                      have d12 := c12
                      rw [i_le] at d12
                      have hw2 := d12
                      refine lv_iinc (v := nI (k + 1)) (lv' := [(4, .int (nI (k + 1))), (9, .int (mW fp ew cv k)), (7, .long (mE fp eb (mlf fg fb th (nI cv) n) cv k)), (6, .int (nI ((cv + (3 ^ k)) + (3 ^ k)))), (5, .int (nI (cv + (3 ^ k)))), (2, .long (mlf fg fb th (nI cv) n)), (0, .ref m0), (1, .int (nI cv))]) hx hb dX7_plan_239 hl (k := 4) rfl (nI_1 k) (by decide) rfl (fun ls hl => ?_)
                      refine lv_goto (tgt := 47) hx hb dX7_plan_242 (by decide) ?_
                      exact ih5 (k + 1) (vp_updL ub cv (mE fp eb (mlf fg fb th (nI cv) n) cv k)) (upd un cv (nI k)) uw ux _ _ _ (by omega) (fun z hz => by have h7 := hsm z hz; first | exact h7 | exact ⟨(if_neg hz).trans h7.1, (if_neg hz).trans h7.2.1, h7.2.2⟩ | exact ⟨h7.1, h7.2.1, (if_neg hz).trans h7.2.2.1, (if_neg hz).trans h7.2.2.2⟩ | exact ⟨(if_neg hz).trans h7.1, (if_neg hz).trans h7.2.1, (if_neg hz).trans h7.2.2.1, (if_neg hz).trans h7.2.2.2⟩) (by first | exact hb9.skip hT | (rw [upd_same, updL_same]; first | exact hb9.first hT (by omega) hb1 | exact hb9.take hT hb1 hb2) | exact hb9.leave hb1 hb2) (by first | exact hw9.skip hT | (rw [upd_same, upd_same]; first | exact hw9.first hT (by omega) hw1 | exact hw9.take hT hw1 hw2) | exact hw9.leave hw1 hw2) hP hD hS (lv_sub hl [0, 5, 6, 7] rfl)
                    · skip
                      have d12 := c12
                      rw [i_le] at d12
                      have hw2 := d12
                      refine lv_aload_n hx hb dX7_plan_223 rfl (lv_at hl 6 rfl) ?_
                      refine va_get (D := D) (ci := 7) (v := .ref g10) (C := RX7) (T := TX7) (N := 17) hx hb hts hiX7 hown hK hP 0 rfl rfl 14 (by decide) hf46 (fun _ h9 => h9) rfl dX7_plan_224 ?_
                      refine lv_iload_n hx hb dX7_plan_227 rfl (lv_at hl 7 rfl) ?_
                      refine lv_iload hx hb dX7_plan_228 (lv_at hl 0 rfl) ?_
                      refine va_iast hx hb hK hP hD hS 8 0 rfl rfl (i := nI cv) (vp_in_nI (by omega) (by omega)) dX7_plan_230 (fun H locs hP hD hS => ?_)
                      have hP : va_P D vwCl [(m0, .inr (7, [.int (nI n), .ref g1, .ref g2, .ref g3, .int mr, .ref g4, .int (nI y), .ref g5, .int mo, .ref g6, .int ml, .ref g7, .ref g8, .ref g9, .ref g10, .ref g11, .ref g12])), (g1, .inl (cI, 9, .inl fg)), (g2, .inl (cI, 9, .inl fb)), (g3, .inl (cI, 9, .inl fp)), (g4, .inl (cZ, 20480, .inl fs)), (g12, .inl (cI, 9, .inl th)), (g8, .inl (cJ, 19683, .inr (.inl (vp_updL ub cv (mE fp eb (mlf fg fb th (nI cv) n) cv k))))), (g9, .inl (cI, 19683, .inl (upd un cv (nI k)))), (g10, .inl (cI, 19683, .inl (upd uw (nI cv).toNatClampNeg (mW fp ew cv k)))), (g11, .inl (cI, 19683, .inl ux))] H := hP
                      have hD : va_D (aA as) [(m0, .inr (7, [.int (nI n), .ref g1, .ref g2, .ref g3, .int mr, .ref g4, .int (nI y), .ref g5, .int mo, .ref g6, .int ml, .ref g7, .ref g8, .ref g9, .ref g10, .ref g11, .ref g12])), (g1, .inl (cI, 9, .inl fg)), (g2, .inl (cI, 9, .inl fb)), (g3, .inl (cI, 9, .inl fp)), (g4, .inl (cZ, 20480, .inl fs)), (g12, .inl (cI, 9, .inl th)), (g8, .inl (cJ, 19683, .inr (.inl (vp_updL ub cv (mE fp eb (mlf fg fb th (nI cv) n) cv k))))), (g9, .inl (cI, 19683, .inl (upd un cv (nI k)))), (g10, .inl (cI, 19683, .inl (upd uw (nI cv).toNatClampNeg (mW fp ew cv k)))), (g11, .inl (cI, 19683, .inl ux))] := hD
                      rw [nI_clamp (n := cv) (by omega)] at hP hD
                      refine lv_aload_n hx hb dX7_plan_231 rfl (lv_at hl 6 rfl) ?_
                      refine va_get (D := D) (ci := 7) (v := .ref g11) (C := RX7) (T := TX7) (N := 17) hx hb hts hiX7 hown hK hP 0 rfl rfl 15 (by decide) hf49 (fun _ h9 => h9) rfl dX7_plan_232 ?_
                      refine lv_iload_n hx hb dX7_plan_235 rfl (lv_at hl 7 rfl) ?_
                      refine lv_iload hx hb dX7_plan_236 (lv_at hl 4 rfl) ?_
                      refine va_iast hx hb hK hP hD hS 9 0 rfl rfl (i := nI cv) (vp_in_nI (by omega) (by omega)) dX7_plan_238 (fun H locs hP hD hS => ?_)
                      have hP : va_P D vwCl [(m0, .inr (7, [.int (nI n), .ref g1, .ref g2, .ref g3, .int mr, .ref g4, .int (nI y), .ref g5, .int mo, .ref g6, .int ml, .ref g7, .ref g8, .ref g9, .ref g10, .ref g11, .ref g12])), (g1, .inl (cI, 9, .inl fg)), (g2, .inl (cI, 9, .inl fb)), (g3, .inl (cI, 9, .inl fp)), (g4, .inl (cZ, 20480, .inl fs)), (g12, .inl (cI, 9, .inl th)), (g8, .inl (cJ, 19683, .inr (.inl (vp_updL ub cv (mE fp eb (mlf fg fb th (nI cv) n) cv k))))), (g9, .inl (cI, 19683, .inl (upd un cv (nI k)))), (g10, .inl (cI, 19683, .inl (upd uw cv (mW fp ew cv k)))), (g11, .inl (cI, 19683, .inl (upd ux (nI cv).toNatClampNeg (nI k))))] H := hP
                      have hD : va_D (aA as) [(m0, .inr (7, [.int (nI n), .ref g1, .ref g2, .ref g3, .int mr, .ref g4, .int (nI y), .ref g5, .int mo, .ref g6, .int ml, .ref g7, .ref g8, .ref g9, .ref g10, .ref g11, .ref g12])), (g1, .inl (cI, 9, .inl fg)), (g2, .inl (cI, 9, .inl fb)), (g3, .inl (cI, 9, .inl fp)), (g4, .inl (cZ, 20480, .inl fs)), (g12, .inl (cI, 9, .inl th)), (g8, .inl (cJ, 19683, .inr (.inl (vp_updL ub cv (mE fp eb (mlf fg fb th (nI cv) n) cv k))))), (g9, .inl (cI, 19683, .inl (upd un cv (nI k)))), (g10, .inl (cI, 19683, .inl (upd uw cv (mW fp ew cv k)))), (g11, .inl (cI, 19683, .inl (upd ux (nI cv).toNatClampNeg (nI k))))] := hD
                      rw [nI_clamp (n := cv) (by omega)] at hP hD
                      refine lv_iinc (v := nI (k + 1)) (lv' := [(4, .int (nI (k + 1))), (9, .int (mW fp ew cv k)), (7, .long (mE fp eb (mlf fg fb th (nI cv) n) cv k)), (6, .int (nI ((cv + (3 ^ k)) + (3 ^ k)))), (5, .int (nI (cv + (3 ^ k)))), (2, .long (mlf fg fb th (nI cv) n)), (0, .ref m0), (1, .int (nI cv))]) hx hb dX7_plan_239 hl (k := 4) rfl (nI_1 k) (by decide) rfl (fun ls hl => ?_)
                      refine lv_goto (tgt := 47) hx hb dX7_plan_242 (by decide) ?_
                      exact ih5 (k + 1) (vp_updL ub cv (mE fp eb (mlf fg fb th (nI cv) n) cv k)) (upd un cv (nI k)) (upd uw cv (mW fp ew cv k)) (upd ux cv (nI k)) _ _ _ (by omega) (fun z hz => by have h7 := hsm z hz; first | exact h7 | exact ⟨(if_neg hz).trans h7.1, (if_neg hz).trans h7.2.1, h7.2.2⟩ | exact ⟨h7.1, h7.2.1, (if_neg hz).trans h7.2.2.1, (if_neg hz).trans h7.2.2.2⟩ | exact ⟨(if_neg hz).trans h7.1, (if_neg hz).trans h7.2.1, (if_neg hz).trans h7.2.2.1, (if_neg hz).trans h7.2.2.2⟩) (by first | exact hb9.skip hT | (rw [upd_same, updL_same]; first | exact hb9.first hT (by omega) hb1 | exact hb9.take hT hb1 hb2) | exact hb9.leave hb1 hb2) (by first | exact hw9.skip hT | (rw [upd_same, upd_same]; first | exact hw9.first hT (by omega) hw1 | exact hw9.take hT hw1 hw2) | exact hw9.leave hw1 hw2) hP hD hS (lv_sub hl [0, 5, 6, 7] rfl)
                · skip
                  have hm9 := mxw_l c10
                  refine lv_aload_n hx hb dX7_plan_182 rfl (lv_at hl 5 rfl) ?_
                  refine va_get (D := D) (ci := 7) (v := .ref g10) (C := RX7) (T := TX7) (N := 17) hx hb hts hiX7 hown hK hP 0 rfl rfl 14 (by decide) hf46 (fun _ h9 => h9) rfl dX7_plan_183 ?_
                  refine lv_iload hx hb dX7_plan_186 (lv_at hl 2 rfl) ?_
                  refine va_iald hx hb hK hP 8 0 rfl rfl (i := nI (cv + (3 ^ k))) (vp_in_nI (by omega) (by omega)) dX7_plan_188 ?_
                  refine cn_i (y := uw (cv + (3 ^ k))) (congrArg uw (nI_clamp (by omega))) ?_
                  refine lv_goto (tgt := 199) hx hb dX7_plan_189 (by decide) ?_
                  refine lv_iadd hx hb dX7_plan_199 ?_
                  refine cn_i (y := mW fp ew cv k) (mW_of (hsm (cv + 3 ^ k) (by omega)).2.2.1 (hsm (cv + 3 ^ k + 3 ^ k) (by omega)).2.2.1 hm9) ?_
                  refine lv_istore (lv' := [(9, .int (mW fp ew cv k)), (7, .long (mE fp eb (mlf fg fb th (nI cv) n) cv k)), (6, .int (nI ((cv + (3 ^ k)) + (3 ^ k)))), (5, .int (nI (cv + (3 ^ k)))), (4, .int (nI k)), (2, .long (mlf fg fb th (nI cv) n)), (0, .ref m0), (1, .int (nI cv))]) hx hb dX7_plan_200 hl (by decide) rfl (fun ls hl => ?_)
                  refine lv_aload_n hx hb dX7_plan_202 rfl (lv_at hl 6 rfl) ?_
                  refine va_get (D := D) (ci := 7) (v := .ref g11) (C := RX7) (T := TX7) (N := 17) hx hb hts hiX7 hown hK hP 0 rfl rfl 15 (by decide) hf49 (fun _ h9 => h9) rfl dX7_plan_203 ?_
                  refine lv_iload_n hx hb dX7_plan_206 rfl (lv_at hl 7 rfl) ?_
                  refine va_iald hx hb hK hP 9 0 rfl rfl (i := nI cv) (vp_in_nI (by omega) (by omega)) dX7_plan_207 ?_
                  refine cn_i (y := ux cv) (congrArg ux (nI_clamp (by omega))) ?_
                  refine lv_iconst (v := (-1 : Int32)) hx hb dX7_plan_208 (by decide) ?_
                  refine lv_icmp_eq (tgt := 223) hx hb dX7_plan_209 (by decide) (fun c13 => ?_) (fun c13 => ?_)
                  · skip
                    have hw1 := c13
                    refine lv_aload_n hx hb dX7_plan_223 rfl (lv_at hl 6 rfl) ?_
                    refine va_get (D := D) (ci := 7) (v := .ref g10) (C := RX7) (T := TX7) (N := 17) hx hb hts hiX7 hown hK hP 0 rfl rfl 14 (by decide) hf46 (fun _ h9 => h9) rfl dX7_plan_224 ?_
                    refine lv_iload_n hx hb dX7_plan_227 rfl (lv_at hl 7 rfl) ?_
                    refine lv_iload hx hb dX7_plan_228 (lv_at hl 0 rfl) ?_
                    refine va_iast hx hb hK hP hD hS 8 0 rfl rfl (i := nI cv) (vp_in_nI (by omega) (by omega)) dX7_plan_230 (fun H locs hP hD hS => ?_)
                    have hP : va_P D vwCl [(m0, .inr (7, [.int (nI n), .ref g1, .ref g2, .ref g3, .int mr, .ref g4, .int (nI y), .ref g5, .int mo, .ref g6, .int ml, .ref g7, .ref g8, .ref g9, .ref g10, .ref g11, .ref g12])), (g1, .inl (cI, 9, .inl fg)), (g2, .inl (cI, 9, .inl fb)), (g3, .inl (cI, 9, .inl fp)), (g4, .inl (cZ, 20480, .inl fs)), (g12, .inl (cI, 9, .inl th)), (g8, .inl (cJ, 19683, .inr (.inl (vp_updL ub cv (mE fp eb (mlf fg fb th (nI cv) n) cv k))))), (g9, .inl (cI, 19683, .inl (upd un cv (nI k)))), (g10, .inl (cI, 19683, .inl (upd uw (nI cv).toNatClampNeg (mW fp ew cv k)))), (g11, .inl (cI, 19683, .inl ux))] H := hP
                    have hD : va_D (aA as) [(m0, .inr (7, [.int (nI n), .ref g1, .ref g2, .ref g3, .int mr, .ref g4, .int (nI y), .ref g5, .int mo, .ref g6, .int ml, .ref g7, .ref g8, .ref g9, .ref g10, .ref g11, .ref g12])), (g1, .inl (cI, 9, .inl fg)), (g2, .inl (cI, 9, .inl fb)), (g3, .inl (cI, 9, .inl fp)), (g4, .inl (cZ, 20480, .inl fs)), (g12, .inl (cI, 9, .inl th)), (g8, .inl (cJ, 19683, .inr (.inl (vp_updL ub cv (mE fp eb (mlf fg fb th (nI cv) n) cv k))))), (g9, .inl (cI, 19683, .inl (upd un cv (nI k)))), (g10, .inl (cI, 19683, .inl (upd uw (nI cv).toNatClampNeg (mW fp ew cv k)))), (g11, .inl (cI, 19683, .inl ux))] := hD
                    rw [nI_clamp (n := cv) (by omega)] at hP hD
                    refine lv_aload_n hx hb dX7_plan_231 rfl (lv_at hl 6 rfl) ?_
                    refine va_get (D := D) (ci := 7) (v := .ref g11) (C := RX7) (T := TX7) (N := 17) hx hb hts hiX7 hown hK hP 0 rfl rfl 15 (by decide) hf49 (fun _ h9 => h9) rfl dX7_plan_232 ?_
                    refine lv_iload_n hx hb dX7_plan_235 rfl (lv_at hl 7 rfl) ?_
                    refine lv_iload hx hb dX7_plan_236 (lv_at hl 4 rfl) ?_
                    refine va_iast hx hb hK hP hD hS 9 0 rfl rfl (i := nI cv) (vp_in_nI (by omega) (by omega)) dX7_plan_238 (fun H locs hP hD hS => ?_)
                    have hP : va_P D vwCl [(m0, .inr (7, [.int (nI n), .ref g1, .ref g2, .ref g3, .int mr, .ref g4, .int (nI y), .ref g5, .int mo, .ref g6, .int ml, .ref g7, .ref g8, .ref g9, .ref g10, .ref g11, .ref g12])), (g1, .inl (cI, 9, .inl fg)), (g2, .inl (cI, 9, .inl fb)), (g3, .inl (cI, 9, .inl fp)), (g4, .inl (cZ, 20480, .inl fs)), (g12, .inl (cI, 9, .inl th)), (g8, .inl (cJ, 19683, .inr (.inl (vp_updL ub cv (mE fp eb (mlf fg fb th (nI cv) n) cv k))))), (g9, .inl (cI, 19683, .inl (upd un cv (nI k)))), (g10, .inl (cI, 19683, .inl (upd uw cv (mW fp ew cv k)))), (g11, .inl (cI, 19683, .inl (upd ux (nI cv).toNatClampNeg (nI k))))] H := hP
                    have hD : va_D (aA as) [(m0, .inr (7, [.int (nI n), .ref g1, .ref g2, .ref g3, .int mr, .ref g4, .int (nI y), .ref g5, .int mo, .ref g6, .int ml, .ref g7, .ref g8, .ref g9, .ref g10, .ref g11, .ref g12])), (g1, .inl (cI, 9, .inl fg)), (g2, .inl (cI, 9, .inl fb)), (g3, .inl (cI, 9, .inl fp)), (g4, .inl (cZ, 20480, .inl fs)), (g12, .inl (cI, 9, .inl th)), (g8, .inl (cJ, 19683, .inr (.inl (vp_updL ub cv (mE fp eb (mlf fg fb th (nI cv) n) cv k))))), (g9, .inl (cI, 19683, .inl (upd un cv (nI k)))), (g10, .inl (cI, 19683, .inl (upd uw cv (mW fp ew cv k)))), (g11, .inl (cI, 19683, .inl (upd ux (nI cv).toNatClampNeg (nI k))))] := hD
                    rw [nI_clamp (n := cv) (by omega)] at hP hD
                    refine lv_iinc (v := nI (k + 1)) (lv' := [(4, .int (nI (k + 1))), (9, .int (mW fp ew cv k)), (7, .long (mE fp eb (mlf fg fb th (nI cv) n) cv k)), (6, .int (nI ((cv + (3 ^ k)) + (3 ^ k)))), (5, .int (nI (cv + (3 ^ k)))), (2, .long (mlf fg fb th (nI cv) n)), (0, .ref m0), (1, .int (nI cv))]) hx hb dX7_plan_239 hl (k := 4) rfl (nI_1 k) (by decide) rfl (fun ls hl => ?_)
                    refine lv_goto (tgt := 47) hx hb dX7_plan_242 (by decide) ?_
                    exact ih5 (k + 1) (vp_updL ub cv (mE fp eb (mlf fg fb th (nI cv) n) cv k)) (upd un cv (nI k)) (upd uw cv (mW fp ew cv k)) (upd ux cv (nI k)) _ _ _ (by omega) (fun z hz => by have h7 := hsm z hz; first | exact h7 | exact ⟨(if_neg hz).trans h7.1, (if_neg hz).trans h7.2.1, h7.2.2⟩ | exact ⟨h7.1, h7.2.1, (if_neg hz).trans h7.2.2.1, (if_neg hz).trans h7.2.2.2⟩ | exact ⟨(if_neg hz).trans h7.1, (if_neg hz).trans h7.2.1, (if_neg hz).trans h7.2.2.1, (if_neg hz).trans h7.2.2.2⟩) (by first | exact hb9.skip hT | (rw [upd_same, updL_same]; first | exact hb9.first hT (by omega) hb1 | exact hb9.take hT hb1 hb2) | exact hb9.leave hb1 hb2) (by first | exact hw9.skip hT | (rw [upd_same, upd_same]; first | exact hw9.first hT (by omega) hw1 | exact hw9.take hT hw1 hw2) | exact hw9.leave hw1 hw2) hP hD hS (lv_sub hl [0, 5, 6, 7] rfl)
                  · skip
                    have hw1 := c13
                    refine lv_iload hx hb dX7_plan_212 (lv_at hl 0 rfl) ?_
                    refine lv_aload_n hx hb dX7_plan_214 rfl (lv_at hl 6 rfl) ?_
                    refine va_get (D := D) (ci := 7) (v := .ref g10) (C := RX7) (T := TX7) (N := 17) hx hb hts hiX7 hown hK hP 0 rfl rfl 14 (by decide) hf46 (fun _ h9 => h9) rfl dX7_plan_215 ?_
                    refine lv_iload_n hx hb dX7_plan_218 rfl (lv_at hl 7 rfl) ?_
                    refine va_iald hx hb hK hP 8 0 rfl rfl (i := nI cv) (vp_in_nI (by omega) (by omega)) dX7_plan_219 ?_
                    refine cn_i (y := uw cv) (congrArg uw (nI_clamp (by omega))) ?_
                    refine lv_icmp_ge (tgt := 239) hx hb dX7_plan_220 (by decide) (fun c14 => ?_) (fun c14 => ?_)
                    · skip
                      have d14 := c14
                      rw [i_le] at d14
                      have hw2 := d14
                      refine lv_iinc (v := nI (k + 1)) (lv' := [(4, .int (nI (k + 1))), (9, .int (mW fp ew cv k)), (7, .long (mE fp eb (mlf fg fb th (nI cv) n) cv k)), (6, .int (nI ((cv + (3 ^ k)) + (3 ^ k)))), (5, .int (nI (cv + (3 ^ k)))), (2, .long (mlf fg fb th (nI cv) n)), (0, .ref m0), (1, .int (nI cv))]) hx hb dX7_plan_239 hl (k := 4) rfl (nI_1 k) (by decide) rfl (fun ls hl => ?_)
                      refine lv_goto (tgt := 47) hx hb dX7_plan_242 (by decide) ?_
                      exact ih5 (k + 1) (vp_updL ub cv (mE fp eb (mlf fg fb th (nI cv) n) cv k)) (upd un cv (nI k)) uw ux _ _ _ (by omega) (fun z hz => by have h7 := hsm z hz; first | exact h7 | exact ⟨(if_neg hz).trans h7.1, (if_neg hz).trans h7.2.1, h7.2.2⟩ | exact ⟨h7.1, h7.2.1, (if_neg hz).trans h7.2.2.1, (if_neg hz).trans h7.2.2.2⟩ | exact ⟨(if_neg hz).trans h7.1, (if_neg hz).trans h7.2.1, (if_neg hz).trans h7.2.2.1, (if_neg hz).trans h7.2.2.2⟩) (by first | exact hb9.skip hT | (rw [upd_same, updL_same]; first | exact hb9.first hT (by omega) hb1 | exact hb9.take hT hb1 hb2) | exact hb9.leave hb1 hb2) (by first | exact hw9.skip hT | (rw [upd_same, upd_same]; first | exact hw9.first hT (by omega) hw1 | exact hw9.take hT hw1 hw2) | exact hw9.leave hw1 hw2) hP hD hS (lv_sub hl [0, 5, 6, 7] rfl)
                    · skip
                      have d14 := c14
                      rw [i_le] at d14
                      have hw2 := d14
                      refine lv_aload_n hx hb dX7_plan_223 rfl (lv_at hl 6 rfl) ?_
                      refine va_get (D := D) (ci := 7) (v := .ref g10) (C := RX7) (T := TX7) (N := 17) hx hb hts hiX7 hown hK hP 0 rfl rfl 14 (by decide) hf46 (fun _ h9 => h9) rfl dX7_plan_224 ?_
                      refine lv_iload_n hx hb dX7_plan_227 rfl (lv_at hl 7 rfl) ?_
                      refine lv_iload hx hb dX7_plan_228 (lv_at hl 0 rfl) ?_
                      refine va_iast hx hb hK hP hD hS 8 0 rfl rfl (i := nI cv) (vp_in_nI (by omega) (by omega)) dX7_plan_230 (fun H locs hP hD hS => ?_)
                      have hP : va_P D vwCl [(m0, .inr (7, [.int (nI n), .ref g1, .ref g2, .ref g3, .int mr, .ref g4, .int (nI y), .ref g5, .int mo, .ref g6, .int ml, .ref g7, .ref g8, .ref g9, .ref g10, .ref g11, .ref g12])), (g1, .inl (cI, 9, .inl fg)), (g2, .inl (cI, 9, .inl fb)), (g3, .inl (cI, 9, .inl fp)), (g4, .inl (cZ, 20480, .inl fs)), (g12, .inl (cI, 9, .inl th)), (g8, .inl (cJ, 19683, .inr (.inl (vp_updL ub cv (mE fp eb (mlf fg fb th (nI cv) n) cv k))))), (g9, .inl (cI, 19683, .inl (upd un cv (nI k)))), (g10, .inl (cI, 19683, .inl (upd uw (nI cv).toNatClampNeg (mW fp ew cv k)))), (g11, .inl (cI, 19683, .inl ux))] H := hP
                      have hD : va_D (aA as) [(m0, .inr (7, [.int (nI n), .ref g1, .ref g2, .ref g3, .int mr, .ref g4, .int (nI y), .ref g5, .int mo, .ref g6, .int ml, .ref g7, .ref g8, .ref g9, .ref g10, .ref g11, .ref g12])), (g1, .inl (cI, 9, .inl fg)), (g2, .inl (cI, 9, .inl fb)), (g3, .inl (cI, 9, .inl fp)), (g4, .inl (cZ, 20480, .inl fs)), (g12, .inl (cI, 9, .inl th)), (g8, .inl (cJ, 19683, .inr (.inl (vp_updL ub cv (mE fp eb (mlf fg fb th (nI cv) n) cv k))))), (g9, .inl (cI, 19683, .inl (upd un cv (nI k)))), (g10, .inl (cI, 19683, .inl (upd uw (nI cv).toNatClampNeg (mW fp ew cv k)))), (g11, .inl (cI, 19683, .inl ux))] := hD
                      rw [nI_clamp (n := cv) (by omega)] at hP hD
                      refine lv_aload_n hx hb dX7_plan_231 rfl (lv_at hl 6 rfl) ?_
                      refine va_get (D := D) (ci := 7) (v := .ref g11) (C := RX7) (T := TX7) (N := 17) hx hb hts hiX7 hown hK hP 0 rfl rfl 15 (by decide) hf49 (fun _ h9 => h9) rfl dX7_plan_232 ?_
                      refine lv_iload_n hx hb dX7_plan_235 rfl (lv_at hl 7 rfl) ?_
                      refine lv_iload hx hb dX7_plan_236 (lv_at hl 4 rfl) ?_
                      refine va_iast hx hb hK hP hD hS 9 0 rfl rfl (i := nI cv) (vp_in_nI (by omega) (by omega)) dX7_plan_238 (fun H locs hP hD hS => ?_)
                      have hP : va_P D vwCl [(m0, .inr (7, [.int (nI n), .ref g1, .ref g2, .ref g3, .int mr, .ref g4, .int (nI y), .ref g5, .int mo, .ref g6, .int ml, .ref g7, .ref g8, .ref g9, .ref g10, .ref g11, .ref g12])), (g1, .inl (cI, 9, .inl fg)), (g2, .inl (cI, 9, .inl fb)), (g3, .inl (cI, 9, .inl fp)), (g4, .inl (cZ, 20480, .inl fs)), (g12, .inl (cI, 9, .inl th)), (g8, .inl (cJ, 19683, .inr (.inl (vp_updL ub cv (mE fp eb (mlf fg fb th (nI cv) n) cv k))))), (g9, .inl (cI, 19683, .inl (upd un cv (nI k)))), (g10, .inl (cI, 19683, .inl (upd uw cv (mW fp ew cv k)))), (g11, .inl (cI, 19683, .inl (upd ux (nI cv).toNatClampNeg (nI k))))] H := hP
                      have hD : va_D (aA as) [(m0, .inr (7, [.int (nI n), .ref g1, .ref g2, .ref g3, .int mr, .ref g4, .int (nI y), .ref g5, .int mo, .ref g6, .int ml, .ref g7, .ref g8, .ref g9, .ref g10, .ref g11, .ref g12])), (g1, .inl (cI, 9, .inl fg)), (g2, .inl (cI, 9, .inl fb)), (g3, .inl (cI, 9, .inl fp)), (g4, .inl (cZ, 20480, .inl fs)), (g12, .inl (cI, 9, .inl th)), (g8, .inl (cJ, 19683, .inr (.inl (vp_updL ub cv (mE fp eb (mlf fg fb th (nI cv) n) cv k))))), (g9, .inl (cI, 19683, .inl (upd un cv (nI k)))), (g10, .inl (cI, 19683, .inl (upd uw cv (mW fp ew cv k)))), (g11, .inl (cI, 19683, .inl (upd ux (nI cv).toNatClampNeg (nI k))))] := hD
                      rw [nI_clamp (n := cv) (by omega)] at hP hD
                      refine lv_iinc (v := nI (k + 1)) (lv' := [(4, .int (nI (k + 1))), (9, .int (mW fp ew cv k)), (7, .long (mE fp eb (mlf fg fb th (nI cv) n) cv k)), (6, .int (nI ((cv + (3 ^ k)) + (3 ^ k)))), (5, .int (nI (cv + (3 ^ k)))), (2, .long (mlf fg fb th (nI cv) n)), (0, .ref m0), (1, .int (nI cv))]) hx hb dX7_plan_239 hl (k := 4) rfl (nI_1 k) (by decide) rfl (fun ls hl => ?_)
                      refine lv_goto (tgt := 47) hx hb dX7_plan_242 (by decide) ?_
                      exact ih5 (k + 1) (vp_updL ub cv (mE fp eb (mlf fg fb th (nI cv) n) cv k)) (upd un cv (nI k)) (upd uw cv (mW fp ew cv k)) (upd ux cv (nI k)) _ _ _ (by omega) (fun z hz => by have h7 := hsm z hz; first | exact h7 | exact ⟨(if_neg hz).trans h7.1, (if_neg hz).trans h7.2.1, h7.2.2⟩ | exact ⟨h7.1, h7.2.1, (if_neg hz).trans h7.2.2.1, (if_neg hz).trans h7.2.2.2⟩ | exact ⟨(if_neg hz).trans h7.1, (if_neg hz).trans h7.2.1, (if_neg hz).trans h7.2.2.1, (if_neg hz).trans h7.2.2.2⟩) (by first | exact hb9.skip hT | (rw [upd_same, updL_same]; first | exact hb9.first hT (by omega) hb1 | exact hb9.take hT hb1 hb2) | exact hb9.leave hb1 hb2) (by first | exact hw9.skip hT | (rw [upd_same, upd_same]; first | exact hw9.first hT (by omega) hw1 | exact hw9.take hT hw1 hw2) | exact hw9.leave hw1 hw2) hP hD hS (lv_sub hl [0, 5, 6, 7] rfl)
              · skip
                have hb1 := c9
                refine lv_lload hx hb dX7_plan_130 (lv_at hl 0 rfl) ?_
                refine lv_aload_n hx hb dX7_plan_132 rfl (lv_at hl 5 rfl) ?_
                refine va_get (D := D) (ci := 7) (v := .ref g8) (C := RX7) (T := TX7) (N := 17) hx hb hts hiX7 hown hK hP 0 rfl rfl 12 (by decide) hf39 (fun _ h9 => h9) rfl dX7_plan_133 ?_
                refine lv_iload_n hx hb dX7_plan_136 rfl (lv_at hl 6 rfl) ?_
                refine va_lald hx hb hK hP 6 1 rfl rfl (i := nI cv) (vp_in_nI (by omega) (by omega)) dX7_plan_137 ?_
                refine cn_l (y := ub cv) (congrArg ub (nI_clamp (by omega))) ?_
                refine W.lcmp hx hb dX7_plan_138 ?_
                refine lv_if_ge (tgt := 158) hx hb dX7_plan_139 (by decide) (fun c15 => ?_) (fun c15 => ?_)
                · skip
                  have d15 := c15
                  rw [lc_ge, j_le] at d15
                  have hb2 := d15
                  refine lv_aload_n hx hb dX7_plan_158 rfl (lv_at hl 5 rfl) ?_
                  refine va_get (D := D) (ci := 7) (v := .ref g3) (C := RX7) (T := TX7) (N := 17) hx hb hts hiX7 hown hK hP 0 rfl rfl 3 (by decide) hf20 (fun _ h9 => h9) rfl dX7_plan_159 ?_
                  refine lv_iload hx hb dX7_plan_162 (lv_at hl 3 rfl) ?_
                  refine va_iald hx hb hK hP 3 0 rfl rfl (i := nI k) (vp_in_nI (by omega) (by omega)) dX7_plan_164 ?_
                  refine cn_i (y := fp k) (congrArg fp (nI_clamp (by omega))) ?_
                  refine lv_aload_n hx hb dX7_plan_165 rfl (lv_at hl 5 rfl) ?_
                  refine va_get (D := D) (ci := 7) (v := .ref g10) (C := RX7) (T := TX7) (N := 17) hx hb hts hiX7 hown hK hP 0 rfl rfl 14 (by decide) hf46 (fun _ h9 => h9) rfl dX7_plan_166 ?_
                  refine lv_iload hx hb dX7_plan_169 (lv_at hl 2 rfl) ?_
                  refine va_iald hx hb hK hP 8 0 rfl rfl (i := nI (cv + (3 ^ k))) (vp_in_nI (by omega) (by omega)) dX7_plan_171 ?_
                  refine cn_i (y := uw (cv + (3 ^ k))) (congrArg uw (nI_clamp (by omega))) ?_
                  refine lv_aload_n hx hb dX7_plan_172 rfl (lv_at hl 5 rfl) ?_
                  refine va_get (D := D) (ci := 7) (v := .ref g10) (C := RX7) (T := TX7) (N := 17) hx hb hts hiX7 hown hK hP 0 rfl rfl 14 (by decide) hf46 (fun _ h9 => h9) rfl dX7_plan_173 ?_
                  refine lv_iload hx hb dX7_plan_176 (lv_at hl 1 rfl) ?_
                  refine va_iald hx hb hK hP 8 0 rfl rfl (i := nI ((cv + (3 ^ k)) + (3 ^ k))) (vp_in_nI (by omega) (by omega)) dX7_plan_178 ?_
                  refine cn_i (y := uw ((cv + (3 ^ k)) + (3 ^ k))) (congrArg uw (nI_clamp (by omega))) ?_
                  refine lv_icmp_le (tgt := 192) hx hb dX7_plan_179 (by decide) (fun c16 => ?_) (fun c16 => ?_)
                  · skip
                    have hm9 := mxw_r c16
                    refine lv_aload_n hx hb dX7_plan_192 rfl (lv_at hl 5 rfl) ?_
                    refine va_get (D := D) (ci := 7) (v := .ref g10) (C := RX7) (T := TX7) (N := 17) hx hb hts hiX7 hown hK hP 0 rfl rfl 14 (by decide) hf46 (fun _ h9 => h9) rfl dX7_plan_193 ?_
                    refine lv_iload hx hb dX7_plan_196 (lv_at hl 1 rfl) ?_
                    refine va_iald hx hb hK hP 8 0 rfl rfl (i := nI ((cv + (3 ^ k)) + (3 ^ k))) (vp_in_nI (by omega) (by omega)) dX7_plan_198 ?_
                    refine cn_i (y := uw ((cv + (3 ^ k)) + (3 ^ k))) (congrArg uw (nI_clamp (by omega))) ?_
                    refine lv_iadd hx hb dX7_plan_199 ?_
                    refine cn_i (y := mW fp ew cv k) (mW_of (hsm (cv + 3 ^ k) (by omega)).2.2.1 (hsm (cv + 3 ^ k + 3 ^ k) (by omega)).2.2.1 hm9) ?_
                    refine lv_istore (lv' := [(9, .int (mW fp ew cv k)), (7, .long (mE fp eb (mlf fg fb th (nI cv) n) cv k)), (6, .int (nI ((cv + (3 ^ k)) + (3 ^ k)))), (5, .int (nI (cv + (3 ^ k)))), (4, .int (nI k)), (2, .long (mlf fg fb th (nI cv) n)), (0, .ref m0), (1, .int (nI cv))]) hx hb dX7_plan_200 hl (by decide) rfl (fun ls hl => ?_)
                    refine lv_aload_n hx hb dX7_plan_202 rfl (lv_at hl 6 rfl) ?_
                    refine va_get (D := D) (ci := 7) (v := .ref g11) (C := RX7) (T := TX7) (N := 17) hx hb hts hiX7 hown hK hP 0 rfl rfl 15 (by decide) hf49 (fun _ h9 => h9) rfl dX7_plan_203 ?_
                    refine lv_iload_n hx hb dX7_plan_206 rfl (lv_at hl 7 rfl) ?_
                    refine va_iald hx hb hK hP 9 0 rfl rfl (i := nI cv) (vp_in_nI (by omega) (by omega)) dX7_plan_207 ?_
                    refine cn_i (y := ux cv) (congrArg ux (nI_clamp (by omega))) ?_
                    refine lv_iconst (v := (-1 : Int32)) hx hb dX7_plan_208 (by decide) ?_
                    refine lv_icmp_eq (tgt := 223) hx hb dX7_plan_209 (by decide) (fun c17 => ?_) (fun c17 => ?_)
                    · skip
                      have hw1 := c17
                      refine lv_aload_n hx hb dX7_plan_223 rfl (lv_at hl 6 rfl) ?_
                      refine va_get (D := D) (ci := 7) (v := .ref g10) (C := RX7) (T := TX7) (N := 17) hx hb hts hiX7 hown hK hP 0 rfl rfl 14 (by decide) hf46 (fun _ h9 => h9) rfl dX7_plan_224 ?_
                      refine lv_iload_n hx hb dX7_plan_227 rfl (lv_at hl 7 rfl) ?_
                      refine lv_iload hx hb dX7_plan_228 (lv_at hl 0 rfl) ?_
                      refine va_iast hx hb hK hP hD hS 8 0 rfl rfl (i := nI cv) (vp_in_nI (by omega) (by omega)) dX7_plan_230 (fun H locs hP hD hS => ?_)
                      have hP : va_P D vwCl [(m0, .inr (7, [.int (nI n), .ref g1, .ref g2, .ref g3, .int mr, .ref g4, .int (nI y), .ref g5, .int mo, .ref g6, .int ml, .ref g7, .ref g8, .ref g9, .ref g10, .ref g11, .ref g12])), (g1, .inl (cI, 9, .inl fg)), (g2, .inl (cI, 9, .inl fb)), (g3, .inl (cI, 9, .inl fp)), (g4, .inl (cZ, 20480, .inl fs)), (g12, .inl (cI, 9, .inl th)), (g8, .inl (cJ, 19683, .inr (.inl ub))), (g9, .inl (cI, 19683, .inl un)), (g10, .inl (cI, 19683, .inl (upd uw (nI cv).toNatClampNeg (mW fp ew cv k)))), (g11, .inl (cI, 19683, .inl ux))] H := hP
                      have hD : va_D (aA as) [(m0, .inr (7, [.int (nI n), .ref g1, .ref g2, .ref g3, .int mr, .ref g4, .int (nI y), .ref g5, .int mo, .ref g6, .int ml, .ref g7, .ref g8, .ref g9, .ref g10, .ref g11, .ref g12])), (g1, .inl (cI, 9, .inl fg)), (g2, .inl (cI, 9, .inl fb)), (g3, .inl (cI, 9, .inl fp)), (g4, .inl (cZ, 20480, .inl fs)), (g12, .inl (cI, 9, .inl th)), (g8, .inl (cJ, 19683, .inr (.inl ub))), (g9, .inl (cI, 19683, .inl un)), (g10, .inl (cI, 19683, .inl (upd uw (nI cv).toNatClampNeg (mW fp ew cv k)))), (g11, .inl (cI, 19683, .inl ux))] := hD
                      rw [nI_clamp (n := cv) (by omega)] at hP hD
                      refine lv_aload_n hx hb dX7_plan_231 rfl (lv_at hl 6 rfl) ?_
                      refine va_get (D := D) (ci := 7) (v := .ref g11) (C := RX7) (T := TX7) (N := 17) hx hb hts hiX7 hown hK hP 0 rfl rfl 15 (by decide) hf49 (fun _ h9 => h9) rfl dX7_plan_232 ?_
                      refine lv_iload_n hx hb dX7_plan_235 rfl (lv_at hl 7 rfl) ?_
                      refine lv_iload hx hb dX7_plan_236 (lv_at hl 4 rfl) ?_
                      refine va_iast hx hb hK hP hD hS 9 0 rfl rfl (i := nI cv) (vp_in_nI (by omega) (by omega)) dX7_plan_238 (fun H locs hP hD hS => ?_)
                      have hP : va_P D vwCl [(m0, .inr (7, [.int (nI n), .ref g1, .ref g2, .ref g3, .int mr, .ref g4, .int (nI y), .ref g5, .int mo, .ref g6, .int ml, .ref g7, .ref g8, .ref g9, .ref g10, .ref g11, .ref g12])), (g1, .inl (cI, 9, .inl fg)), (g2, .inl (cI, 9, .inl fb)), (g3, .inl (cI, 9, .inl fp)), (g4, .inl (cZ, 20480, .inl fs)), (g12, .inl (cI, 9, .inl th)), (g8, .inl (cJ, 19683, .inr (.inl ub))), (g9, .inl (cI, 19683, .inl un)), (g10, .inl (cI, 19683, .inl (upd uw cv (mW fp ew cv k)))), (g11, .inl (cI, 19683, .inl (upd ux (nI cv).toNatClampNeg (nI k))))] H := hP
                      have hD : va_D (aA as) [(m0, .inr (7, [.int (nI n), .ref g1, .ref g2, .ref g3, .int mr, .ref g4, .int (nI y), .ref g5, .int mo, .ref g6, .int ml, .ref g7, .ref g8, .ref g9, .ref g10, .ref g11, .ref g12])), (g1, .inl (cI, 9, .inl fg)), (g2, .inl (cI, 9, .inl fb)), (g3, .inl (cI, 9, .inl fp)), (g4, .inl (cZ, 20480, .inl fs)), (g12, .inl (cI, 9, .inl th)), (g8, .inl (cJ, 19683, .inr (.inl ub))), (g9, .inl (cI, 19683, .inl un)), (g10, .inl (cI, 19683, .inl (upd uw cv (mW fp ew cv k)))), (g11, .inl (cI, 19683, .inl (upd ux (nI cv).toNatClampNeg (nI k))))] := hD
                      rw [nI_clamp (n := cv) (by omega)] at hP hD
                      refine lv_iinc (v := nI (k + 1)) (lv' := [(4, .int (nI (k + 1))), (9, .int (mW fp ew cv k)), (7, .long (mE fp eb (mlf fg fb th (nI cv) n) cv k)), (6, .int (nI ((cv + (3 ^ k)) + (3 ^ k)))), (5, .int (nI (cv + (3 ^ k)))), (2, .long (mlf fg fb th (nI cv) n)), (0, .ref m0), (1, .int (nI cv))]) hx hb dX7_plan_239 hl (k := 4) rfl (nI_1 k) (by decide) rfl (fun ls hl => ?_)
                      refine lv_goto (tgt := 47) hx hb dX7_plan_242 (by decide) ?_
                      exact ih5 (k + 1) ub un (upd uw cv (mW fp ew cv k)) (upd ux cv (nI k)) _ _ _ (by omega) (fun z hz => by have h7 := hsm z hz; first | exact h7 | exact ⟨(if_neg hz).trans h7.1, (if_neg hz).trans h7.2.1, h7.2.2⟩ | exact ⟨h7.1, h7.2.1, (if_neg hz).trans h7.2.2.1, (if_neg hz).trans h7.2.2.2⟩ | exact ⟨(if_neg hz).trans h7.1, (if_neg hz).trans h7.2.1, (if_neg hz).trans h7.2.2.1, (if_neg hz).trans h7.2.2.2⟩) (by first | exact hb9.skip hT | (rw [upd_same, updL_same]; first | exact hb9.first hT (by omega) hb1 | exact hb9.take hT hb1 hb2) | exact hb9.leave hb1 hb2) (by first | exact hw9.skip hT | (rw [upd_same, upd_same]; first | exact hw9.first hT (by omega) hw1 | exact hw9.take hT hw1 hw2) | exact hw9.leave hw1 hw2) hP hD hS (lv_sub hl [0, 5, 6, 7] rfl)
                    · skip
                      have hw1 := c17
                      refine lv_iload hx hb dX7_plan_212 (lv_at hl 0 rfl) ?_
                      refine lv_aload_n hx hb dX7_plan_214 rfl (lv_at hl 6 rfl) ?_
                      refine va_get (D := D) (ci := 7) (v := .ref g10) (C := RX7) (T := TX7) (N := 17) hx hb hts hiX7 hown hK hP 0 rfl rfl 14 (by decide) hf46 (fun _ h9 => h9) rfl dX7_plan_215 ?_
                      refine lv_iload_n hx hb dX7_plan_218 rfl (lv_at hl 7 rfl) ?_
                      refine va_iald hx hb hK hP 8 0 rfl rfl (i := nI cv) (vp_in_nI (by omega) (by omega)) dX7_plan_219 ?_
                      refine cn_i (y := uw cv) (congrArg uw (nI_clamp (by omega))) ?_
                      refine lv_icmp_ge (tgt := 239) hx hb dX7_plan_220 (by decide) (fun c18 => ?_) (fun c18 => ?_)
                      · skip
                        have d18 := c18
                        rw [i_le] at d18
                        have hw2 := d18
                        refine lv_iinc (v := nI (k + 1)) (lv' := [(4, .int (nI (k + 1))), (9, .int (mW fp ew cv k)), (7, .long (mE fp eb (mlf fg fb th (nI cv) n) cv k)), (6, .int (nI ((cv + (3 ^ k)) + (3 ^ k)))), (5, .int (nI (cv + (3 ^ k)))), (2, .long (mlf fg fb th (nI cv) n)), (0, .ref m0), (1, .int (nI cv))]) hx hb dX7_plan_239 hl (k := 4) rfl (nI_1 k) (by decide) rfl (fun ls hl => ?_)
                        refine lv_goto (tgt := 47) hx hb dX7_plan_242 (by decide) ?_
                        exact ih5 (k + 1) ub un uw ux _ _ _ (by omega) (fun z hz => by have h7 := hsm z hz; first | exact h7 | exact ⟨(if_neg hz).trans h7.1, (if_neg hz).trans h7.2.1, h7.2.2⟩ | exact ⟨h7.1, h7.2.1, (if_neg hz).trans h7.2.2.1, (if_neg hz).trans h7.2.2.2⟩ | exact ⟨(if_neg hz).trans h7.1, (if_neg hz).trans h7.2.1, (if_neg hz).trans h7.2.2.1, (if_neg hz).trans h7.2.2.2⟩) (by first | exact hb9.skip hT | (rw [upd_same, updL_same]; first | exact hb9.first hT (by omega) hb1 | exact hb9.take hT hb1 hb2) | exact hb9.leave hb1 hb2) (by first | exact hw9.skip hT | (rw [upd_same, upd_same]; first | exact hw9.first hT (by omega) hw1 | exact hw9.take hT hw1 hw2) | exact hw9.leave hw1 hw2) hP hD hS (lv_sub hl [0, 5, 6, 7] rfl)
                      · skip
                        have d18 := c18
                        rw [i_le] at d18
                        have hw2 := d18
                        refine lv_aload_n hx hb dX7_plan_223 rfl (lv_at hl 6 rfl) ?_
                        refine va_get (D := D) (ci := 7) (v := .ref g10) (C := RX7) (T := TX7) (N := 17) hx hb hts hiX7 hown hK hP 0 rfl rfl 14 (by decide) hf46 (fun _ h9 => h9) rfl dX7_plan_224 ?_
                        refine lv_iload_n hx hb dX7_plan_227 rfl (lv_at hl 7 rfl) ?_
                        refine lv_iload hx hb dX7_plan_228 (lv_at hl 0 rfl) ?_
                        refine va_iast hx hb hK hP hD hS 8 0 rfl rfl (i := nI cv) (vp_in_nI (by omega) (by omega)) dX7_plan_230 (fun H locs hP hD hS => ?_)
                        have hP : va_P D vwCl [(m0, .inr (7, [.int (nI n), .ref g1, .ref g2, .ref g3, .int mr, .ref g4, .int (nI y), .ref g5, .int mo, .ref g6, .int ml, .ref g7, .ref g8, .ref g9, .ref g10, .ref g11, .ref g12])), (g1, .inl (cI, 9, .inl fg)), (g2, .inl (cI, 9, .inl fb)), (g3, .inl (cI, 9, .inl fp)), (g4, .inl (cZ, 20480, .inl fs)), (g12, .inl (cI, 9, .inl th)), (g8, .inl (cJ, 19683, .inr (.inl ub))), (g9, .inl (cI, 19683, .inl un)), (g10, .inl (cI, 19683, .inl (upd uw (nI cv).toNatClampNeg (mW fp ew cv k)))), (g11, .inl (cI, 19683, .inl ux))] H := hP
                        have hD : va_D (aA as) [(m0, .inr (7, [.int (nI n), .ref g1, .ref g2, .ref g3, .int mr, .ref g4, .int (nI y), .ref g5, .int mo, .ref g6, .int ml, .ref g7, .ref g8, .ref g9, .ref g10, .ref g11, .ref g12])), (g1, .inl (cI, 9, .inl fg)), (g2, .inl (cI, 9, .inl fb)), (g3, .inl (cI, 9, .inl fp)), (g4, .inl (cZ, 20480, .inl fs)), (g12, .inl (cI, 9, .inl th)), (g8, .inl (cJ, 19683, .inr (.inl ub))), (g9, .inl (cI, 19683, .inl un)), (g10, .inl (cI, 19683, .inl (upd uw (nI cv).toNatClampNeg (mW fp ew cv k)))), (g11, .inl (cI, 19683, .inl ux))] := hD
                        rw [nI_clamp (n := cv) (by omega)] at hP hD
                        refine lv_aload_n hx hb dX7_plan_231 rfl (lv_at hl 6 rfl) ?_
                        refine va_get (D := D) (ci := 7) (v := .ref g11) (C := RX7) (T := TX7) (N := 17) hx hb hts hiX7 hown hK hP 0 rfl rfl 15 (by decide) hf49 (fun _ h9 => h9) rfl dX7_plan_232 ?_
                        refine lv_iload_n hx hb dX7_plan_235 rfl (lv_at hl 7 rfl) ?_
                        refine lv_iload hx hb dX7_plan_236 (lv_at hl 4 rfl) ?_
                        refine va_iast hx hb hK hP hD hS 9 0 rfl rfl (i := nI cv) (vp_in_nI (by omega) (by omega)) dX7_plan_238 (fun H locs hP hD hS => ?_)
                        have hP : va_P D vwCl [(m0, .inr (7, [.int (nI n), .ref g1, .ref g2, .ref g3, .int mr, .ref g4, .int (nI y), .ref g5, .int mo, .ref g6, .int ml, .ref g7, .ref g8, .ref g9, .ref g10, .ref g11, .ref g12])), (g1, .inl (cI, 9, .inl fg)), (g2, .inl (cI, 9, .inl fb)), (g3, .inl (cI, 9, .inl fp)), (g4, .inl (cZ, 20480, .inl fs)), (g12, .inl (cI, 9, .inl th)), (g8, .inl (cJ, 19683, .inr (.inl ub))), (g9, .inl (cI, 19683, .inl un)), (g10, .inl (cI, 19683, .inl (upd uw cv (mW fp ew cv k)))), (g11, .inl (cI, 19683, .inl (upd ux (nI cv).toNatClampNeg (nI k))))] H := hP
                        have hD : va_D (aA as) [(m0, .inr (7, [.int (nI n), .ref g1, .ref g2, .ref g3, .int mr, .ref g4, .int (nI y), .ref g5, .int mo, .ref g6, .int ml, .ref g7, .ref g8, .ref g9, .ref g10, .ref g11, .ref g12])), (g1, .inl (cI, 9, .inl fg)), (g2, .inl (cI, 9, .inl fb)), (g3, .inl (cI, 9, .inl fp)), (g4, .inl (cZ, 20480, .inl fs)), (g12, .inl (cI, 9, .inl th)), (g8, .inl (cJ, 19683, .inr (.inl ub))), (g9, .inl (cI, 19683, .inl un)), (g10, .inl (cI, 19683, .inl (upd uw cv (mW fp ew cv k)))), (g11, .inl (cI, 19683, .inl (upd ux (nI cv).toNatClampNeg (nI k))))] := hD
                        rw [nI_clamp (n := cv) (by omega)] at hP hD
                        refine lv_iinc (v := nI (k + 1)) (lv' := [(4, .int (nI (k + 1))), (9, .int (mW fp ew cv k)), (7, .long (mE fp eb (mlf fg fb th (nI cv) n) cv k)), (6, .int (nI ((cv + (3 ^ k)) + (3 ^ k)))), (5, .int (nI (cv + (3 ^ k)))), (2, .long (mlf fg fb th (nI cv) n)), (0, .ref m0), (1, .int (nI cv))]) hx hb dX7_plan_239 hl (k := 4) rfl (nI_1 k) (by decide) rfl (fun ls hl => ?_)
                        refine lv_goto (tgt := 47) hx hb dX7_plan_242 (by decide) ?_
                        exact ih5 (k + 1) ub un (upd uw cv (mW fp ew cv k)) (upd ux cv (nI k)) _ _ _ (by omega) (fun z hz => by have h7 := hsm z hz; first | exact h7 | exact ⟨(if_neg hz).trans h7.1, (if_neg hz).trans h7.2.1, h7.2.2⟩ | exact ⟨h7.1, h7.2.1, (if_neg hz).trans h7.2.2.1, (if_neg hz).trans h7.2.2.2⟩ | exact ⟨(if_neg hz).trans h7.1, (if_neg hz).trans h7.2.1, (if_neg hz).trans h7.2.2.1, (if_neg hz).trans h7.2.2.2⟩) (by first | exact hb9.skip hT | (rw [upd_same, updL_same]; first | exact hb9.first hT (by omega) hb1 | exact hb9.take hT hb1 hb2) | exact hb9.leave hb1 hb2) (by first | exact hw9.skip hT | (rw [upd_same, upd_same]; first | exact hw9.first hT (by omega) hw1 | exact hw9.take hT hw1 hw2) | exact hw9.leave hw1 hw2) hP hD hS (lv_sub hl [0, 5, 6, 7] rfl)
                  · skip
                    have hm9 := mxw_l c16
                    refine lv_aload_n hx hb dX7_plan_182 rfl (lv_at hl 5 rfl) ?_
                    refine va_get (D := D) (ci := 7) (v := .ref g10) (C := RX7) (T := TX7) (N := 17) hx hb hts hiX7 hown hK hP 0 rfl rfl 14 (by decide) hf46 (fun _ h9 => h9) rfl dX7_plan_183 ?_
                    refine lv_iload hx hb dX7_plan_186 (lv_at hl 2 rfl) ?_
                    refine va_iald hx hb hK hP 8 0 rfl rfl (i := nI (cv + (3 ^ k))) (vp_in_nI (by omega) (by omega)) dX7_plan_188 ?_
                    refine cn_i (y := uw (cv + (3 ^ k))) (congrArg uw (nI_clamp (by omega))) ?_
                    refine lv_goto (tgt := 199) hx hb dX7_plan_189 (by decide) ?_
                    refine lv_iadd hx hb dX7_plan_199 ?_
                    refine cn_i (y := mW fp ew cv k) (mW_of (hsm (cv + 3 ^ k) (by omega)).2.2.1 (hsm (cv + 3 ^ k + 3 ^ k) (by omega)).2.2.1 hm9) ?_
                    refine lv_istore (lv' := [(9, .int (mW fp ew cv k)), (7, .long (mE fp eb (mlf fg fb th (nI cv) n) cv k)), (6, .int (nI ((cv + (3 ^ k)) + (3 ^ k)))), (5, .int (nI (cv + (3 ^ k)))), (4, .int (nI k)), (2, .long (mlf fg fb th (nI cv) n)), (0, .ref m0), (1, .int (nI cv))]) hx hb dX7_plan_200 hl (by decide) rfl (fun ls hl => ?_)
                    refine lv_aload_n hx hb dX7_plan_202 rfl (lv_at hl 6 rfl) ?_
                    refine va_get (D := D) (ci := 7) (v := .ref g11) (C := RX7) (T := TX7) (N := 17) hx hb hts hiX7 hown hK hP 0 rfl rfl 15 (by decide) hf49 (fun _ h9 => h9) rfl dX7_plan_203 ?_
                    refine lv_iload_n hx hb dX7_plan_206 rfl (lv_at hl 7 rfl) ?_
                    refine va_iald hx hb hK hP 9 0 rfl rfl (i := nI cv) (vp_in_nI (by omega) (by omega)) dX7_plan_207 ?_
                    refine cn_i (y := ux cv) (congrArg ux (nI_clamp (by omega))) ?_
                    refine lv_iconst (v := (-1 : Int32)) hx hb dX7_plan_208 (by decide) ?_
                    refine lv_icmp_eq (tgt := 223) hx hb dX7_plan_209 (by decide) (fun c19 => ?_) (fun c19 => ?_)
                    · skip
                      have hw1 := c19
                      refine lv_aload_n hx hb dX7_plan_223 rfl (lv_at hl 6 rfl) ?_
                      refine va_get (D := D) (ci := 7) (v := .ref g10) (C := RX7) (T := TX7) (N := 17) hx hb hts hiX7 hown hK hP 0 rfl rfl 14 (by decide) hf46 (fun _ h9 => h9) rfl dX7_plan_224 ?_
                      refine lv_iload_n hx hb dX7_plan_227 rfl (lv_at hl 7 rfl) ?_
                      refine lv_iload hx hb dX7_plan_228 (lv_at hl 0 rfl) ?_
                      refine va_iast hx hb hK hP hD hS 8 0 rfl rfl (i := nI cv) (vp_in_nI (by omega) (by omega)) dX7_plan_230 (fun H locs hP hD hS => ?_)
                      have hP : va_P D vwCl [(m0, .inr (7, [.int (nI n), .ref g1, .ref g2, .ref g3, .int mr, .ref g4, .int (nI y), .ref g5, .int mo, .ref g6, .int ml, .ref g7, .ref g8, .ref g9, .ref g10, .ref g11, .ref g12])), (g1, .inl (cI, 9, .inl fg)), (g2, .inl (cI, 9, .inl fb)), (g3, .inl (cI, 9, .inl fp)), (g4, .inl (cZ, 20480, .inl fs)), (g12, .inl (cI, 9, .inl th)), (g8, .inl (cJ, 19683, .inr (.inl ub))), (g9, .inl (cI, 19683, .inl un)), (g10, .inl (cI, 19683, .inl (upd uw (nI cv).toNatClampNeg (mW fp ew cv k)))), (g11, .inl (cI, 19683, .inl ux))] H := hP
                      have hD : va_D (aA as) [(m0, .inr (7, [.int (nI n), .ref g1, .ref g2, .ref g3, .int mr, .ref g4, .int (nI y), .ref g5, .int mo, .ref g6, .int ml, .ref g7, .ref g8, .ref g9, .ref g10, .ref g11, .ref g12])), (g1, .inl (cI, 9, .inl fg)), (g2, .inl (cI, 9, .inl fb)), (g3, .inl (cI, 9, .inl fp)), (g4, .inl (cZ, 20480, .inl fs)), (g12, .inl (cI, 9, .inl th)), (g8, .inl (cJ, 19683, .inr (.inl ub))), (g9, .inl (cI, 19683, .inl un)), (g10, .inl (cI, 19683, .inl (upd uw (nI cv).toNatClampNeg (mW fp ew cv k)))), (g11, .inl (cI, 19683, .inl ux))] := hD
                      rw [nI_clamp (n := cv) (by omega)] at hP hD
                      refine lv_aload_n hx hb dX7_plan_231 rfl (lv_at hl 6 rfl) ?_
                      refine va_get (D := D) (ci := 7) (v := .ref g11) (C := RX7) (T := TX7) (N := 17) hx hb hts hiX7 hown hK hP 0 rfl rfl 15 (by decide) hf49 (fun _ h9 => h9) rfl dX7_plan_232 ?_
                      refine lv_iload_n hx hb dX7_plan_235 rfl (lv_at hl 7 rfl) ?_
                      refine lv_iload hx hb dX7_plan_236 (lv_at hl 4 rfl) ?_
                      refine va_iast hx hb hK hP hD hS 9 0 rfl rfl (i := nI cv) (vp_in_nI (by omega) (by omega)) dX7_plan_238 (fun H locs hP hD hS => ?_)
                      have hP : va_P D vwCl [(m0, .inr (7, [.int (nI n), .ref g1, .ref g2, .ref g3, .int mr, .ref g4, .int (nI y), .ref g5, .int mo, .ref g6, .int ml, .ref g7, .ref g8, .ref g9, .ref g10, .ref g11, .ref g12])), (g1, .inl (cI, 9, .inl fg)), (g2, .inl (cI, 9, .inl fb)), (g3, .inl (cI, 9, .inl fp)), (g4, .inl (cZ, 20480, .inl fs)), (g12, .inl (cI, 9, .inl th)), (g8, .inl (cJ, 19683, .inr (.inl ub))), (g9, .inl (cI, 19683, .inl un)), (g10, .inl (cI, 19683, .inl (upd uw cv (mW fp ew cv k)))), (g11, .inl (cI, 19683, .inl (upd ux (nI cv).toNatClampNeg (nI k))))] H := hP
                      have hD : va_D (aA as) [(m0, .inr (7, [.int (nI n), .ref g1, .ref g2, .ref g3, .int mr, .ref g4, .int (nI y), .ref g5, .int mo, .ref g6, .int ml, .ref g7, .ref g8, .ref g9, .ref g10, .ref g11, .ref g12])), (g1, .inl (cI, 9, .inl fg)), (g2, .inl (cI, 9, .inl fb)), (g3, .inl (cI, 9, .inl fp)), (g4, .inl (cZ, 20480, .inl fs)), (g12, .inl (cI, 9, .inl th)), (g8, .inl (cJ, 19683, .inr (.inl ub))), (g9, .inl (cI, 19683, .inl un)), (g10, .inl (cI, 19683, .inl (upd uw cv (mW fp ew cv k)))), (g11, .inl (cI, 19683, .inl (upd ux (nI cv).toNatClampNeg (nI k))))] := hD
                      rw [nI_clamp (n := cv) (by omega)] at hP hD
                      refine lv_iinc (v := nI (k + 1)) (lv' := [(4, .int (nI (k + 1))), (9, .int (mW fp ew cv k)), (7, .long (mE fp eb (mlf fg fb th (nI cv) n) cv k)), (6, .int (nI ((cv + (3 ^ k)) + (3 ^ k)))), (5, .int (nI (cv + (3 ^ k)))), (2, .long (mlf fg fb th (nI cv) n)), (0, .ref m0), (1, .int (nI cv))]) hx hb dX7_plan_239 hl (k := 4) rfl (nI_1 k) (by decide) rfl (fun ls hl => ?_)
                      refine lv_goto (tgt := 47) hx hb dX7_plan_242 (by decide) ?_
                      exact ih5 (k + 1) ub un (upd uw cv (mW fp ew cv k)) (upd ux cv (nI k)) _ _ _ (by omega) (fun z hz => by have h7 := hsm z hz; first | exact h7 | exact ⟨(if_neg hz).trans h7.1, (if_neg hz).trans h7.2.1, h7.2.2⟩ | exact ⟨h7.1, h7.2.1, (if_neg hz).trans h7.2.2.1, (if_neg hz).trans h7.2.2.2⟩ | exact ⟨(if_neg hz).trans h7.1, (if_neg hz).trans h7.2.1, (if_neg hz).trans h7.2.2.1, (if_neg hz).trans h7.2.2.2⟩) (by first | exact hb9.skip hT | (rw [upd_same, updL_same]; first | exact hb9.first hT (by omega) hb1 | exact hb9.take hT hb1 hb2) | exact hb9.leave hb1 hb2) (by first | exact hw9.skip hT | (rw [upd_same, upd_same]; first | exact hw9.first hT (by omega) hw1 | exact hw9.take hT hw1 hw2) | exact hw9.leave hw1 hw2) hP hD hS (lv_sub hl [0, 5, 6, 7] rfl)
                    · skip
                      have hw1 := c19
                      refine lv_iload hx hb dX7_plan_212 (lv_at hl 0 rfl) ?_
                      refine lv_aload_n hx hb dX7_plan_214 rfl (lv_at hl 6 rfl) ?_
                      refine va_get (D := D) (ci := 7) (v := .ref g10) (C := RX7) (T := TX7) (N := 17) hx hb hts hiX7 hown hK hP 0 rfl rfl 14 (by decide) hf46 (fun _ h9 => h9) rfl dX7_plan_215 ?_
                      refine lv_iload_n hx hb dX7_plan_218 rfl (lv_at hl 7 rfl) ?_
                      refine va_iald hx hb hK hP 8 0 rfl rfl (i := nI cv) (vp_in_nI (by omega) (by omega)) dX7_plan_219 ?_
                      refine cn_i (y := uw cv) (congrArg uw (nI_clamp (by omega))) ?_
                      refine lv_icmp_ge (tgt := 239) hx hb dX7_plan_220 (by decide) (fun c20 => ?_) (fun c20 => ?_)
                      · skip
                        have d20 := c20
                        rw [i_le] at d20
                        have hw2 := d20
                        refine lv_iinc (v := nI (k + 1)) (lv' := [(4, .int (nI (k + 1))), (9, .int (mW fp ew cv k)), (7, .long (mE fp eb (mlf fg fb th (nI cv) n) cv k)), (6, .int (nI ((cv + (3 ^ k)) + (3 ^ k)))), (5, .int (nI (cv + (3 ^ k)))), (2, .long (mlf fg fb th (nI cv) n)), (0, .ref m0), (1, .int (nI cv))]) hx hb dX7_plan_239 hl (k := 4) rfl (nI_1 k) (by decide) rfl (fun ls hl => ?_)
                        refine lv_goto (tgt := 47) hx hb dX7_plan_242 (by decide) ?_
                        exact ih5 (k + 1) ub un uw ux _ _ _ (by omega) (fun z hz => by have h7 := hsm z hz; first | exact h7 | exact ⟨(if_neg hz).trans h7.1, (if_neg hz).trans h7.2.1, h7.2.2⟩ | exact ⟨h7.1, h7.2.1, (if_neg hz).trans h7.2.2.1, (if_neg hz).trans h7.2.2.2⟩ | exact ⟨(if_neg hz).trans h7.1, (if_neg hz).trans h7.2.1, (if_neg hz).trans h7.2.2.1, (if_neg hz).trans h7.2.2.2⟩) (by first | exact hb9.skip hT | (rw [upd_same, updL_same]; first | exact hb9.first hT (by omega) hb1 | exact hb9.take hT hb1 hb2) | exact hb9.leave hb1 hb2) (by first | exact hw9.skip hT | (rw [upd_same, upd_same]; first | exact hw9.first hT (by omega) hw1 | exact hw9.take hT hw1 hw2) | exact hw9.leave hw1 hw2) hP hD hS (lv_sub hl [0, 5, 6, 7] rfl)
                      · skip
                        have d20 := c20
                        rw [i_le] at d20
                        have hw2 := d20
                        refine lv_aload_n hx hb dX7_plan_223 rfl (lv_at hl 6 rfl) ?_
                        refine va_get (D := D) (ci := 7) (v := .ref g10) (C := RX7) (T := TX7) (N := 17) hx hb hts hiX7 hown hK hP 0 rfl rfl 14 (by decide) hf46 (fun _ h9 => h9) rfl dX7_plan_224 ?_
                        refine lv_iload_n hx hb dX7_plan_227 rfl (lv_at hl 7 rfl) ?_
                        refine lv_iload hx hb dX7_plan_228 (lv_at hl 0 rfl) ?_
                        refine va_iast hx hb hK hP hD hS 8 0 rfl rfl (i := nI cv) (vp_in_nI (by omega) (by omega)) dX7_plan_230 (fun H locs hP hD hS => ?_)
                        have hP : va_P D vwCl [(m0, .inr (7, [.int (nI n), .ref g1, .ref g2, .ref g3, .int mr, .ref g4, .int (nI y), .ref g5, .int mo, .ref g6, .int ml, .ref g7, .ref g8, .ref g9, .ref g10, .ref g11, .ref g12])), (g1, .inl (cI, 9, .inl fg)), (g2, .inl (cI, 9, .inl fb)), (g3, .inl (cI, 9, .inl fp)), (g4, .inl (cZ, 20480, .inl fs)), (g12, .inl (cI, 9, .inl th)), (g8, .inl (cJ, 19683, .inr (.inl ub))), (g9, .inl (cI, 19683, .inl un)), (g10, .inl (cI, 19683, .inl (upd uw (nI cv).toNatClampNeg (mW fp ew cv k)))), (g11, .inl (cI, 19683, .inl ux))] H := hP
                        have hD : va_D (aA as) [(m0, .inr (7, [.int (nI n), .ref g1, .ref g2, .ref g3, .int mr, .ref g4, .int (nI y), .ref g5, .int mo, .ref g6, .int ml, .ref g7, .ref g8, .ref g9, .ref g10, .ref g11, .ref g12])), (g1, .inl (cI, 9, .inl fg)), (g2, .inl (cI, 9, .inl fb)), (g3, .inl (cI, 9, .inl fp)), (g4, .inl (cZ, 20480, .inl fs)), (g12, .inl (cI, 9, .inl th)), (g8, .inl (cJ, 19683, .inr (.inl ub))), (g9, .inl (cI, 19683, .inl un)), (g10, .inl (cI, 19683, .inl (upd uw (nI cv).toNatClampNeg (mW fp ew cv k)))), (g11, .inl (cI, 19683, .inl ux))] := hD
                        rw [nI_clamp (n := cv) (by omega)] at hP hD
                        refine lv_aload_n hx hb dX7_plan_231 rfl (lv_at hl 6 rfl) ?_
                        refine va_get (D := D) (ci := 7) (v := .ref g11) (C := RX7) (T := TX7) (N := 17) hx hb hts hiX7 hown hK hP 0 rfl rfl 15 (by decide) hf49 (fun _ h9 => h9) rfl dX7_plan_232 ?_
                        refine lv_iload_n hx hb dX7_plan_235 rfl (lv_at hl 7 rfl) ?_
                        refine lv_iload hx hb dX7_plan_236 (lv_at hl 4 rfl) ?_
                        refine va_iast hx hb hK hP hD hS 9 0 rfl rfl (i := nI cv) (vp_in_nI (by omega) (by omega)) dX7_plan_238 (fun H locs hP hD hS => ?_)
                        have hP : va_P D vwCl [(m0, .inr (7, [.int (nI n), .ref g1, .ref g2, .ref g3, .int mr, .ref g4, .int (nI y), .ref g5, .int mo, .ref g6, .int ml, .ref g7, .ref g8, .ref g9, .ref g10, .ref g11, .ref g12])), (g1, .inl (cI, 9, .inl fg)), (g2, .inl (cI, 9, .inl fb)), (g3, .inl (cI, 9, .inl fp)), (g4, .inl (cZ, 20480, .inl fs)), (g12, .inl (cI, 9, .inl th)), (g8, .inl (cJ, 19683, .inr (.inl ub))), (g9, .inl (cI, 19683, .inl un)), (g10, .inl (cI, 19683, .inl (upd uw cv (mW fp ew cv k)))), (g11, .inl (cI, 19683, .inl (upd ux (nI cv).toNatClampNeg (nI k))))] H := hP
                        have hD : va_D (aA as) [(m0, .inr (7, [.int (nI n), .ref g1, .ref g2, .ref g3, .int mr, .ref g4, .int (nI y), .ref g5, .int mo, .ref g6, .int ml, .ref g7, .ref g8, .ref g9, .ref g10, .ref g11, .ref g12])), (g1, .inl (cI, 9, .inl fg)), (g2, .inl (cI, 9, .inl fb)), (g3, .inl (cI, 9, .inl fp)), (g4, .inl (cZ, 20480, .inl fs)), (g12, .inl (cI, 9, .inl th)), (g8, .inl (cJ, 19683, .inr (.inl ub))), (g9, .inl (cI, 19683, .inl un)), (g10, .inl (cI, 19683, .inl (upd uw cv (mW fp ew cv k)))), (g11, .inl (cI, 19683, .inl (upd ux (nI cv).toNatClampNeg (nI k))))] := hD
                        rw [nI_clamp (n := cv) (by omega)] at hP hD
                        refine lv_iinc (v := nI (k + 1)) (lv' := [(4, .int (nI (k + 1))), (9, .int (mW fp ew cv k)), (7, .long (mE fp eb (mlf fg fb th (nI cv) n) cv k)), (6, .int (nI ((cv + (3 ^ k)) + (3 ^ k)))), (5, .int (nI (cv + (3 ^ k)))), (2, .long (mlf fg fb th (nI cv) n)), (0, .ref m0), (1, .int (nI cv))]) hx hb dX7_plan_239 hl (k := 4) rfl (nI_1 k) (by decide) rfl (fun ls hl => ?_)
                        refine lv_goto (tgt := 47) hx hb dX7_plan_242 (by decide) ?_
                        exact ih5 (k + 1) ub un (upd uw cv (mW fp ew cv k)) (upd ux cv (nI k)) _ _ _ (by omega) (fun z hz => by have h7 := hsm z hz; first | exact h7 | exact ⟨(if_neg hz).trans h7.1, (if_neg hz).trans h7.2.1, h7.2.2⟩ | exact ⟨h7.1, h7.2.1, (if_neg hz).trans h7.2.2.1, (if_neg hz).trans h7.2.2.2⟩ | exact ⟨(if_neg hz).trans h7.1, (if_neg hz).trans h7.2.1, (if_neg hz).trans h7.2.2.1, (if_neg hz).trans h7.2.2.2⟩) (by first | exact hb9.skip hT | (rw [upd_same, updL_same]; first | exact hb9.first hT (by omega) hb1 | exact hb9.take hT hb1 hb2) | exact hb9.leave hb1 hb2) (by first | exact hw9.skip hT | (rw [upd_same, upd_same]; first | exact hw9.first hT (by omega) hw1 | exact hw9.take hT hw1 hw2) | exact hw9.leave hw1 hw2) hP hD hS (lv_sub hl [0, 5, 6, 7] rfl)
                · skip
                  have d15 := c15
                  rw [lc_ge, j_le] at d15
                  have hb2 := d15
                  refine lv_aload_n hx hb dX7_plan_142 rfl (lv_at hl 5 rfl) ?_
                  refine va_get (D := D) (ci := 7) (v := .ref g8) (C := RX7) (T := TX7) (N := 17) hx hb hts hiX7 hown hK hP 0 rfl rfl 12 (by decide) hf39 (fun _ h9 => h9) rfl dX7_plan_143 ?_
                  refine lv_iload_n hx hb dX7_plan_146 rfl (lv_at hl 6 rfl) ?_
                  refine lv_lload hx hb dX7_plan_147 (lv_at hl 0 rfl) ?_
                  refine va_last hx hb hK hP hD hS 6 1 rfl rfl (i := nI cv) (vp_in_nI (by omega) (by omega)) dX7_plan_149 (fun H locs hP hD hS => ?_)
                  have hP : va_P D vwCl [(m0, .inr (7, [.int (nI n), .ref g1, .ref g2, .ref g3, .int mr, .ref g4, .int (nI y), .ref g5, .int mo, .ref g6, .int ml, .ref g7, .ref g8, .ref g9, .ref g10, .ref g11, .ref g12])), (g1, .inl (cI, 9, .inl fg)), (g2, .inl (cI, 9, .inl fb)), (g3, .inl (cI, 9, .inl fp)), (g4, .inl (cZ, 20480, .inl fs)), (g12, .inl (cI, 9, .inl th)), (g8, .inl (cJ, 19683, .inr (.inl (vp_updL ub (nI cv).toNatClampNeg (mE fp eb (mlf fg fb th (nI cv) n) cv k))))), (g9, .inl (cI, 19683, .inl un)), (g10, .inl (cI, 19683, .inl uw)), (g11, .inl (cI, 19683, .inl ux))] H := hP
                  have hD : va_D (aA as) [(m0, .inr (7, [.int (nI n), .ref g1, .ref g2, .ref g3, .int mr, .ref g4, .int (nI y), .ref g5, .int mo, .ref g6, .int ml, .ref g7, .ref g8, .ref g9, .ref g10, .ref g11, .ref g12])), (g1, .inl (cI, 9, .inl fg)), (g2, .inl (cI, 9, .inl fb)), (g3, .inl (cI, 9, .inl fp)), (g4, .inl (cZ, 20480, .inl fs)), (g12, .inl (cI, 9, .inl th)), (g8, .inl (cJ, 19683, .inr (.inl (vp_updL ub (nI cv).toNatClampNeg (mE fp eb (mlf fg fb th (nI cv) n) cv k))))), (g9, .inl (cI, 19683, .inl un)), (g10, .inl (cI, 19683, .inl uw)), (g11, .inl (cI, 19683, .inl ux))] := hD
                  rw [nI_clamp (n := cv) (by omega)] at hP hD
                  refine lv_aload_n hx hb dX7_plan_150 rfl (lv_at hl 5 rfl) ?_
                  refine va_get (D := D) (ci := 7) (v := .ref g9) (C := RX7) (T := TX7) (N := 17) hx hb hts hiX7 hown hK hP 0 rfl rfl 13 (by decide) hf43 (fun _ h9 => h9) rfl dX7_plan_151 ?_
                  refine lv_iload_n hx hb dX7_plan_154 rfl (lv_at hl 6 rfl) ?_
                  refine lv_iload hx hb dX7_plan_155 (lv_at hl 3 rfl) ?_
                  refine va_iast hx hb hK hP hD hS 7 0 rfl rfl (i := nI cv) (vp_in_nI (by omega) (by omega)) dX7_plan_157 (fun H locs hP hD hS => ?_)
                  have hP : va_P D vwCl [(m0, .inr (7, [.int (nI n), .ref g1, .ref g2, .ref g3, .int mr, .ref g4, .int (nI y), .ref g5, .int mo, .ref g6, .int ml, .ref g7, .ref g8, .ref g9, .ref g10, .ref g11, .ref g12])), (g1, .inl (cI, 9, .inl fg)), (g2, .inl (cI, 9, .inl fb)), (g3, .inl (cI, 9, .inl fp)), (g4, .inl (cZ, 20480, .inl fs)), (g12, .inl (cI, 9, .inl th)), (g8, .inl (cJ, 19683, .inr (.inl (vp_updL ub cv (mE fp eb (mlf fg fb th (nI cv) n) cv k))))), (g9, .inl (cI, 19683, .inl (upd un (nI cv).toNatClampNeg (nI k)))), (g10, .inl (cI, 19683, .inl uw)), (g11, .inl (cI, 19683, .inl ux))] H := hP
                  have hD : va_D (aA as) [(m0, .inr (7, [.int (nI n), .ref g1, .ref g2, .ref g3, .int mr, .ref g4, .int (nI y), .ref g5, .int mo, .ref g6, .int ml, .ref g7, .ref g8, .ref g9, .ref g10, .ref g11, .ref g12])), (g1, .inl (cI, 9, .inl fg)), (g2, .inl (cI, 9, .inl fb)), (g3, .inl (cI, 9, .inl fp)), (g4, .inl (cZ, 20480, .inl fs)), (g12, .inl (cI, 9, .inl th)), (g8, .inl (cJ, 19683, .inr (.inl (vp_updL ub cv (mE fp eb (mlf fg fb th (nI cv) n) cv k))))), (g9, .inl (cI, 19683, .inl (upd un (nI cv).toNatClampNeg (nI k)))), (g10, .inl (cI, 19683, .inl uw)), (g11, .inl (cI, 19683, .inl ux))] := hD
                  rw [nI_clamp (n := cv) (by omega)] at hP hD
                  refine lv_aload_n hx hb dX7_plan_158 rfl (lv_at hl 5 rfl) ?_
                  refine va_get (D := D) (ci := 7) (v := .ref g3) (C := RX7) (T := TX7) (N := 17) hx hb hts hiX7 hown hK hP 0 rfl rfl 3 (by decide) hf20 (fun _ h9 => h9) rfl dX7_plan_159 ?_
                  refine lv_iload hx hb dX7_plan_162 (lv_at hl 3 rfl) ?_
                  refine va_iald hx hb hK hP 3 0 rfl rfl (i := nI k) (vp_in_nI (by omega) (by omega)) dX7_plan_164 ?_
                  refine cn_i (y := fp k) (congrArg fp (nI_clamp (by omega))) ?_
                  refine lv_aload_n hx hb dX7_plan_165 rfl (lv_at hl 5 rfl) ?_
                  refine va_get (D := D) (ci := 7) (v := .ref g10) (C := RX7) (T := TX7) (N := 17) hx hb hts hiX7 hown hK hP 0 rfl rfl 14 (by decide) hf46 (fun _ h9 => h9) rfl dX7_plan_166 ?_
                  refine lv_iload hx hb dX7_plan_169 (lv_at hl 2 rfl) ?_
                  refine va_iald hx hb hK hP 8 0 rfl rfl (i := nI (cv + (3 ^ k))) (vp_in_nI (by omega) (by omega)) dX7_plan_171 ?_
                  refine cn_i (y := uw (cv + (3 ^ k))) (congrArg uw (nI_clamp (by omega))) ?_
                  refine lv_aload_n hx hb dX7_plan_172 rfl (lv_at hl 5 rfl) ?_
                  refine va_get (D := D) (ci := 7) (v := .ref g10) (C := RX7) (T := TX7) (N := 17) hx hb hts hiX7 hown hK hP 0 rfl rfl 14 (by decide) hf46 (fun _ h9 => h9) rfl dX7_plan_173 ?_
                  refine lv_iload hx hb dX7_plan_176 (lv_at hl 1 rfl) ?_
                  refine va_iald hx hb hK hP 8 0 rfl rfl (i := nI ((cv + (3 ^ k)) + (3 ^ k))) (vp_in_nI (by omega) (by omega)) dX7_plan_178 ?_
                  refine cn_i (y := uw ((cv + (3 ^ k)) + (3 ^ k))) (congrArg uw (nI_clamp (by omega))) ?_
                  refine lv_icmp_le (tgt := 192) hx hb dX7_plan_179 (by decide) (fun c21 => ?_) (fun c21 => ?_)
                  · skip
                    have hm9 := mxw_r c21
                    refine lv_aload_n hx hb dX7_plan_192 rfl (lv_at hl 5 rfl) ?_
                    refine va_get (D := D) (ci := 7) (v := .ref g10) (C := RX7) (T := TX7) (N := 17) hx hb hts hiX7 hown hK hP 0 rfl rfl 14 (by decide) hf46 (fun _ h9 => h9) rfl dX7_plan_193 ?_
                    refine lv_iload hx hb dX7_plan_196 (lv_at hl 1 rfl) ?_
                    refine va_iald hx hb hK hP 8 0 rfl rfl (i := nI ((cv + (3 ^ k)) + (3 ^ k))) (vp_in_nI (by omega) (by omega)) dX7_plan_198 ?_
                    refine cn_i (y := uw ((cv + (3 ^ k)) + (3 ^ k))) (congrArg uw (nI_clamp (by omega))) ?_
                    refine lv_iadd hx hb dX7_plan_199 ?_
                    refine cn_i (y := mW fp ew cv k) (mW_of (hsm (cv + 3 ^ k) (by omega)).2.2.1 (hsm (cv + 3 ^ k + 3 ^ k) (by omega)).2.2.1 hm9) ?_
                    refine lv_istore (lv' := [(9, .int (mW fp ew cv k)), (7, .long (mE fp eb (mlf fg fb th (nI cv) n) cv k)), (6, .int (nI ((cv + (3 ^ k)) + (3 ^ k)))), (5, .int (nI (cv + (3 ^ k)))), (4, .int (nI k)), (2, .long (mlf fg fb th (nI cv) n)), (0, .ref m0), (1, .int (nI cv))]) hx hb dX7_plan_200 hl (by decide) rfl (fun ls hl => ?_)
                    refine lv_aload_n hx hb dX7_plan_202 rfl (lv_at hl 6 rfl) ?_
                    refine va_get (D := D) (ci := 7) (v := .ref g11) (C := RX7) (T := TX7) (N := 17) hx hb hts hiX7 hown hK hP 0 rfl rfl 15 (by decide) hf49 (fun _ h9 => h9) rfl dX7_plan_203 ?_
                    refine lv_iload_n hx hb dX7_plan_206 rfl (lv_at hl 7 rfl) ?_
                    refine va_iald hx hb hK hP 9 0 rfl rfl (i := nI cv) (vp_in_nI (by omega) (by omega)) dX7_plan_207 ?_
                    refine cn_i (y := ux cv) (congrArg ux (nI_clamp (by omega))) ?_
                    refine lv_iconst (v := (-1 : Int32)) hx hb dX7_plan_208 (by decide) ?_
                    refine lv_icmp_eq (tgt := 223) hx hb dX7_plan_209 (by decide) (fun c22 => ?_) (fun c22 => ?_)
                    · skip
                      have hw1 := c22
                      refine lv_aload_n hx hb dX7_plan_223 rfl (lv_at hl 6 rfl) ?_
                      refine va_get (D := D) (ci := 7) (v := .ref g10) (C := RX7) (T := TX7) (N := 17) hx hb hts hiX7 hown hK hP 0 rfl rfl 14 (by decide) hf46 (fun _ h9 => h9) rfl dX7_plan_224 ?_
                      refine lv_iload_n hx hb dX7_plan_227 rfl (lv_at hl 7 rfl) ?_
                      refine lv_iload hx hb dX7_plan_228 (lv_at hl 0 rfl) ?_
                      refine va_iast hx hb hK hP hD hS 8 0 rfl rfl (i := nI cv) (vp_in_nI (by omega) (by omega)) dX7_plan_230 (fun H locs hP hD hS => ?_)
                      have hP : va_P D vwCl [(m0, .inr (7, [.int (nI n), .ref g1, .ref g2, .ref g3, .int mr, .ref g4, .int (nI y), .ref g5, .int mo, .ref g6, .int ml, .ref g7, .ref g8, .ref g9, .ref g10, .ref g11, .ref g12])), (g1, .inl (cI, 9, .inl fg)), (g2, .inl (cI, 9, .inl fb)), (g3, .inl (cI, 9, .inl fp)), (g4, .inl (cZ, 20480, .inl fs)), (g12, .inl (cI, 9, .inl th)), (g8, .inl (cJ, 19683, .inr (.inl (vp_updL ub cv (mE fp eb (mlf fg fb th (nI cv) n) cv k))))), (g9, .inl (cI, 19683, .inl (upd un cv (nI k)))), (g10, .inl (cI, 19683, .inl (upd uw (nI cv).toNatClampNeg (mW fp ew cv k)))), (g11, .inl (cI, 19683, .inl ux))] H := hP
                      have hD : va_D (aA as) [(m0, .inr (7, [.int (nI n), .ref g1, .ref g2, .ref g3, .int mr, .ref g4, .int (nI y), .ref g5, .int mo, .ref g6, .int ml, .ref g7, .ref g8, .ref g9, .ref g10, .ref g11, .ref g12])), (g1, .inl (cI, 9, .inl fg)), (g2, .inl (cI, 9, .inl fb)), (g3, .inl (cI, 9, .inl fp)), (g4, .inl (cZ, 20480, .inl fs)), (g12, .inl (cI, 9, .inl th)), (g8, .inl (cJ, 19683, .inr (.inl (vp_updL ub cv (mE fp eb (mlf fg fb th (nI cv) n) cv k))))), (g9, .inl (cI, 19683, .inl (upd un cv (nI k)))), (g10, .inl (cI, 19683, .inl (upd uw (nI cv).toNatClampNeg (mW fp ew cv k)))), (g11, .inl (cI, 19683, .inl ux))] := hD
                      rw [nI_clamp (n := cv) (by omega)] at hP hD
                      refine lv_aload_n hx hb dX7_plan_231 rfl (lv_at hl 6 rfl) ?_
                      refine va_get (D := D) (ci := 7) (v := .ref g11) (C := RX7) (T := TX7) (N := 17) hx hb hts hiX7 hown hK hP 0 rfl rfl 15 (by decide) hf49 (fun _ h9 => h9) rfl dX7_plan_232 ?_
                      refine lv_iload_n hx hb dX7_plan_235 rfl (lv_at hl 7 rfl) ?_
                      refine lv_iload hx hb dX7_plan_236 (lv_at hl 4 rfl) ?_
                      refine va_iast hx hb hK hP hD hS 9 0 rfl rfl (i := nI cv) (vp_in_nI (by omega) (by omega)) dX7_plan_238 (fun H locs hP hD hS => ?_)
                      have hP : va_P D vwCl [(m0, .inr (7, [.int (nI n), .ref g1, .ref g2, .ref g3, .int mr, .ref g4, .int (nI y), .ref g5, .int mo, .ref g6, .int ml, .ref g7, .ref g8, .ref g9, .ref g10, .ref g11, .ref g12])), (g1, .inl (cI, 9, .inl fg)), (g2, .inl (cI, 9, .inl fb)), (g3, .inl (cI, 9, .inl fp)), (g4, .inl (cZ, 20480, .inl fs)), (g12, .inl (cI, 9, .inl th)), (g8, .inl (cJ, 19683, .inr (.inl (vp_updL ub cv (mE fp eb (mlf fg fb th (nI cv) n) cv k))))), (g9, .inl (cI, 19683, .inl (upd un cv (nI k)))), (g10, .inl (cI, 19683, .inl (upd uw cv (mW fp ew cv k)))), (g11, .inl (cI, 19683, .inl (upd ux (nI cv).toNatClampNeg (nI k))))] H := hP
                      have hD : va_D (aA as) [(m0, .inr (7, [.int (nI n), .ref g1, .ref g2, .ref g3, .int mr, .ref g4, .int (nI y), .ref g5, .int mo, .ref g6, .int ml, .ref g7, .ref g8, .ref g9, .ref g10, .ref g11, .ref g12])), (g1, .inl (cI, 9, .inl fg)), (g2, .inl (cI, 9, .inl fb)), (g3, .inl (cI, 9, .inl fp)), (g4, .inl (cZ, 20480, .inl fs)), (g12, .inl (cI, 9, .inl th)), (g8, .inl (cJ, 19683, .inr (.inl (vp_updL ub cv (mE fp eb (mlf fg fb th (nI cv) n) cv k))))), (g9, .inl (cI, 19683, .inl (upd un cv (nI k)))), (g10, .inl (cI, 19683, .inl (upd uw cv (mW fp ew cv k)))), (g11, .inl (cI, 19683, .inl (upd ux (nI cv).toNatClampNeg (nI k))))] := hD
                      rw [nI_clamp (n := cv) (by omega)] at hP hD
                      refine lv_iinc (v := nI (k + 1)) (lv' := [(4, .int (nI (k + 1))), (9, .int (mW fp ew cv k)), (7, .long (mE fp eb (mlf fg fb th (nI cv) n) cv k)), (6, .int (nI ((cv + (3 ^ k)) + (3 ^ k)))), (5, .int (nI (cv + (3 ^ k)))), (2, .long (mlf fg fb th (nI cv) n)), (0, .ref m0), (1, .int (nI cv))]) hx hb dX7_plan_239 hl (k := 4) rfl (nI_1 k) (by decide) rfl (fun ls hl => ?_)
                      refine lv_goto (tgt := 47) hx hb dX7_plan_242 (by decide) ?_
                      exact ih5 (k + 1) (vp_updL ub cv (mE fp eb (mlf fg fb th (nI cv) n) cv k)) (upd un cv (nI k)) (upd uw cv (mW fp ew cv k)) (upd ux cv (nI k)) _ _ _ (by omega) (fun z hz => by have h7 := hsm z hz; first | exact h7 | exact ⟨(if_neg hz).trans h7.1, (if_neg hz).trans h7.2.1, h7.2.2⟩ | exact ⟨h7.1, h7.2.1, (if_neg hz).trans h7.2.2.1, (if_neg hz).trans h7.2.2.2⟩ | exact ⟨(if_neg hz).trans h7.1, (if_neg hz).trans h7.2.1, (if_neg hz).trans h7.2.2.1, (if_neg hz).trans h7.2.2.2⟩) (by first | exact hb9.skip hT | (rw [upd_same, updL_same]; first | exact hb9.first hT (by omega) hb1 | exact hb9.take hT hb1 hb2) | exact hb9.leave hb1 hb2) (by first | exact hw9.skip hT | (rw [upd_same, upd_same]; first | exact hw9.first hT (by omega) hw1 | exact hw9.take hT hw1 hw2) | exact hw9.leave hw1 hw2) hP hD hS (lv_sub hl [0, 5, 6, 7] rfl)
                    · skip
                      have hw1 := c22
                      refine lv_iload hx hb dX7_plan_212 (lv_at hl 0 rfl) ?_
                      refine lv_aload_n hx hb dX7_plan_214 rfl (lv_at hl 6 rfl) ?_
                      refine va_get (D := D) (ci := 7) (v := .ref g10) (C := RX7) (T := TX7) (N := 17) hx hb hts hiX7 hown hK hP 0 rfl rfl 14 (by decide) hf46 (fun _ h9 => h9) rfl dX7_plan_215 ?_
                      refine lv_iload_n hx hb dX7_plan_218 rfl (lv_at hl 7 rfl) ?_
                      refine va_iald hx hb hK hP 8 0 rfl rfl (i := nI cv) (vp_in_nI (by omega) (by omega)) dX7_plan_219 ?_
                      refine cn_i (y := uw cv) (congrArg uw (nI_clamp (by omega))) ?_
                      refine lv_icmp_ge (tgt := 239) hx hb dX7_plan_220 (by decide) (fun c23 => ?_) (fun c23 => ?_)
                      · skip
                        have d23 := c23
                        rw [i_le] at d23
                        have hw2 := d23
                        refine lv_iinc (v := nI (k + 1)) (lv' := [(4, .int (nI (k + 1))), (9, .int (mW fp ew cv k)), (7, .long (mE fp eb (mlf fg fb th (nI cv) n) cv k)), (6, .int (nI ((cv + (3 ^ k)) + (3 ^ k)))), (5, .int (nI (cv + (3 ^ k)))), (2, .long (mlf fg fb th (nI cv) n)), (0, .ref m0), (1, .int (nI cv))]) hx hb dX7_plan_239 hl (k := 4) rfl (nI_1 k) (by decide) rfl (fun ls hl => ?_)
                        refine lv_goto (tgt := 47) hx hb dX7_plan_242 (by decide) ?_
                        exact ih5 (k + 1) (vp_updL ub cv (mE fp eb (mlf fg fb th (nI cv) n) cv k)) (upd un cv (nI k)) uw ux _ _ _ (by omega) (fun z hz => by have h7 := hsm z hz; first | exact h7 | exact ⟨(if_neg hz).trans h7.1, (if_neg hz).trans h7.2.1, h7.2.2⟩ | exact ⟨h7.1, h7.2.1, (if_neg hz).trans h7.2.2.1, (if_neg hz).trans h7.2.2.2⟩ | exact ⟨(if_neg hz).trans h7.1, (if_neg hz).trans h7.2.1, (if_neg hz).trans h7.2.2.1, (if_neg hz).trans h7.2.2.2⟩) (by first | exact hb9.skip hT | (rw [upd_same, updL_same]; first | exact hb9.first hT (by omega) hb1 | exact hb9.take hT hb1 hb2) | exact hb9.leave hb1 hb2) (by first | exact hw9.skip hT | (rw [upd_same, upd_same]; first | exact hw9.first hT (by omega) hw1 | exact hw9.take hT hw1 hw2) | exact hw9.leave hw1 hw2) hP hD hS (lv_sub hl [0, 5, 6, 7] rfl)
                      · skip
                        have d23 := c23
                        rw [i_le] at d23
                        have hw2 := d23
                        refine lv_aload_n hx hb dX7_plan_223 rfl (lv_at hl 6 rfl) ?_
                        refine va_get (D := D) (ci := 7) (v := .ref g10) (C := RX7) (T := TX7) (N := 17) hx hb hts hiX7 hown hK hP 0 rfl rfl 14 (by decide) hf46 (fun _ h9 => h9) rfl dX7_plan_224 ?_
                        refine lv_iload_n hx hb dX7_plan_227 rfl (lv_at hl 7 rfl) ?_
                        refine lv_iload hx hb dX7_plan_228 (lv_at hl 0 rfl) ?_
                        refine va_iast hx hb hK hP hD hS 8 0 rfl rfl (i := nI cv) (vp_in_nI (by omega) (by omega)) dX7_plan_230 (fun H locs hP hD hS => ?_)
                        have hP : va_P D vwCl [(m0, .inr (7, [.int (nI n), .ref g1, .ref g2, .ref g3, .int mr, .ref g4, .int (nI y), .ref g5, .int mo, .ref g6, .int ml, .ref g7, .ref g8, .ref g9, .ref g10, .ref g11, .ref g12])), (g1, .inl (cI, 9, .inl fg)), (g2, .inl (cI, 9, .inl fb)), (g3, .inl (cI, 9, .inl fp)), (g4, .inl (cZ, 20480, .inl fs)), (g12, .inl (cI, 9, .inl th)), (g8, .inl (cJ, 19683, .inr (.inl (vp_updL ub cv (mE fp eb (mlf fg fb th (nI cv) n) cv k))))), (g9, .inl (cI, 19683, .inl (upd un cv (nI k)))), (g10, .inl (cI, 19683, .inl (upd uw (nI cv).toNatClampNeg (mW fp ew cv k)))), (g11, .inl (cI, 19683, .inl ux))] H := hP
                        have hD : va_D (aA as) [(m0, .inr (7, [.int (nI n), .ref g1, .ref g2, .ref g3, .int mr, .ref g4, .int (nI y), .ref g5, .int mo, .ref g6, .int ml, .ref g7, .ref g8, .ref g9, .ref g10, .ref g11, .ref g12])), (g1, .inl (cI, 9, .inl fg)), (g2, .inl (cI, 9, .inl fb)), (g3, .inl (cI, 9, .inl fp)), (g4, .inl (cZ, 20480, .inl fs)), (g12, .inl (cI, 9, .inl th)), (g8, .inl (cJ, 19683, .inr (.inl (vp_updL ub cv (mE fp eb (mlf fg fb th (nI cv) n) cv k))))), (g9, .inl (cI, 19683, .inl (upd un cv (nI k)))), (g10, .inl (cI, 19683, .inl (upd uw (nI cv).toNatClampNeg (mW fp ew cv k)))), (g11, .inl (cI, 19683, .inl ux))] := hD
                        rw [nI_clamp (n := cv) (by omega)] at hP hD
                        refine lv_aload_n hx hb dX7_plan_231 rfl (lv_at hl 6 rfl) ?_
                        refine va_get (D := D) (ci := 7) (v := .ref g11) (C := RX7) (T := TX7) (N := 17) hx hb hts hiX7 hown hK hP 0 rfl rfl 15 (by decide) hf49 (fun _ h9 => h9) rfl dX7_plan_232 ?_
                        refine lv_iload_n hx hb dX7_plan_235 rfl (lv_at hl 7 rfl) ?_
                        refine lv_iload hx hb dX7_plan_236 (lv_at hl 4 rfl) ?_
                        refine va_iast hx hb hK hP hD hS 9 0 rfl rfl (i := nI cv) (vp_in_nI (by omega) (by omega)) dX7_plan_238 (fun H locs hP hD hS => ?_)
                        have hP : va_P D vwCl [(m0, .inr (7, [.int (nI n), .ref g1, .ref g2, .ref g3, .int mr, .ref g4, .int (nI y), .ref g5, .int mo, .ref g6, .int ml, .ref g7, .ref g8, .ref g9, .ref g10, .ref g11, .ref g12])), (g1, .inl (cI, 9, .inl fg)), (g2, .inl (cI, 9, .inl fb)), (g3, .inl (cI, 9, .inl fp)), (g4, .inl (cZ, 20480, .inl fs)), (g12, .inl (cI, 9, .inl th)), (g8, .inl (cJ, 19683, .inr (.inl (vp_updL ub cv (mE fp eb (mlf fg fb th (nI cv) n) cv k))))), (g9, .inl (cI, 19683, .inl (upd un cv (nI k)))), (g10, .inl (cI, 19683, .inl (upd uw cv (mW fp ew cv k)))), (g11, .inl (cI, 19683, .inl (upd ux (nI cv).toNatClampNeg (nI k))))] H := hP
                        have hD : va_D (aA as) [(m0, .inr (7, [.int (nI n), .ref g1, .ref g2, .ref g3, .int mr, .ref g4, .int (nI y), .ref g5, .int mo, .ref g6, .int ml, .ref g7, .ref g8, .ref g9, .ref g10, .ref g11, .ref g12])), (g1, .inl (cI, 9, .inl fg)), (g2, .inl (cI, 9, .inl fb)), (g3, .inl (cI, 9, .inl fp)), (g4, .inl (cZ, 20480, .inl fs)), (g12, .inl (cI, 9, .inl th)), (g8, .inl (cJ, 19683, .inr (.inl (vp_updL ub cv (mE fp eb (mlf fg fb th (nI cv) n) cv k))))), (g9, .inl (cI, 19683, .inl (upd un cv (nI k)))), (g10, .inl (cI, 19683, .inl (upd uw cv (mW fp ew cv k)))), (g11, .inl (cI, 19683, .inl (upd ux (nI cv).toNatClampNeg (nI k))))] := hD
                        rw [nI_clamp (n := cv) (by omega)] at hP hD
                        refine lv_iinc (v := nI (k + 1)) (lv' := [(4, .int (nI (k + 1))), (9, .int (mW fp ew cv k)), (7, .long (mE fp eb (mlf fg fb th (nI cv) n) cv k)), (6, .int (nI ((cv + (3 ^ k)) + (3 ^ k)))), (5, .int (nI (cv + (3 ^ k)))), (2, .long (mlf fg fb th (nI cv) n)), (0, .ref m0), (1, .int (nI cv))]) hx hb dX7_plan_239 hl (k := 4) rfl (nI_1 k) (by decide) rfl (fun ls hl => ?_)
                        refine lv_goto (tgt := 47) hx hb dX7_plan_242 (by decide) ?_
                        exact ih5 (k + 1) (vp_updL ub cv (mE fp eb (mlf fg fb th (nI cv) n) cv k)) (upd un cv (nI k)) (upd uw cv (mW fp ew cv k)) (upd ux cv (nI k)) _ _ _ (by omega) (fun z hz => by have h7 := hsm z hz; first | exact h7 | exact ⟨(if_neg hz).trans h7.1, (if_neg hz).trans h7.2.1, h7.2.2⟩ | exact ⟨h7.1, h7.2.1, (if_neg hz).trans h7.2.2.1, (if_neg hz).trans h7.2.2.2⟩ | exact ⟨(if_neg hz).trans h7.1, (if_neg hz).trans h7.2.1, (if_neg hz).trans h7.2.2.1, (if_neg hz).trans h7.2.2.2⟩) (by first | exact hb9.skip hT | (rw [upd_same, updL_same]; first | exact hb9.first hT (by omega) hb1 | exact hb9.take hT hb1 hb2) | exact hb9.leave hb1 hb2) (by first | exact hw9.skip hT | (rw [upd_same, upd_same]; first | exact hw9.first hT (by omega) hw1 | exact hw9.take hT hw1 hw2) | exact hw9.leave hw1 hw2) hP hD hS (lv_sub hl [0, 5, 6, 7] rfl)
                  · skip
                    have hm9 := mxw_l c21
                    refine lv_aload_n hx hb dX7_plan_182 rfl (lv_at hl 5 rfl) ?_
                    refine va_get (D := D) (ci := 7) (v := .ref g10) (C := RX7) (T := TX7) (N := 17) hx hb hts hiX7 hown hK hP 0 rfl rfl 14 (by decide) hf46 (fun _ h9 => h9) rfl dX7_plan_183 ?_
                    refine lv_iload hx hb dX7_plan_186 (lv_at hl 2 rfl) ?_
                    refine va_iald hx hb hK hP 8 0 rfl rfl (i := nI (cv + (3 ^ k))) (vp_in_nI (by omega) (by omega)) dX7_plan_188 ?_
                    refine cn_i (y := uw (cv + (3 ^ k))) (congrArg uw (nI_clamp (by omega))) ?_
                    refine lv_goto (tgt := 199) hx hb dX7_plan_189 (by decide) ?_
                    refine lv_iadd hx hb dX7_plan_199 ?_
                    refine cn_i (y := mW fp ew cv k) (mW_of (hsm (cv + 3 ^ k) (by omega)).2.2.1 (hsm (cv + 3 ^ k + 3 ^ k) (by omega)).2.2.1 hm9) ?_
                    refine lv_istore (lv' := [(9, .int (mW fp ew cv k)), (7, .long (mE fp eb (mlf fg fb th (nI cv) n) cv k)), (6, .int (nI ((cv + (3 ^ k)) + (3 ^ k)))), (5, .int (nI (cv + (3 ^ k)))), (4, .int (nI k)), (2, .long (mlf fg fb th (nI cv) n)), (0, .ref m0), (1, .int (nI cv))]) hx hb dX7_plan_200 hl (by decide) rfl (fun ls hl => ?_)
                    refine lv_aload_n hx hb dX7_plan_202 rfl (lv_at hl 6 rfl) ?_
                    refine va_get (D := D) (ci := 7) (v := .ref g11) (C := RX7) (T := TX7) (N := 17) hx hb hts hiX7 hown hK hP 0 rfl rfl 15 (by decide) hf49 (fun _ h9 => h9) rfl dX7_plan_203 ?_
                    refine lv_iload_n hx hb dX7_plan_206 rfl (lv_at hl 7 rfl) ?_
                    refine va_iald hx hb hK hP 9 0 rfl rfl (i := nI cv) (vp_in_nI (by omega) (by omega)) dX7_plan_207 ?_
                    refine cn_i (y := ux cv) (congrArg ux (nI_clamp (by omega))) ?_
                    refine lv_iconst (v := (-1 : Int32)) hx hb dX7_plan_208 (by decide) ?_
                    refine lv_icmp_eq (tgt := 223) hx hb dX7_plan_209 (by decide) (fun c24 => ?_) (fun c24 => ?_)
                    · skip
                      have hw1 := c24
                      refine lv_aload_n hx hb dX7_plan_223 rfl (lv_at hl 6 rfl) ?_
                      refine va_get (D := D) (ci := 7) (v := .ref g10) (C := RX7) (T := TX7) (N := 17) hx hb hts hiX7 hown hK hP 0 rfl rfl 14 (by decide) hf46 (fun _ h9 => h9) rfl dX7_plan_224 ?_
                      refine lv_iload_n hx hb dX7_plan_227 rfl (lv_at hl 7 rfl) ?_
                      refine lv_iload hx hb dX7_plan_228 (lv_at hl 0 rfl) ?_
                      refine va_iast hx hb hK hP hD hS 8 0 rfl rfl (i := nI cv) (vp_in_nI (by omega) (by omega)) dX7_plan_230 (fun H locs hP hD hS => ?_)
                      have hP : va_P D vwCl [(m0, .inr (7, [.int (nI n), .ref g1, .ref g2, .ref g3, .int mr, .ref g4, .int (nI y), .ref g5, .int mo, .ref g6, .int ml, .ref g7, .ref g8, .ref g9, .ref g10, .ref g11, .ref g12])), (g1, .inl (cI, 9, .inl fg)), (g2, .inl (cI, 9, .inl fb)), (g3, .inl (cI, 9, .inl fp)), (g4, .inl (cZ, 20480, .inl fs)), (g12, .inl (cI, 9, .inl th)), (g8, .inl (cJ, 19683, .inr (.inl (vp_updL ub cv (mE fp eb (mlf fg fb th (nI cv) n) cv k))))), (g9, .inl (cI, 19683, .inl (upd un cv (nI k)))), (g10, .inl (cI, 19683, .inl (upd uw (nI cv).toNatClampNeg (mW fp ew cv k)))), (g11, .inl (cI, 19683, .inl ux))] H := hP
                      have hD : va_D (aA as) [(m0, .inr (7, [.int (nI n), .ref g1, .ref g2, .ref g3, .int mr, .ref g4, .int (nI y), .ref g5, .int mo, .ref g6, .int ml, .ref g7, .ref g8, .ref g9, .ref g10, .ref g11, .ref g12])), (g1, .inl (cI, 9, .inl fg)), (g2, .inl (cI, 9, .inl fb)), (g3, .inl (cI, 9, .inl fp)), (g4, .inl (cZ, 20480, .inl fs)), (g12, .inl (cI, 9, .inl th)), (g8, .inl (cJ, 19683, .inr (.inl (vp_updL ub cv (mE fp eb (mlf fg fb th (nI cv) n) cv k))))), (g9, .inl (cI, 19683, .inl (upd un cv (nI k)))), (g10, .inl (cI, 19683, .inl (upd uw (nI cv).toNatClampNeg (mW fp ew cv k)))), (g11, .inl (cI, 19683, .inl ux))] := hD
                      rw [nI_clamp (n := cv) (by omega)] at hP hD
                      refine lv_aload_n hx hb dX7_plan_231 rfl (lv_at hl 6 rfl) ?_
                      refine va_get (D := D) (ci := 7) (v := .ref g11) (C := RX7) (T := TX7) (N := 17) hx hb hts hiX7 hown hK hP 0 rfl rfl 15 (by decide) hf49 (fun _ h9 => h9) rfl dX7_plan_232 ?_
                      refine lv_iload_n hx hb dX7_plan_235 rfl (lv_at hl 7 rfl) ?_
                      refine lv_iload hx hb dX7_plan_236 (lv_at hl 4 rfl) ?_
                      refine va_iast hx hb hK hP hD hS 9 0 rfl rfl (i := nI cv) (vp_in_nI (by omega) (by omega)) dX7_plan_238 (fun H locs hP hD hS => ?_)
                      have hP : va_P D vwCl [(m0, .inr (7, [.int (nI n), .ref g1, .ref g2, .ref g3, .int mr, .ref g4, .int (nI y), .ref g5, .int mo, .ref g6, .int ml, .ref g7, .ref g8, .ref g9, .ref g10, .ref g11, .ref g12])), (g1, .inl (cI, 9, .inl fg)), (g2, .inl (cI, 9, .inl fb)), (g3, .inl (cI, 9, .inl fp)), (g4, .inl (cZ, 20480, .inl fs)), (g12, .inl (cI, 9, .inl th)), (g8, .inl (cJ, 19683, .inr (.inl (vp_updL ub cv (mE fp eb (mlf fg fb th (nI cv) n) cv k))))), (g9, .inl (cI, 19683, .inl (upd un cv (nI k)))), (g10, .inl (cI, 19683, .inl (upd uw cv (mW fp ew cv k)))), (g11, .inl (cI, 19683, .inl (upd ux (nI cv).toNatClampNeg (nI k))))] H := hP
                      have hD : va_D (aA as) [(m0, .inr (7, [.int (nI n), .ref g1, .ref g2, .ref g3, .int mr, .ref g4, .int (nI y), .ref g5, .int mo, .ref g6, .int ml, .ref g7, .ref g8, .ref g9, .ref g10, .ref g11, .ref g12])), (g1, .inl (cI, 9, .inl fg)), (g2, .inl (cI, 9, .inl fb)), (g3, .inl (cI, 9, .inl fp)), (g4, .inl (cZ, 20480, .inl fs)), (g12, .inl (cI, 9, .inl th)), (g8, .inl (cJ, 19683, .inr (.inl (vp_updL ub cv (mE fp eb (mlf fg fb th (nI cv) n) cv k))))), (g9, .inl (cI, 19683, .inl (upd un cv (nI k)))), (g10, .inl (cI, 19683, .inl (upd uw cv (mW fp ew cv k)))), (g11, .inl (cI, 19683, .inl (upd ux (nI cv).toNatClampNeg (nI k))))] := hD
                      rw [nI_clamp (n := cv) (by omega)] at hP hD
                      refine lv_iinc (v := nI (k + 1)) (lv' := [(4, .int (nI (k + 1))), (9, .int (mW fp ew cv k)), (7, .long (mE fp eb (mlf fg fb th (nI cv) n) cv k)), (6, .int (nI ((cv + (3 ^ k)) + (3 ^ k)))), (5, .int (nI (cv + (3 ^ k)))), (2, .long (mlf fg fb th (nI cv) n)), (0, .ref m0), (1, .int (nI cv))]) hx hb dX7_plan_239 hl (k := 4) rfl (nI_1 k) (by decide) rfl (fun ls hl => ?_)
                      refine lv_goto (tgt := 47) hx hb dX7_plan_242 (by decide) ?_
                      exact ih5 (k + 1) (vp_updL ub cv (mE fp eb (mlf fg fb th (nI cv) n) cv k)) (upd un cv (nI k)) (upd uw cv (mW fp ew cv k)) (upd ux cv (nI k)) _ _ _ (by omega) (fun z hz => by have h7 := hsm z hz; first | exact h7 | exact ⟨(if_neg hz).trans h7.1, (if_neg hz).trans h7.2.1, h7.2.2⟩ | exact ⟨h7.1, h7.2.1, (if_neg hz).trans h7.2.2.1, (if_neg hz).trans h7.2.2.2⟩ | exact ⟨(if_neg hz).trans h7.1, (if_neg hz).trans h7.2.1, (if_neg hz).trans h7.2.2.1, (if_neg hz).trans h7.2.2.2⟩) (by first | exact hb9.skip hT | (rw [upd_same, updL_same]; first | exact hb9.first hT (by omega) hb1 | exact hb9.take hT hb1 hb2) | exact hb9.leave hb1 hb2) (by first | exact hw9.skip hT | (rw [upd_same, upd_same]; first | exact hw9.first hT (by omega) hw1 | exact hw9.take hT hw1 hw2) | exact hw9.leave hw1 hw2) hP hD hS (lv_sub hl [0, 5, 6, 7] rfl)
                    · skip
                      have hw1 := c24
                      refine lv_iload hx hb dX7_plan_212 (lv_at hl 0 rfl) ?_
                      refine lv_aload_n hx hb dX7_plan_214 rfl (lv_at hl 6 rfl) ?_
                      refine va_get (D := D) (ci := 7) (v := .ref g10) (C := RX7) (T := TX7) (N := 17) hx hb hts hiX7 hown hK hP 0 rfl rfl 14 (by decide) hf46 (fun _ h9 => h9) rfl dX7_plan_215 ?_
                      refine lv_iload_n hx hb dX7_plan_218 rfl (lv_at hl 7 rfl) ?_
                      refine va_iald hx hb hK hP 8 0 rfl rfl (i := nI cv) (vp_in_nI (by omega) (by omega)) dX7_plan_219 ?_
                      refine cn_i (y := uw cv) (congrArg uw (nI_clamp (by omega))) ?_
                      refine lv_icmp_ge (tgt := 239) hx hb dX7_plan_220 (by decide) (fun c25 => ?_) (fun c25 => ?_)
                      · skip
                        have d25 := c25
                        rw [i_le] at d25
                        have hw2 := d25
                        refine lv_iinc (v := nI (k + 1)) (lv' := [(4, .int (nI (k + 1))), (9, .int (mW fp ew cv k)), (7, .long (mE fp eb (mlf fg fb th (nI cv) n) cv k)), (6, .int (nI ((cv + (3 ^ k)) + (3 ^ k)))), (5, .int (nI (cv + (3 ^ k)))), (2, .long (mlf fg fb th (nI cv) n)), (0, .ref m0), (1, .int (nI cv))]) hx hb dX7_plan_239 hl (k := 4) rfl (nI_1 k) (by decide) rfl (fun ls hl => ?_)
                        refine lv_goto (tgt := 47) hx hb dX7_plan_242 (by decide) ?_
                        exact ih5 (k + 1) (vp_updL ub cv (mE fp eb (mlf fg fb th (nI cv) n) cv k)) (upd un cv (nI k)) uw ux _ _ _ (by omega) (fun z hz => by have h7 := hsm z hz; first | exact h7 | exact ⟨(if_neg hz).trans h7.1, (if_neg hz).trans h7.2.1, h7.2.2⟩ | exact ⟨h7.1, h7.2.1, (if_neg hz).trans h7.2.2.1, (if_neg hz).trans h7.2.2.2⟩ | exact ⟨(if_neg hz).trans h7.1, (if_neg hz).trans h7.2.1, (if_neg hz).trans h7.2.2.1, (if_neg hz).trans h7.2.2.2⟩) (by first | exact hb9.skip hT | (rw [upd_same, updL_same]; first | exact hb9.first hT (by omega) hb1 | exact hb9.take hT hb1 hb2) | exact hb9.leave hb1 hb2) (by first | exact hw9.skip hT | (rw [upd_same, upd_same]; first | exact hw9.first hT (by omega) hw1 | exact hw9.take hT hw1 hw2) | exact hw9.leave hw1 hw2) hP hD hS (lv_sub hl [0, 5, 6, 7] rfl)
                      · skip
                        have d25 := c25
                        rw [i_le] at d25
                        have hw2 := d25
                        refine lv_aload_n hx hb dX7_plan_223 rfl (lv_at hl 6 rfl) ?_
                        refine va_get (D := D) (ci := 7) (v := .ref g10) (C := RX7) (T := TX7) (N := 17) hx hb hts hiX7 hown hK hP 0 rfl rfl 14 (by decide) hf46 (fun _ h9 => h9) rfl dX7_plan_224 ?_
                        refine lv_iload_n hx hb dX7_plan_227 rfl (lv_at hl 7 rfl) ?_
                        refine lv_iload hx hb dX7_plan_228 (lv_at hl 0 rfl) ?_
                        refine va_iast hx hb hK hP hD hS 8 0 rfl rfl (i := nI cv) (vp_in_nI (by omega) (by omega)) dX7_plan_230 (fun H locs hP hD hS => ?_)
                        have hP : va_P D vwCl [(m0, .inr (7, [.int (nI n), .ref g1, .ref g2, .ref g3, .int mr, .ref g4, .int (nI y), .ref g5, .int mo, .ref g6, .int ml, .ref g7, .ref g8, .ref g9, .ref g10, .ref g11, .ref g12])), (g1, .inl (cI, 9, .inl fg)), (g2, .inl (cI, 9, .inl fb)), (g3, .inl (cI, 9, .inl fp)), (g4, .inl (cZ, 20480, .inl fs)), (g12, .inl (cI, 9, .inl th)), (g8, .inl (cJ, 19683, .inr (.inl (vp_updL ub cv (mE fp eb (mlf fg fb th (nI cv) n) cv k))))), (g9, .inl (cI, 19683, .inl (upd un cv (nI k)))), (g10, .inl (cI, 19683, .inl (upd uw (nI cv).toNatClampNeg (mW fp ew cv k)))), (g11, .inl (cI, 19683, .inl ux))] H := hP
                        have hD : va_D (aA as) [(m0, .inr (7, [.int (nI n), .ref g1, .ref g2, .ref g3, .int mr, .ref g4, .int (nI y), .ref g5, .int mo, .ref g6, .int ml, .ref g7, .ref g8, .ref g9, .ref g10, .ref g11, .ref g12])), (g1, .inl (cI, 9, .inl fg)), (g2, .inl (cI, 9, .inl fb)), (g3, .inl (cI, 9, .inl fp)), (g4, .inl (cZ, 20480, .inl fs)), (g12, .inl (cI, 9, .inl th)), (g8, .inl (cJ, 19683, .inr (.inl (vp_updL ub cv (mE fp eb (mlf fg fb th (nI cv) n) cv k))))), (g9, .inl (cI, 19683, .inl (upd un cv (nI k)))), (g10, .inl (cI, 19683, .inl (upd uw (nI cv).toNatClampNeg (mW fp ew cv k)))), (g11, .inl (cI, 19683, .inl ux))] := hD
                        rw [nI_clamp (n := cv) (by omega)] at hP hD
                        refine lv_aload_n hx hb dX7_plan_231 rfl (lv_at hl 6 rfl) ?_
                        refine va_get (D := D) (ci := 7) (v := .ref g11) (C := RX7) (T := TX7) (N := 17) hx hb hts hiX7 hown hK hP 0 rfl rfl 15 (by decide) hf49 (fun _ h9 => h9) rfl dX7_plan_232 ?_
                        refine lv_iload_n hx hb dX7_plan_235 rfl (lv_at hl 7 rfl) ?_
                        refine lv_iload hx hb dX7_plan_236 (lv_at hl 4 rfl) ?_
                        refine va_iast hx hb hK hP hD hS 9 0 rfl rfl (i := nI cv) (vp_in_nI (by omega) (by omega)) dX7_plan_238 (fun H locs hP hD hS => ?_)
                        have hP : va_P D vwCl [(m0, .inr (7, [.int (nI n), .ref g1, .ref g2, .ref g3, .int mr, .ref g4, .int (nI y), .ref g5, .int mo, .ref g6, .int ml, .ref g7, .ref g8, .ref g9, .ref g10, .ref g11, .ref g12])), (g1, .inl (cI, 9, .inl fg)), (g2, .inl (cI, 9, .inl fb)), (g3, .inl (cI, 9, .inl fp)), (g4, .inl (cZ, 20480, .inl fs)), (g12, .inl (cI, 9, .inl th)), (g8, .inl (cJ, 19683, .inr (.inl (vp_updL ub cv (mE fp eb (mlf fg fb th (nI cv) n) cv k))))), (g9, .inl (cI, 19683, .inl (upd un cv (nI k)))), (g10, .inl (cI, 19683, .inl (upd uw cv (mW fp ew cv k)))), (g11, .inl (cI, 19683, .inl (upd ux (nI cv).toNatClampNeg (nI k))))] H := hP
                        have hD : va_D (aA as) [(m0, .inr (7, [.int (nI n), .ref g1, .ref g2, .ref g3, .int mr, .ref g4, .int (nI y), .ref g5, .int mo, .ref g6, .int ml, .ref g7, .ref g8, .ref g9, .ref g10, .ref g11, .ref g12])), (g1, .inl (cI, 9, .inl fg)), (g2, .inl (cI, 9, .inl fb)), (g3, .inl (cI, 9, .inl fp)), (g4, .inl (cZ, 20480, .inl fs)), (g12, .inl (cI, 9, .inl th)), (g8, .inl (cJ, 19683, .inr (.inl (vp_updL ub cv (mE fp eb (mlf fg fb th (nI cv) n) cv k))))), (g9, .inl (cI, 19683, .inl (upd un cv (nI k)))), (g10, .inl (cI, 19683, .inl (upd uw cv (mW fp ew cv k)))), (g11, .inl (cI, 19683, .inl (upd ux (nI cv).toNatClampNeg (nI k))))] := hD
                        rw [nI_clamp (n := cv) (by omega)] at hP hD
                        refine lv_iinc (v := nI (k + 1)) (lv' := [(4, .int (nI (k + 1))), (9, .int (mW fp ew cv k)), (7, .long (mE fp eb (mlf fg fb th (nI cv) n) cv k)), (6, .int (nI ((cv + (3 ^ k)) + (3 ^ k)))), (5, .int (nI (cv + (3 ^ k)))), (2, .long (mlf fg fb th (nI cv) n)), (0, .ref m0), (1, .int (nI cv))]) hx hb dX7_plan_239 hl (k := 4) rfl (nI_1 k) (by decide) rfl (fun ls hl => ?_)
                        refine lv_goto (tgt := 47) hx hb dX7_plan_242 (by decide) ?_
                        exact ih5 (k + 1) (vp_updL ub cv (mE fp eb (mlf fg fb th (nI cv) n) cv k)) (upd un cv (nI k)) (upd uw cv (mW fp ew cv k)) (upd ux cv (nI k)) _ _ _ (by omega) (fun z hz => by have h7 := hsm z hz; first | exact h7 | exact ⟨(if_neg hz).trans h7.1, (if_neg hz).trans h7.2.1, h7.2.2⟩ | exact ⟨h7.1, h7.2.1, (if_neg hz).trans h7.2.2.1, (if_neg hz).trans h7.2.2.2⟩ | exact ⟨(if_neg hz).trans h7.1, (if_neg hz).trans h7.2.1, (if_neg hz).trans h7.2.2.1, (if_neg hz).trans h7.2.2.2⟩) (by first | exact hb9.skip hT | (rw [upd_same, updL_same]; first | exact hb9.first hT (by omega) hb1 | exact hb9.take hT hb1 hb2) | exact hb9.leave hb1 hb2) (by first | exact hw9.skip hT | (rw [upd_same, upd_same]; first | exact hw9.first hT (by omega) hw1 | exact hw9.take hT hw1 hw2) | exact hw9.leave hw1 hw2) hP hD hS (lv_sub hl [0, 5, 6, 7] rfl)
            · skip
              have d8 := c8
              rw [nz_eq (by omega)] at d8
              have hT := d8
              refine lv_goto (tgt := 239) hx hb dX7_plan_66 (by decide) ?_
              refine lv_iinc (v := nI (k + 1)) (lv' := [(4, .int (nI (k + 1))), (2, .long (mlf fg fb th (nI cv) n)), (0, .ref m0), (1, .int (nI cv))]) hx hb dX7_plan_239 hl (k := 0) rfl (nI_1 k) (by decide) rfl (fun ls hl => ?_)
              refine lv_goto (tgt := 47) hx hb dX7_plan_242 (by decide) ?_
              exact ih5 (k + 1) ub un uw ux _ _ _ (by omega) (fun z hz => by have h7 := hsm z hz; first | exact h7 | exact ⟨(if_neg hz).trans h7.1, (if_neg hz).trans h7.2.1, h7.2.2⟩ | exact ⟨h7.1, h7.2.1, (if_neg hz).trans h7.2.2.1, (if_neg hz).trans h7.2.2.2⟩ | exact ⟨(if_neg hz).trans h7.1, (if_neg hz).trans h7.2.1, (if_neg hz).trans h7.2.2.1, (if_neg hz).trans h7.2.2.2⟩) (by first | exact hb9.skip hT | (rw [upd_same, updL_same]; first | exact hb9.first hT (by omega) hb1 | exact hb9.take hT hb1 hb2) | exact hb9.leave hb1 hb2) (by first | exact hw9.skip hT | (rw [upd_same, upd_same]; first | exact hw9.first hT (by omega) hw1 | exact hw9.take hT hw1 hw2) | exact hw9.leave hw1 hw2) hP hD hS (lv_sub hl [0, 1, 2, 3] rfl)
      exact loop5 (n + 1) 0 (vp_updL eb cv (lN 0)) (upd en cv (-1 : Int32)) (upd ew cv (nI 0)) (upd ex cv (-1 : Int32)) _ _ _ (by omega) (fun z hz => ⟨if_neg hz, if_neg hz, if_neg hz, if_neg hz⟩) (by rw [upd_same]; exact AM.nil) (by rw [upd_same]; exact AM.nil) hP hD hS (lv_sub hl [0, 1, 2, 3] rfl)
    · exact absurd c3 (by first | decide | exact nz_lt (by omega) | exact fun h => h (nz_ge (by omega)))
  · skip
    refine lv_iconst (v := (-1 : Int32)) hx hb dX7_plan_33 (by decide) ?_
    refine lv_icmp_eq (tgt := 38) hx hb dX7_plan_34 (by decide) (fun c26 => ?_) (fun c26 => ?_)
    · exact absurd c26 (by first | decide | exact nz_lt (by omega) | exact fun h => h (nz_ge (by omega)))
    · skip
      rw [← hQ]
      exact W.vret hx hb hr (fun tS htS hWS => ⟨⟨(vp_updL eb cv (lN 0), upd en cv (-1 : Int32), upd ew cv (nI 0), upd ex cv (-1 : Int32)), rfl, ⟨fun z hz => ⟨if_neg hz, if_neg hz, if_neg hz, if_neg hz⟩, RM.sure (fun h => by first | exact absurd w1 h.1 | exact absurd h.2 w1.2) (if_pos rfl) (if_pos rfl) (if_pos rfl) (if_pos rfl)⟩, m_at htS hP⟩, by rw [← has]; exact hS.F htS⟩) (by rw [← has]; exact hS.2.2) dX7_plan_37
