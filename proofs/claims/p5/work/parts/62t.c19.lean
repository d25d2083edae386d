set_option maxHeartbeats 8000000 in
set_option maxRecDepth 100000 in
theorem law_c19 {p : Program} {l : Launch} {e : Env} {s : State} {m : MethodId} {below : List Frame} {meth : Method} {c : Code} {b L i : Nat} {xs : Nat → Int32} (hi : i + 6 ≤ L) (hL : L ≤ 3072) (C0 : lw_At p s m meth c b L xs) (D : va_G) (cI cJ cZ : ClassId) (x0 h4 a1 a2 a3 h3 b1 b2 h2 ra h1 p4 hB l3 h5 lk1 m0 g1 g2 g3 g4 g5 g6 g7 g8 g9 g10 g11 g12 : Nat) (hKN : KN D cI cJ cZ s) (z3 t3 : Nat) (hT0 : T3 z3 t3 s s.heap) (ih : LAt p l e s m below meth c b D cI cJ cZ x0 h4 a1 a2 a3 h3 b1 b2 h2 ra h1 p4 hB l3 h5 lk1 m0 g1 g2 g3 g4 g5 g6 g7 g8 g9 g10 g11 g12 (i + 6)) : ∀ (p5 p6 n sa sv c0 q len gg tc ml : Nat) (ry fr : Int32) (fg : Nat → Int32) (fb : Nat → Int32) (fp : Nat → Int32) (fw : Nat → Int64) (fo : Nat → Int32) (qr : Nat → Int32) (fq : Nat → Int32) (eb : Nat → Int64) (ew : Nat → Int32) (lp : Nat → Int32) (fk : Nat → Int32) (vg : Nat → Int32) (vb : Nat → Int32) (vr : Nat → Int32) (vs : Nat → Int32) (vn : Nat → Int32) (vo : Nat → Int32) (vl : Nat → Int32) (ve : Nat → Int64) (vx : Nat → Int32) (vw : Nat → Int32) (vy : Nat → Int32) (th : Nat → Int32) (H : Heap) (locs : List Loc) (ls : Array Slot), INV n sa sv c0 q len gg tc ml ry fr fg fb fp qr vg vb vr vs vn vo th → va_P D vwCl [(x0, .inr (6, [.ref h4, .ref h3, .ref h2, .ref h1, .ref hB, .ref h5])), (h4, .inr (4, [.ref a1, .ref a2, .ref a3, .int (nI n), .int (nI sa), .int (nI sv)])), (a1, .inl (cI, 9, .inl fg)), (a2, .inl (cI, 9, .inl fb)), (a3, .inl (cI, 9, .inl fp)), (h3, .inr (3, [.ref b1, .ref b2, .int (nI n), .int (nI c0), .int ry])), (b1, .inl (cJ, 320, .inr (.inl fw))), (b2, .inl (cI, 9, .inl fo)), (h2, .inr (2, [.ref ra, .int (nI q)])), (ra, .inl (cI, 9, .inl qr)), (h1, .inr (1, [.ref h4, .ref h3, .ref h2, .ref p4, .ref p5, .ref p6, .int fr])), (p4, .inl (cI, 9, .inl fq)), (p5, .inl (cJ, len, .inr (.inl eb))), (p6, .inl (cI, len, .inl ew)), (hB, .inr (0, [.ref h4, .ref h3, .ref l3])), (l3, .inl (cI, 512, .inl lp)), (h5, .inr (5, [.ref lk1, .int (nI tc)])), (lk1, .inl (cI, 9, .inl fk)), (m0, .inr (7, [.int (nI n), .ref g1, .ref g2, .ref g3, .int (nI c0), .ref g4, .int ry, .ref g5, .int (nI q), .ref g6, .int (nI ml), .ref g7, .ref g8, .ref g9, .ref g10, .ref g11, .ref g12])), (g1, .inl (cI, 9, .inl vg)), (g2, .inl (cI, 9, .inl vb)), (g3, .inl (cI, 9, .inl vr)), (g4, .inl (cZ, 20480, .inl vs)), (g5, .inl (cI, 9, .inl vn)), (g6, .inl (cI, 9, .inl vo)), (g7, .inl (cI, 9, .inl vl)), (g8, .inl (cJ, 19683, .inr (.inl ve))), (g9, .inl (cI, 19683, .inl vx)), (g10, .inl (cI, 19683, .inl vw)), (g11, .inl (cI, 19683, .inl vy)), (g12, .inl (cI, 9, .inl th))] H → va_D (fun q : Nat => s.heap.size ≤ q) [(x0, .inr (6, [.ref h4, .ref h3, .ref h2, .ref h1, .ref hB, .ref h5])), (h4, .inr (4, [.ref a1, .ref a2, .ref a3, .int (nI n), .int (nI sa), .int (nI sv)])), (a1, .inl (cI, 9, .inl fg)), (a2, .inl (cI, 9, .inl fb)), (a3, .inl (cI, 9, .inl fp)), (h3, .inr (3, [.ref b1, .ref b2, .int (nI n), .int (nI c0), .int ry])), (b1, .inl (cJ, 320, .inr (.inl fw))), (b2, .inl (cI, 9, .inl fo)), (h2, .inr (2, [.ref ra, .int (nI q)])), (ra, .inl (cI, 9, .inl qr)), (h1, .inr (1, [.ref h4, .ref h3, .ref h2, .ref p4, .ref p5, .ref p6, .int fr])), (p4, .inl (cI, 9, .inl fq)), (p5, .inl (cJ, len, .inr (.inl eb))), (p6, .inl (cI, len, .inl ew)), (hB, .inr (0, [.ref h4, .ref h3, .ref l3])), (l3, .inl (cI, 512, .inl lp)), (h5, .inr (5, [.ref lk1, .int (nI tc)])), (lk1, .inl (cI, 9, .inl fk)), (m0, .inr (7, [.int (nI n), .ref g1, .ref g2, .ref g3, .int (nI c0), .ref g4, .int ry, .ref g5, .int (nI q), .ref g6, .int (nI ml), .ref g7, .ref g8, .ref g9, .ref g10, .ref g11, .ref g12])), (g1, .inl (cI, 9, .inl vg)), (g2, .inl (cI, 9, .inl vb)), (g3, .inl (cI, 9, .inl vr)), (g4, .inl (cZ, 20480, .inl vs)), (g5, .inl (cI, 9, .inl vn)), (g6, .inl (cI, 9, .inl vo)), (g7, .inl (cI, 9, .inl vl)), (g8, .inl (cJ, 19683, .inr (.inl ve))), (g9, .inl (cI, 19683, .inl vx)), (g10, .inl (cI, 19683, .inl vw)), (g11, .inl (cI, 19683, .inl vy)), (g12, .inl (cI, 9, .inl th))] → va_S (fun q : Nat => s.heap.size ≤ q) s.heap H locs → lv_has ls 4 [(3, .int (nI i)), (2, .ref m0), (1, .ref x0), (0, .ref b)] → W p l e room_1 s m #[Value.ref b] below meth c H locs (31 + 2 * gg) (100218 + 39366 * gg) (lw_Z below #[Value.ref b] s) (F0 m 779 ls []) := by
  obtain ⟨hx, hb, hr, hml, hown, hts0, hX, hbl, hlocks, hgv⟩ := id C0
  have hts : ∀ w ∈ wsL_law, w.before #[Value.ref b] s = true := fun w h => hts0 w (wsL_law_in w h)
  have hown : s.vm.findClass RL = some m.cls := hown
  have hA : ∀ q : Nat, s.heap.size ≤ q → (fun q : Nat => s.heap.size ≤ q) q := fun _ h => h
  have hbA : ¬ (fun q : Nat => s.heap.size ≤ q) b := Nat.not_le.mpr hbl
  have hK := hKN.1
  have hzA : ¬ (fun q : Nat => s.heap.size ≤ q) z3 := Nat.not_le.mpr hT0.2.2.1
  have htA : ¬ (fun q : Nat => s.heap.size ≤ q) t3 := Nat.not_le.mpr hT0.2.2.2
  intro p5 p6 n sa sv c0 q len gg tc ml ry fr fg fb fp fw fo qr fq eb ew lp fk vg vb vr vs vn vo vl ve vx vw vy th H locs ls hI hP hD hS hl
  have hI0 := hI
  obtain ⟨⟨h1n, hn, hsa, hsv, hc, hlen, htc, hml9, hgg⟩, hry, ⟨hdq, hdm, hqm⟩, hfr, hgp, hfg, hsn, hth, h01⟩ := id hI0
  have hq : q ≤ 9 := by have := hdq.le hn; omega
  have hrow := hdq.1
  have hfo := hdm.1
  have h2n := m_pow hn
  have h2p := m_powp n
  have h3n := m_3n hn
  have h3p := m_p3p n
  obtain ⟨v1, hv1⟩ : ∃ z, z = xs (i + 1) := ⟨_, rfl⟩
  obtain ⟨v2, hv2⟩ : ∃ z, z = xs (i + 2) := ⟨_, rfl⟩
  obtain ⟨v3, hv3⟩ : ∃ z, z = xs (i + 3) := ⟨_, rfl⟩
  obtain ⟨v4, hv4⟩ : ∃ z, z = xs (i + 4) := ⟨_, rfl⟩
  obtain ⟨v5, hv5⟩ : ∃ z, z = xs (i + 5) := ⟨_, rfl⟩
  refine lv_aload_n hx hb dL_law_779 rfl (lv_at hl 2 rfl) ?_
  refine lv_aload_n hx hb dL_law_780 rfl (lv_at hl 3 rfl) ?_
  refine lv_iload_n hx hb dL_law_781 rfl (lv_at hl 0 rfl) ?_
  refine lv_iconst (v := nI 1) hx hb dL_law_782 (by decide) ?_
  refine lv_iadd hx hb dL_law_783 ?_
  refine cn_i (y := nI (i + 1)) (nI_add i 1) ?_
  refine va_sld hx hb hX hbl hbA hS (i := nI (i + 1)) (vp_in_nI (by omega) (by omega)) dL_law_784 ?_
  refine cn_i (y := v1) ((congrArg xs (nI_clamp (by omega))).trans hv1.symm) ?_
  refine pu_i (va_runV (As := [.int v1]) (rest := []) ⟨hx, hb, hml, hown, hts⟩ (c_X6_ordered l D cI cJ cZ x0 h4 h3 h2 h1 hB h5 ra q v1 qr (by first | assumption | omega)) (cwV 1 hts gL_law_X6_ordered rfl rfl rfl (by decide +kernel) ⟨Nat.le_of_ble_eq_true rfl, Nat.le_of_ble_eq_true rfl⟩) ⟨pc_blind, va_recv hK hP (ci := 6) (q0 := 0) rfl rfl, fun U hU hW => ⟨rfl, by rw [hU]; exact hP.sub (ws' := [(x0, .inr (6, [.ref h4, .ref h3, .ref h2, .ref h1, .ref hB, .ref h5])), (h2, .inr (2, [.ref ra, .int (nI q)])), (ra, .inl (cI, 9, .inl qr))]) [0, 8, 9] rfl, hKN.warm hW⟩⟩ rfl rfl hl.1 rfl (lv_room (Nat.le_of_ble_eq_true rfl)) dL_law_785 ⟨(show (31 + 2 * gg) + 0 ≤ 1200000 by omega), (show (100218 + 39366 * gg) + 0 ≤ 5502250 by omega)⟩) hS hP (fun r1 H locs w1r hP hS => ?_)
  have w1 : r1 = oF qr q v1 := w1r
  clear w1r
  refine lv_pop hx hb dL_law_788 rfl ?_
  refine lv_aload_n hx hb dL_law_789 rfl (lv_at hl 1 rfl) ?_
  refine lv_aload_n hx hb dL_law_790 rfl (lv_at hl 3 rfl) ?_
  refine lv_iload_n hx hb dL_law_791 rfl (lv_at hl 0 rfl) ?_
  refine lv_iconst (v := nI 1) hx hb dL_law_792 (by decide) ?_
  refine lv_iadd hx hb dL_law_793 ?_
  refine cn_i (y := nI (i + 1)) (nI_add i 1) ?_
  refine va_sld hx hb hX hbl hbA hS (i := nI (i + 1)) (vp_in_nI (by omega) (by omega)) dL_law_794 ?_
  refine cn_i (y := v1) ((congrArg xs (nI_clamp (by omega))).trans hv1.symm) ?_
  refine pu_i (va_runV (As := [.int v1]) (rest := []) ⟨hx, hb, hml, hown, hts⟩ (c_X7_ordered l D cI cJ cZ m0 g1 g2 g3 g4 g5 g6 g7 g8 g9 g10 g11 g12 q (nI n) (nI c0) ry (nI ml) v1 vo (by first | assumption | omega)) (cwV 1 hts gL_law_X7_ordered rfl rfl rfl (by decide +kernel) ⟨Nat.le_of_ble_eq_true rfl, Nat.le_of_ble_eq_true rfl⟩) ⟨pc_blind, va_recv hK hP (ci := 7) (q0 := 18) rfl rfl, fun U hU hW => ⟨rfl, by rw [hU]; exact hP.sub (ws' := [(m0, .inr (7, [.int (nI n), .ref g1, .ref g2, .ref g3, .int (nI c0), .ref g4, .int ry, .ref g5, .int (nI q), .ref g6, .int (nI ml), .ref g7, .ref g8, .ref g9, .ref g10, .ref g11, .ref g12])), (g6, .inl (cI, 9, .inl vo))]) [18, 24] rfl, hKN.warm hW⟩⟩ rfl rfl hl.1 rfl (lv_room (Nat.le_of_ble_eq_true rfl)) dL_law_795 ⟨(show (31 + 2 * gg) + 0 ≤ 1200000 by omega), (show (100218 + 39366 * gg) + 0 ≤ 5502250 by omega)⟩) hS hP (fun r2 H locs w2r hP hS => ?_)
  have w2 : r2 = oF vo q v1 := w2r
  clear w2r
  refine lv_pop hx hb dL_law_798 rfl ?_
  refine lv_goto (tgt := 881) hx hb dL_law_799 (by decide) ?_
  exact law_tail hi hL C0 D cI cJ cZ x0 h4 a1 a2 a3 h3 b1 b2 h2 ra h1 p4 hB l3 h5 lk1 m0 g1 g2 g3 g4 g5 g6 g7 g8 g9 g10 g11 g12 ih p5 p6 n sa sv c0 q len gg tc ml ry fr fg fb fp fw fo qr fq eb ew lp fk vg vb vr vs vn vo vl ve vx vw vy th _ _ _ hI hP hD hS (lv_sub hl [0, 1, 2, 3] rfl)
