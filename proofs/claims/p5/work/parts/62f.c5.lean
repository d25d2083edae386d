set_option maxHeartbeats 8000000 in
set_option maxRecDepth 100000 in
theorem law_c5 {p : Program} {l : Launch} {e : Env} {s : State} {m : MethodId} {below : List Frame} {meth : Method} {c : Code} {b L i : Nat} {xs : Nat → Int32} (hi : i + 6 ≤ L) (hL : L ≤ 3072) (C0 : lw_At p s m meth c b L xs) (D : va_G) (cI cJ cZ : ClassId) (x0 h4 a1 a2 a3 h3 b1 b2 h2 ra h1 p4 hB l3 h5 lk1 m0 g1 g2 g3 g4 g5 g6 g7 g8 g9 g10 g11 g12 : Nat) (hKN : KN D cI cJ cZ s) (z3 t3 : Nat) (hT0 : T3 z3 t3 s s.heap) (ih : LAt p l e s m below meth c b D cI cJ cZ x0 h4 a1 a2 a3 h3 b1 b2 h2 ra h1 p4 hB l3 h5 lk1 m0 g1 g2 g3 g4 g5 g6 g7 g8 g9 g10 g11 g12 (i + 6)) : ∀ (p5 p6 n sa sv c0 q len gg tc ml : Nat) (ry fr : Int32) (fg : Nat → Int32) (fb : Nat → Int32) (fp : Nat → Int32) (fw : Nat → Int64) (fo : Nat → Int32) (qr : Nat → Int32) (fq : Nat → Int32) (eb : Nat → Int64) (ew : Nat → Int32) (lp : Nat → Int32) (fk : Nat → Int32) (vg : Nat → Int32) (vb : Nat → Int32) (vr : Nat → Int32) (vs : Nat → Int32) (vn : Nat → Int32) (vo : Nat → Int32) (vl : Nat → Int32) (ve : Nat → Int64) (vx : Nat → Int32) (vw : Nat → Int32) (vy : Nat → Int32) (th : Nat → Int32) (H : Heap) (locs : List Loc) (ls : Array Slot), INV n sa sv c0 q len gg tc ml ry fr fg fb fp qr vg vb vr vs vn vo th → va_P D vwCl [(x0, .inr (6, [.ref h4, .ref h3, .ref h2, .ref h1, .ref hB, .ref h5])), (h4, .inr (4, [.ref a1, .ref a2, .ref a3, .int (nI n), .int (nI sa), .int (nI sv)])), (a1, .inl (cI, 9, .inl fg)), (a2, .inl (cI, 9, .inl fb)), (a3, .inl (cI, 9, .inl fp)), (h3, .inr (3, [.ref b1, .ref b2, .int (nI n), .int (nI c0), .int ry])), (b1, .inl (cJ, 320, .inr (.inl fw))), (b2, .inl (cI, 9, .inl fo)), (h2, .inr (2, [.ref ra, .int (nI q)])), (ra, .inl (cI, 9, .inl qr)), (h1, .inr (1, [.ref h4, .ref h3, .ref h2, .ref p4, .ref p5, .ref p6, .int fr])), (p4, .inl (cI, 9, .inl fq)), (p5, .inl (cJ, len, .inr (.inl eb))), (p6, .inl (cI, len, .inl ew)), (hB, .inr (0, [.ref h4, .ref h3, .ref l3])), (l3, .inl (cI, 512, .inl lp)), (h5, .inr (5, [.ref lk1, .int (nI tc)])), (lk1, .inl (cI, 9, .inl fk)), (m0, .inr (7, [.int (nI n), .ref g1, .ref g2, .ref g3, .int (nI c0), .ref g4, .int ry, .ref g5, .int (nI q), .ref g6, .int (nI ml), .ref g7, .ref g8, .ref g9, .ref g10, .ref g11, .ref g12])), (g1, .inl (cI, 9, .inl vg)), (g2, .inl (cI, 9, .inl vb)), (g3, .inl (cI, 9, .inl vr)), (g4, .inl (cZ, 20480, .inl vs)), (g5, .inl (cI, 9, .inl vn)), (g6, .inl (cI, 9, .inl vo)), (g7, .inl (cI, 9, .inl vl)), (g8, .inl (cJ, 19683, .inr (.inl ve))), (g9, .inl (cI, 19683, .inl vx)), (g10, .inl (cI, 19683, .inl vw)), (g11, .inl (cI, 19683, .inl vy)), (g12, .inl (cI, 9, .inl th))] H → va_D (fun q : Nat => s.heap.size ≤ q) [(x0, .inr (6, [.ref h4, .ref h3, .ref h2, .ref h1, .ref hB, .ref h5])), (h4, .inr (4, [.ref a1, .ref a2, .ref a3, .int (nI n), .int (nI sa), .int (nI sv)])), (a1, .inl (cI, 9, .inl fg)), (a2, .inl (cI, 9, .inl fb)), (a3, .inl (cI, 9, .inl fp)), (h3, .inr (3, [.ref b1, .ref b2, .int (nI n), .int (nI c0), .int ry])), (b1, .inl (cJ, 320, .inr (.inl fw))), (b2, .inl (cI, 9, .inl fo)), (h2, .inr (2, [.ref ra, .int (nI q)])), (ra, .inl (cI, 9, .inl qr)), (h1, .inr (1, [.ref h4, .ref h3, .ref h2, .ref p4, .ref p5, .ref p6, .int fr])), (p4, .inl (cI, 9, .inl fq)), (p5, .inl (cJ, len, .inr (.inl eb))), (p6, .inl (cI, len, .inl ew)), (hB, .inr (0, [.ref h4, .ref h3, .ref l3])), (l3, .inl (cI, 512, .inl lp)), (h5, .inr (5, [.ref lk1, .int (nI tc)])), (lk1, .inl (cI, 9, .inl fk)), (m0, .inr (7, [.int (nI n), .ref g1, .ref g2, .ref g3, .int (nI c0), .ref g4, .int ry, .ref g5, .int (nI q), .ref g6, .int (nI ml), .ref g7, .ref g8, .ref g9, .ref g10, .ref g11, .ref g12])), (g1, .inl (cI, 9, .inl vg)), (g2, .inl (cI, 9, .inl vb)), (g3, .inl (cI, 9, .inl vr)), (g4, .inl (cZ, 20480, .inl vs)), (g5, .inl (cI, 9, .inl vn)), (g6, .inl (cI, 9, .inl vo)), (g7, .inl (cI, 9, .inl vl)), (g8, .inl (cJ, 19683, .inr (.inl ve))), (g9, .inl (cI, 19683, .inl vx)), (g10, .inl (cI, 19683, .inl vw)), (g11, .inl (cI, 19683, .inl vy)), (g12, .inl (cI, 9, .inl th))] → va_S (fun q : Nat => s.heap.size ≤ q) s.heap H locs → lv_has ls 4 [(3, .int (nI i)), (2, .ref m0), (1, .ref x0), (0, .ref b)] → W p l e room_1 s m #[Value.ref b] below meth c H locs (31 + 2 * gg) (100218 + 39366 * gg) (lw_Z below #[Value.ref b] s) (F0 m 305 ls []) := by
  obtain ⟨hx, hb, hr, hml, hown, hts0, hX, hbl, hlocks, hgv⟩ := id C0
  have hts : ∀ w ∈ wsL_law, w.before #[Value.ref b] s = true := fun w h => hts0 w (wsL_law_in w h)
  have hown : s.vm.findClass RL = some m.cls := hown
  have hA : ∀ q : Nat, s.heap.size ≤ q → (fun q : Nat => s.heap.size ≤ q) q := fun _ h => h
  have hbA : ¬ (fun q : Nat => s.heap.size ≤ q) b := Nat.not_le.mpr hbl
  have hK := hKN.1
  have hzA : ¬ (fun q : Nat => s.heap.size ≤ q) z3 := Nat.not_le.mpr hT0.2.2.1
  have htA : ¬ (fun q : Nat => s.heap.size ≤ q) t3 := Nat.not_le.mpr hT0.2.2.2
  intro p5 p6 n sa sv c0 q len gg tc ml ry fr fg fb fp fw fo qr fq eb ew lp fk vg vb vr vs vn vo vl ve vx vw vy th H locs ls hI hP hD hS hl
  have hI0 := hI
  obtain ⟨⟨h1n, hn, hsa, hsv, hc, hlen, htc, hml9, hgg⟩, hry, ⟨hdq, hdm, hqm⟩, hfr, hgp, hfg, hsn, hth, h01⟩ := id hI0
  have hq : q ≤ 9 := by have := hdq.le hn; omega
  have hrow := hdq.1
  have hfo := hdm.1
  have h2n := m_pow hn
  have h2p := m_powp n
  have h3n := m_3n hn
  have h3p := m_p3p n
  obtain ⟨v1, hv1⟩ : ∃ z, z = xs (i + 1) := ⟨_, rfl⟩
  obtain ⟨v2, hv2⟩ : ∃ z, z = xs (i + 2) := ⟨_, rfl⟩
  obtain ⟨v3, hv3⟩ : ∃ z, z = xs (i + 3) := ⟨_, rfl⟩
  obtain ⟨v4, hv4⟩ : ∃ z, z = xs (i + 4) := ⟨_, rfl⟩
  obtain ⟨v5, hv5⟩ : ∃ z, z = xs (i + 5) := ⟨_, rfl⟩
  refine lv_aload_n hx hb dL_law_305 rfl (lv_at hl 2 rfl) ?_
  refine lv_aload_n hx hb dL_law_306 rfl (lv_at hl 3 rfl) ?_
  refine lv_iload_n hx hb dL_law_307 rfl (lv_at hl 0 rfl) ?_
  refine lv_iconst (v := nI 1) hx hb dL_law_308 (by decide) ?_
  refine lv_iadd hx hb dL_law_309 ?_
  refine cn_i (y := nI (i + 1)) (nI_add i 1) ?_
  refine va_sld hx hb hX hbl hbA hS (i := nI (i + 1)) (vp_in_nI (by omega) (by omega)) dL_law_310 ?_
  refine cn_i (y := v1) ((congrArg xs (nI_clamp (by omega))).trans hv1.symm) ?_
  refine lv_aload_n hx hb dL_law_311 rfl (lv_at hl 3 rfl) ?_
  refine lv_iload_n hx hb dL_law_312 rfl (lv_at hl 0 rfl) ?_
  refine lv_iconst (v := nI 2) hx hb dL_law_313 (by decide) ?_
  refine lv_iadd hx hb dL_law_314 ?_
  refine cn_i (y := nI (i + 2)) (nI_add i 2) ?_
  refine va_sld hx hb hX hbl hbA hS (i := nI (i + 2)) (vp_in_nI (by omega) (by omega)) dL_law_315 ?_
  refine cn_i (y := v2) ((congrArg xs (nI_clamp (by omega))).trans hv2.symm) ?_
  refine lv_i2l hx hb dL_law_316 rfl ?_
  refine lv_bipush (v := nI 32) hx hb dL_law_317 (by decide) ?_
  refine lv_lshl hx hb dL_law_319 rfl ?_
  refine lv_aload_n hx hb dL_law_320 rfl (lv_at hl 3 rfl) ?_
  refine lv_iload_n hx hb dL_law_321 rfl (lv_at hl 0 rfl) ?_
  refine lv_iconst (v := nI 3) hx hb dL_law_322 (by decide) ?_
  refine lv_iadd hx hb dL_law_323 ?_
  refine cn_i (y := nI (i + 3)) (nI_add i 3) ?_
  refine va_sld hx hb hX hbl hbA hS (i := nI (i + 3)) (vp_in_nI (by omega) (by omega)) dL_law_324 ?_
  refine cn_i (y := v3) ((congrArg xs (nI_clamp (by omega))).trans hv3.symm) ?_
  refine lv_i2l hx hb dL_law_325 rfl ?_
  refine lv_ldc2 (v := lN 4294967295) hx hb hown (hts (.constantLong RL 37 (lN 4294967295)) (by decide +kernel)) dL_law_326 ?_
  refine lv_land hx hb dL_law_329 ?_
  refine lv_lor hx hb dL_law_330 ?_
  refine lv_aload_n hx hb dL_law_331 rfl (lv_at hl 3 rfl) ?_
  refine lv_iload_n hx hb dL_law_332 rfl (lv_at hl 0 rfl) ?_
  refine lv_iconst (v := nI 4) hx hb dL_law_333 (by decide) ?_
  refine lv_iadd hx hb dL_law_334 ?_
  refine cn_i (y := nI (i + 4)) (nI_add i 4) ?_
  refine va_sld hx hb hX hbl hbA hS (i := nI (i + 4)) (vp_in_nI (by omega) (by omega)) dL_law_335 ?_
  refine cn_i (y := v4) ((congrArg xs (nI_clamp (by omega))).trans hv4.symm) ?_
  refine lv_aload_n hx hb dL_law_336 rfl (lv_at hl 3 rfl) ?_
  refine lv_iload_n hx hb dL_law_337 rfl (lv_at hl 0 rfl) ?_
  refine lv_iconst (v := nI 5) hx hb dL_law_338 (by decide) ?_
  refine lv_iadd hx hb dL_law_339 ?_
  refine cn_i (y := nI (i + 5)) (nI_add i 5) ?_
  refine va_sld hx hb hX hbl hbA hS (i := nI (i + 5)) (vp_in_nI (by omega) (by omega)) dL_law_340 ?_
  refine cn_i (y := v5) ((congrArg xs (nI_clamp (by omega))).trans hv5.symm) ?_
  refine mu2_i (n := 31) (wc := [(x0, .inr (6, [.ref h4, .ref h3, .ref h2, .ref h1, .ref hB, .ref h5])), (h4, .inr (4, [.ref a1, .ref a2, .ref a3, .int (nI n), .int (nI sa), .int (nI sv)])), (h3, .inr (3, [.ref b1, .ref b2, .int (nI n), .int (nI c0), .int ry])), (b1, .inl (cJ, 320, .inr (.inl fw))), (b2, .inl (cI, 9, .inl fo))]) (wr := [(a1, .inl (cI, 9, .inl fg)), (a2, .inl (cI, 9, .inl fb)), (a3, .inl (cI, 9, .inl fp)), (h2, .inr (2, [.ref ra, .int (nI q)])), (ra, .inl (cI, 9, .inl qr)), (h1, .inr (1, [.ref h4, .ref h3, .ref h2, .ref p4, .ref p5, .ref p6, .int fr])), (p4, .inl (cI, 9, .inl fq)), (p5, .inl (cJ, len, .inr (.inl eb))), (p6, .inl (cI, len, .inl ew)), (hB, .inr (0, [.ref h4, .ref h3, .ref l3])), (l3, .inl (cI, 512, .inl lp)), (h5, .inr (5, [.ref lk1, .int (nI tc)])), (lk1, .inl (cI, 9, .inl fk)), (m0, .inr (7, [.int (nI n), .ref g1, .ref g2, .ref g3, .int (nI c0), .ref g4, .int ry, .ref g5, .int (nI q), .ref g6, .int (nI ml), .ref g7, .ref g8, .ref g9, .ref g10, .ref g11, .ref g12])), (g1, .inl (cI, 9, .inl vg)), (g2, .inl (cI, 9, .inl vb)), (g3, .inl (cI, 9, .inl vr)), (g4, .inl (cZ, 20480, .inl vs)), (g5, .inl (cI, 9, .inl vn)), (g6, .inl (cI, 9, .inl vo)), (g7, .inl (cI, 9, .inl vl)), (g8, .inl (cJ, 19683, .inr (.inl ve))), (g9, .inl (cI, 19683, .inl vx)), (g10, .inl (cI, 19683, .inl vw)), (g11, .inl (cI, 19683, .inl vy)), (g12, .inl (cI, 9, .inl th))]) (as0 := [x0, h4, a1, a2, a3, h3, b1, b2, h2, ra, h1, p4, p5, p6, hB, l3, h5, lk1, m0, g1, g2, g3, g4, g5, g6, g7, g8, g9, g10, g11, g12]) (va_runV (As := [.int v1, .long ((v2.toInt64 <<< ((nI 32).toInt64 &&& 63)) ||| (v3.toInt64 &&& (lN 4294967295))), .int v4, .int v5]) (rest := []) ⟨hx, hb, hml, hown, hts⟩ (c_X6_some_g l D cI cJ cZ x0 h4 h3 h2 h1 hB h5 a1 a2 a3 b1 b2 n c0 (nI sa) (nI sv) ry v1 v4 v5 ((v2.toInt64 <<< ((nI 32).toInt64 &&& 63)) ||| (v3.toInt64 &&& (lN 4294967295))) fw fo (by first | assumption | omega) (by first | assumption | omega)) (cwV 4 hts gL_law_X6_some rfl rfl rfl (by decide +kernel) ⟨Nat.le_of_ble_eq_true rfl, Nat.le_of_ble_eq_true rfl⟩) ⟨pm_blind, va_recv hK hP (ci := 6) (q0 := 0) rfl rfl, fun U hU hW => ⟨rfl, by rw [hU]; exact hP.sub (ws' := [(x0, .inr (6, [.ref h4, .ref h3, .ref h2, .ref h1, .ref hB, .ref h5])), (h4, .inr (4, [.ref a1, .ref a2, .ref a3, .int (nI n), .int (nI sa), .int (nI sv)])), (h3, .inr (3, [.ref b1, .ref b2, .int (nI n), .int (nI c0), .int ry])), (b1, .inl (cJ, 320, .inr (.inl fw))), (b2, .inl (cI, 9, .inl fo))]) [0, 1, 5, 6, 7] rfl, hKN.warm hW, (hD.sub (ws' := [(x0, .inr (6, [.ref h4, .ref h3, .ref h2, .ref h1, .ref hB, .ref h5])), (h4, .inr (4, [.ref a1, .ref a2, .ref a3, .int (nI n), .int (nI sa), .int (nI sv)])), (h3, .inr (3, [.ref b1, .ref b2, .int (nI n), .int (nI c0), .int ry])), (b1, .inl (cJ, 320, .inr (.inl fw))), (b2, .inl (cI, 9, .inl fo))]) [0, 1, 5, 6, 7] (by decide) rfl).weaken (fun _ _ _ _ => trivial)⟩⟩ rfl rfl hl.1 rfl (lv_room (Nat.le_of_ble_eq_true rfl)) dL_law_341 ⟨(show (31 + 2 * gg) + 0 ≤ 1200000 by omega), (show (100218 + 39366 * gg) + 0 ≤ 5502250 by omega)⟩) hS hP hD (fun (u : Int32 × (Nat → Int64) × (Nat → Int32)) => [(x0, .inr (6, [.ref h4, .ref h3, .ref h2, .ref h1, .ref hB, .ref h5])), (h4, .inr (4, [.ref a1, .ref a2, .ref a3, .int (nI n), .int (nI sa), .int (nI sv)])), (a1, .inl (cI, 9, .inl fg)), (a2, .inl (cI, 9, .inl fb)), (a3, .inl (cI, 9, .inl fp)), (h3, .inr (3, [.ref b1, .ref b2, .int (nI n), .int u.1, .int ry])), (b1, .inl (cJ, 320, .inr (.inl u.2.1))), (b2, .inl (cI, 9, .inl u.2.2)), (h2, .inr (2, [.ref ra, .int (nI q)])), (ra, .inl (cI, 9, .inl qr)), (h1, .inr (1, [.ref h4, .ref h3, .ref h2, .ref p4, .ref p5, .ref p6, .int fr])), (p4, .inl (cI, 9, .inl fq)), (p5, .inl (cJ, len, .inr (.inl eb))), (p6, .inl (cI, len, .inl ew)), (hB, .inr (0, [.ref h4, .ref h3, .ref l3])), (l3, .inl (cI, 512, .inl lp)), (h5, .inr (5, [.ref lk1, .int (nI tc)])), (lk1, .inl (cI, 9, .inl fk)), (m0, .inr (7, [.int (nI n), .ref g1, .ref g2, .ref g3, .int (nI c0), .ref g4, .int ry, .ref g5, .int (nI q), .ref g6, .int (nI ml), .ref g7, .ref g8, .ref g9, .ref g10, .ref g11, .ref g12])), (g1, .inl (cI, 9, .inl vg)), (g2, .inl (cI, 9, .inl vb)), (g3, .inl (cI, 9, .inl vr)), (g4, .inl (cZ, 20480, .inl vs)), (g5, .inl (cI, 9, .inl vn)), (g6, .inl (cI, 9, .inl vo)), (g7, .inl (cI, 9, .inl vl)), (g8, .inl (cJ, 19683, .inr (.inl ve))), (g9, .inl (cI, 19683, .inl vx)), (g10, .inl (cI, 19683, .inl vw)), (g11, .inl (cI, 19683, .inl vy)), (g12, .inl (cI, 9, .inl th))]) [0, 1, 5, 6, 7] [2, 3, 4, 8, 9, 10, 11, 12, 13, 14, 15, 16, 17, 18, 19, 20, 21, 22, 23, 24, 25, 26, 27, 28, 29, 30] rfl rfl rfl (fun _ => rfl) (fun _ => rfl) rfl (fun _ => rfl) (fun _ => rfl) (m_cov rfl) (m_dis rfl) (fun r1 u1 H locs w1r hP hD hS => ?_)
  obtain ⟨u1_uc, u1_uw, u1_uo⟩ := u1
  have hP : va_P D vwCl [(x0, .inr (6, [.ref h4, .ref h3, .ref h2, .ref h1, .ref hB, .ref h5])), (h4, .inr (4, [.ref a1, .ref a2, .ref a3, .int (nI n), .int (nI sa), .int (nI sv)])), (a1, .inl (cI, 9, .inl fg)), (a2, .inl (cI, 9, .inl fb)), (a3, .inl (cI, 9, .inl fp)), (h3, .inr (3, [.ref b1, .ref b2, .int (nI n), .int u1_uc, .int ry])), (b1, .inl (cJ, 320, .inr (.inl u1_uw))), (b2, .inl (cI, 9, .inl u1_uo)), (h2, .inr (2, [.ref ra, .int (nI q)])), (ra, .inl (cI, 9, .inl qr)), (h1, .inr (1, [.ref h4, .ref h3, .ref h2, .ref p4, .ref p5, .ref p6, .int fr])), (p4, .inl (cI, 9, .inl fq)), (p5, .inl (cJ, len, .inr (.inl eb))), (p6, .inl (cI, len, .inl ew)), (hB, .inr (0, [.ref h4, .ref h3, .ref l3])), (l3, .inl (cI, 512, .inl lp)), (h5, .inr (5, [.ref lk1, .int (nI tc)])), (lk1, .inl (cI, 9, .inl fk)), (m0, .inr (7, [.int (nI n), .ref g1, .ref g2, .ref g3, .int (nI c0), .ref g4, .int ry, .ref g5, .int (nI q), .ref g6, .int (nI ml), .ref g7, .ref g8, .ref g9, .ref g10, .ref g11, .ref g12])), (g1, .inl (cI, 9, .inl vg)), (g2, .inl (cI, 9, .inl vb)), (g3, .inl (cI, 9, .inl vr)), (g4, .inl (cZ, 20480, .inl vs)), (g5, .inl (cI, 9, .inl vn)), (g6, .inl (cI, 9, .inl vo)), (g7, .inl (cI, 9, .inl vl)), (g8, .inl (cJ, 19683, .inr (.inl ve))), (g9, .inl (cI, 19683, .inl vx)), (g10, .inl (cI, 19683, .inl vw)), (g11, .inl (cI, 19683, .inl vy)), (g12, .inl (cI, 9, .inl th))] H := hP
  have hD : va_D (fun q : Nat => s.heap.size ≤ q) [(x0, .inr (6, [.ref h4, .ref h3, .ref h2, .ref h1, .ref hB, .ref h5])), (h4, .inr (4, [.ref a1, .ref a2, .ref a3, .int (nI n), .int (nI sa), .int (nI sv)])), (a1, .inl (cI, 9, .inl fg)), (a2, .inl (cI, 9, .inl fb)), (a3, .inl (cI, 9, .inl fp)), (h3, .inr (3, [.ref b1, .ref b2, .int (nI n), .int u1_uc, .int ry])), (b1, .inl (cJ, 320, .inr (.inl u1_uw))), (b2, .inl (cI, 9, .inl u1_uo)), (h2, .inr (2, [.ref ra, .int (nI q)])), (ra, .inl (cI, 9, .inl qr)), (h1, .inr (1, [.ref h4, .ref h3, .ref h2, .ref p4, .ref p5, .ref p6, .int fr])), (p4, .inl (cI, 9, .inl fq)), (p5, .inl (cJ, len, .inr (.inl eb))), (p6, .inl (cI, len, .inl ew)), (hB, .inr (0, [.ref h4, .ref h3, .ref l3])), (l3, .inl (cI, 512, .inl lp)), (h5, .inr (5, [.ref lk1, .int (nI tc)])), (lk1, .inl (cI, 9, .inl fk)), (m0, .inr (7, [.int (nI n), .ref g1, .ref g2, .ref g3, .int (nI c0), .ref g4, .int ry, .ref g5, .int (nI q), .ref g6, .int (nI ml), .ref g7, .ref g8, .ref g9, .ref g10, .ref g11, .ref g12])), (g1, .inl (cI, 9, .inl vg)), (g2, .inl (cI, 9, .inl vb)), (g3, .inl (cI, 9, .inl vr)), (g4, .inl (cZ, 20480, .inl vs)), (g5, .inl (cI, 9, .inl vn)), (g6, .inl (cI, 9, .inl vo)), (g7, .inl (cI, 9, .inl vl)), (g8, .inl (cJ, 19683, .inr (.inl ve))), (g9, .inl (cI, 19683, .inl vx)), (g10, .inl (cI, 19683, .inl vw)), (g11, .inl (cI, 19683, .inl vy)), (g12, .inl (cI, 9, .inl th))] := hD
  have w1 : ADX r1 c0 fw (0 ≤ v1.toInt ∧ v1.toInt < (2 ^ n : Nat) ∧ 0 ≤ ((v2.toInt64 <<< ((nI 32).toInt64 &&& 63)) ||| (v3.toInt64 &&& (lN 4294967295))).toInt ∧ 0 ≤ v4.toInt ∧ v4.toInt ≤ 3 ∧ 0 ≤ v5.toInt ∧ v5.toInt ≤ 100 ∧ c0 < 40) u1_uc u1_uw := w1r
  clear w1r
  rcases w1 with ⟨f1_0, hcX, f1_2⟩ | ⟨f1_0, hcX, f1_2, f1_3⟩
  · skip
    obtain rfl := (f1_0).symm
    obtain rfl := (f1_2).symm
    refine lv_pop hx hb dL_law_344 rfl ?_
    refine lv_aload_n hx hb dL_law_345 rfl (lv_at hl 1 rfl) ?_
    refine lv_aload_n hx hb dL_law_346 rfl (lv_at hl 3 rfl) ?_
    refine lv_iload_n hx hb dL_law_347 rfl (lv_at hl 0 rfl) ?_
    refine lv_iconst (v := nI 1) hx hb dL_law_348 (by decide) ?_
    refine lv_iadd hx hb dL_law_349 ?_
    refine cn_i (y := nI (i + 1)) (nI_add i 1) ?_
    refine va_sld hx hb hX hbl hbA hS (i := nI (i + 1)) (vp_in_nI (by omega) (by omega)) dL_law_350 ?_
    refine cn_i (y := v1) ((congrArg xs (nI_clamp (by omega))).trans hv1.symm) ?_
    refine lv_aload_n hx hb dL_law_351 rfl (lv_at hl 3 rfl) ?_
    refine lv_iload_n hx hb dL_law_352 rfl (lv_at hl 0 rfl) ?_
    refine lv_iconst (v := nI 2) hx hb dL_law_353 (by decide) ?_
    refine lv_iadd hx hb dL_law_354 ?_
    refine cn_i (y := nI (i + 2)) (nI_add i 2) ?_
    refine va_sld hx hb hX hbl hbA hS (i := nI (i + 2)) (vp_in_nI (by omega) (by omega)) dL_law_355 ?_
    refine cn_i (y := v2) ((congrArg xs (nI_clamp (by omega))).trans hv2.symm) ?_
    refine lv_i2l hx hb dL_law_356 rfl ?_
    refine lv_bipush (v := nI 32) hx hb dL_law_357 (by decide) ?_
    refine lv_lshl hx hb dL_law_359 rfl ?_
    refine lv_aload_n hx hb dL_law_360 rfl (lv_at hl 3 rfl) ?_
    refine lv_iload_n hx hb dL_law_361 rfl (lv_at hl 0 rfl) ?_
    refine lv_iconst (v := nI 3) hx hb dL_law_362 (by decide) ?_
    refine lv_iadd hx hb dL_law_363 ?_
    refine cn_i (y := nI (i + 3)) (nI_add i 3) ?_
    refine va_sld hx hb hX hbl hbA hS (i := nI (i + 3)) (vp_in_nI (by omega) (by omega)) dL_law_364 ?_
    refine cn_i (y := v3) ((congrArg xs (nI_clamp (by omega))).trans hv3.symm) ?_
    refine lv_i2l hx hb dL_law_365 rfl ?_
    refine lv_ldc2 (v := lN 4294967295) hx hb hown (hts (.constantLong RL 37 (lN 4294967295)) (by decide +kernel)) dL_law_366 ?_
    refine lv_land hx hb dL_law_369 ?_
    refine lv_lor hx hb dL_law_370 ?_
    refine lv_aload_n hx hb dL_law_371 rfl (lv_at hl 3 rfl) ?_
    refine lv_iload_n hx hb dL_law_372 rfl (lv_at hl 0 rfl) ?_
    refine lv_iconst (v := nI 4) hx hb dL_law_373 (by decide) ?_
    refine lv_iadd hx hb dL_law_374 ?_
    refine cn_i (y := nI (i + 4)) (nI_add i 4) ?_
    refine va_sld hx hb hX hbl hbA hS (i := nI (i + 4)) (vp_in_nI (by omega) (by omega)) dL_law_375 ?_
    refine cn_i (y := v4) ((congrArg xs (nI_clamp (by omega))).trans hv4.symm) ?_
    refine lv_aload_n hx hb dL_law_376 rfl (lv_at hl 3 rfl) ?_
    refine lv_iload_n hx hb dL_law_377 rfl (lv_at hl 0 rfl) ?_
    refine lv_iconst (v := nI 5) hx hb dL_law_378 (by decide) ?_
    refine lv_iadd hx hb dL_law_379 ?_
    refine cn_i (y := nI (i + 5)) (nI_add i 5) ?_
    refine va_sld hx hb hX hbl hbA hS (i := nI (i + 5)) (vp_in_nI (by omega) (by omega)) dL_law_380 ?_
    refine cn_i (y := v5) ((congrArg xs (nI_clamp (by omega))).trans hv5.symm) ?_
    refine mu2_i (n := 31) (wc := [(m0, .inr (7, [.int (nI n), .ref g1, .ref g2, .ref g3, .int (nI c0), .ref g4, .int ry, .ref g5, .int (nI q), .ref g6, .int (nI ml), .ref g7, .ref g8, .ref g9, .ref g10, .ref g11, .ref g12])), (g4, .inl (cZ, 20480, .inl vs))]) (wr := [(x0, .inr (6, [.ref h4, .ref h3, .ref h2, .ref h1, .ref hB, .ref h5])), (h4, .inr (4, [.ref a1, .ref a2, .ref a3, .int (nI n), .int (nI sa), .int (nI sv)])), (a1, .inl (cI, 9, .inl fg)), (a2, .inl (cI, 9, .inl fb)), (a3, .inl (cI, 9, .inl fp)), (h3, .inr (3, [.ref b1, .ref b2, .int (nI n), .int (nI (c0 + 1)), .int ry])), (b1, .inl (cJ, 320, .inr (.inl u1_uw))), (b2, .inl (cI, 9, .inl u1_uo)), (h2, .inr (2, [.ref ra, .int (nI q)])), (ra, .inl (cI, 9, .inl qr)), (h1, .inr (1, [.ref h4, .ref h3, .ref h2, .ref p4, .ref p5, .ref p6, .int fr])), (p4, .inl (cI, 9, .inl fq)), (p5, .inl (cJ, len, .inr (.inl eb))), (p6, .inl (cI, len, .inl ew)), (hB, .inr (0, [.ref h4, .ref h3, .ref l3])), (l3, .inl (cI, 512, .inl lp)), (h5, .inr (5, [.ref lk1, .int (nI tc)])), (lk1, .inl (cI, 9, .inl fk)), (g1, .inl (cI, 9, .inl vg)), (g2, .inl (cI, 9, .inl vb)), (g3, .inl (cI, 9, .inl vr)), (g5, .inl (cI, 9, .inl vn)), (g6, .inl (cI, 9, .inl vo)), (g7, .inl (cI, 9, .inl vl)), (g8, .inl (cJ, 19683, .inr (.inl ve))), (g9, .inl (cI, 19683, .inl vx)), (g10, .inl (cI, 19683, .inl vw)), (g11, .inl (cI, 19683, .inl vy)), (g12, .inl (cI, 9, .inl th))]) (as0 := [x0, h4, a1, a2, a3, h3, b1, b2, h2, ra, h1, p4, p5, p6, hB, l3, h5, lk1, m0, g1, g2, g3, g4, g5, g6, g7, g8, g9, g10, g11, g12]) (va_runV (As := [.int v1, .long ((v2.toInt64 <<< ((nI 32).toInt64 &&& 63)) ||| (v3.toInt64 &&& (lN 4294967295))), .int v4, .int v5]) (rest := []) ⟨hx, hb, hml, hown, hts⟩ (c_X7_some_g l D cI cJ cZ m0 g1 g2 g3 g4 g5 g6 g7 g8 g9 g10 g11 g12 n c0 ry (nI q) (nI ml) v1 v4 v5 ((v2.toInt64 <<< ((nI 32).toInt64 &&& 63)) ||| (v3.toInt64 &&& (lN 4294967295))) vs (by first | assumption | omega) (by first | assumption | omega) (by first | assumption | omega) (by first | assumption | omega)) (cwV 4 hts gL_law_X7_some rfl rfl rfl (by decide +kernel) ⟨Nat.le_of_ble_eq_true rfl, Nat.le_of_ble_eq_true rfl⟩) ⟨pm_blind, va_recv hK hP (ci := 7) (q0 := 18) rfl rfl, fun U hU hW => ⟨rfl, by rw [hU]; exact hP.sub (ws' := [(m0, .inr (7, [.int (nI n), .ref g1, .ref g2, .ref g3, .int (nI c0), .ref g4, .int ry, .ref g5, .int (nI q), .ref g6, .int (nI ml), .ref g7, .ref g8, .ref g9, .ref g10, .ref g11, .ref g12])), (g4, .inl (cZ, 20480, .inl vs))]) [18, 22] rfl, hKN.warm hW, (hD.sub (ws' := [(m0, .inr (7, [.int (nI n), .ref g1, .ref g2, .ref g3, .int (nI c0), .ref g4, .int ry, .ref g5, .int (nI q), .ref g6, .int (nI ml), .ref g7, .ref g8, .ref g9, .ref g10, .ref g11, .ref g12])), (g4, .inl (cZ, 20480, .inl vs))]) [18, 22] (by decide) rfl).weaken (fun _ _ _ _ => trivial)⟩⟩ rfl rfl hl.1 rfl (lv_room (Nat.le_of_ble_eq_true rfl)) dL_law_381 ⟨(show (31 + 2 * gg) + 0 ≤ 1200000 by omega), (show (100218 + 39366 * gg) + 0 ≤ 5502250 by omega)⟩) hS hP hD (fun (u : Int32 × (Nat → Int32)) => [(x0, .inr (6, [.ref h4, .ref h3, .ref h2, .ref h1, .ref hB, .ref h5])), (h4, .inr (4, [.ref a1, .ref a2, .ref a3, .int (nI n), .int (nI sa), .int (nI sv)])), (a1, .inl (cI, 9, .inl fg)), (a2, .inl (cI, 9, .inl fb)), (a3, .inl (cI, 9, .inl fp)), (h3, .inr (3, [.ref b1, .ref b2, .int (nI n), .int (nI (c0 + 1)), .int ry])), (b1, .inl (cJ, 320, .inr (.inl u1_uw))), (b2, .inl (cI, 9, .inl u1_uo)), (h2, .inr (2, [.ref ra, .int (nI q)])), (ra, .inl (cI, 9, .inl qr)), (h1, .inr (1, [.ref h4, .ref h3, .ref h2, .ref p4, .ref p5, .ref p6, .int fr])), (p4, .inl (cI, 9, .inl fq)), (p5, .inl (cJ, len, .inr (.inl eb))), (p6, .inl (cI, len, .inl ew)), (hB, .inr (0, [.ref h4, .ref h3, .ref l3])), (l3, .inl (cI, 512, .inl lp)), (h5, .inr (5, [.ref lk1, .int (nI tc)])), (lk1, .inl (cI, 9, .inl fk)), (m0, .inr (7, [.int (nI n), .ref g1, .ref g2, .ref g3, .int u.1, .ref g4, .int ry, .ref g5, .int (nI q), .ref g6, .int (nI ml), .ref g7, .ref g8, .ref g9, .ref g10, .ref g11, .ref g12])), (g1, .inl (cI, 9, .inl vg)), (g2, .inl (cI, 9, .inl vb)), (g3, .inl (cI, 9, .inl vr)), (g4, .inl (cZ, 20480, .inl u.2)), (g5, .inl (cI, 9, .inl vn)), (g6, .inl (cI, 9, .inl vo)), (g7, .inl (cI, 9, .inl vl)), (g8, .inl (cJ, 19683, .inr (.inl ve))), (g9, .inl (cI, 19683, .inl vx)), (g10, .inl (cI, 19683, .inl vw)), (g11, .inl (cI, 19683, .inl vy)), (g12, .inl (cI, 9, .inl th))]) [18, 22] [0, 1, 2, 3, 4, 5, 6, 7, 8, 9, 10, 11, 12, 13, 14, 15, 16, 17, 19, 20, 21, 23, 24, 25, 26, 27, 28, 29, 30] rfl rfl rfl (fun _ => rfl) (fun _ => rfl) rfl (fun _ => rfl) (fun _ => rfl) (m_cov rfl) (m_dis rfl) (fun r2 u2 H locs w2r hP hD hS => ?_)
    obtain ⟨u2_uc, u2_us⟩ := u2
    have hP : va_P D vwCl [(x0, .inr (6, [.ref h4, .ref h3, .ref h2, .ref h1, .ref hB, .ref h5])), (h4, .inr (4, [.ref a1, .ref a2, .ref a3, .int (nI n), .int (nI sa), .int (nI sv)])), (a1, .inl (cI, 9, .inl fg)), (a2, .inl (cI, 9, .inl fb)), (a3, .inl (cI, 9, .inl fp)), (h3, .inr (3, [.ref b1, .ref b2, .int (nI n), .int (nI (c0 + 1)), .int ry])), (b1, .inl (cJ, 320, .inr (.inl u1_uw))), (b2, .inl (cI, 9, .inl u1_uo)), (h2, .inr (2, [.ref ra, .int (nI q)])), (ra, .inl (cI, 9, .inl qr)), (h1, .inr (1, [.ref h4, .ref h3, .ref h2, .ref p4, .ref p5, .ref p6, .int fr])), (p4, .inl (cI, 9, .inl fq)), (p5, .inl (cJ, len, .inr (.inl eb))), (p6, .inl (cI, len, .inl ew)), (hB, .inr (0, [.ref h4, .ref h3, .ref l3])), (l3, .inl (cI, 512, .inl lp)), (h5, .inr (5, [.ref lk1, .int (nI tc)])), (lk1, .inl (cI, 9, .inl fk)), (m0, .inr (7, [.int (nI n), .ref g1, .ref g2, .ref g3, .int u2_uc, .ref g4, .int ry, .ref g5, .int (nI q), .ref g6, .int (nI ml), .ref g7, .ref g8, .ref g9, .ref g10, .ref g11, .ref g12])), (g1, .inl (cI, 9, .inl vg)), (g2, .inl (cI, 9, .inl vb)), (g3, .inl (cI, 9, .inl vr)), (g4, .inl (cZ, 20480, .inl u2_us)), (g5, .inl (cI, 9, .inl vn)), (g6, .inl (cI, 9, .inl vo)), (g7, .inl (cI, 9, .inl vl)), (g8, .inl (cJ, 19683, .inr (.inl ve))), (g9, .inl (cI, 19683, .inl vx)), (g10, .inl (cI, 19683, .inl vw)), (g11, .inl (cI, 19683, .inl vy)), (g12, .inl (cI, 9, .inl th))] H := hP
    have hD : va_D (fun q : Nat => s.heap.size ≤ q) [(x0, .inr (6, [.ref h4, .ref h3, .ref h2, .ref h1, .ref hB, .ref h5])), (h4, .inr (4, [.ref a1, .ref a2, .ref a3, .int (nI n), .int (nI sa), .int (nI sv)])), (a1, .inl (cI, 9, .inl fg)), (a2, .inl (cI, 9, .inl fb)), (a3, .inl (cI, 9, .inl fp)), (h3, .inr (3, [.ref b1, .ref b2, .int (nI n), .int (nI (c0 + 1)), .int ry])), (b1, .inl (cJ, 320, .inr (.inl u1_uw))), (b2, .inl (cI, 9, .inl u1_uo)), (h2, .inr (2, [.ref ra, .int (nI q)])), (ra, .inl (cI, 9, .inl qr)), (h1, .inr (1, [.ref h4, .ref h3, .ref h2, .ref p4, .ref p5, .ref p6, .int fr])), (p4, .inl (cI, 9, .inl fq)), (p5, .inl (cJ, len, .inr (.inl eb))), (p6, .inl (cI, len, .inl ew)), (hB, .inr (0, [.ref h4, .ref h3, .ref l3])), (l3, .inl (cI, 512, .inl lp)), (h5, .inr (5, [.ref lk1, .int (nI tc)])), (lk1, .inl (cI, 9, .inl fk)), (m0, .inr (7, [.int (nI n), .ref g1, .ref g2, .ref g3, .int u2_uc, .ref g4, .int ry, .ref g5, .int (nI q), .ref g6, .int (nI ml), .ref g7, .ref g8, .ref g9, .ref g10, .ref g11, .ref g12])), (g1, .inl (cI, 9, .inl vg)), (g2, .inl (cI, 9, .inl vb)), (g3, .inl (cI, 9, .inl vr)), (g4, .inl (cZ, 20480, .inl u2_us)), (g5, .inl (cI, 9, .inl vn)), (g6, .inl (cI, 9, .inl vo)), (g7, .inl (cI, 9, .inl vl)), (g8, .inl (cJ, 19683, .inr (.inl ve))), (g9, .inl (cI, 19683, .inl vx)), (g10, .inl (cI, 19683, .inl vw)), (g11, .inl (cI, 19683, .inl vy)), (g12, .inl (cI, 9, .inl th))] := hD
    have w2 : ADD r2 c0 vs (0 ≤ v1.toInt ∧ v1.toInt < (2 ^ n : Nat) ∧ 0 ≤ ((v2.toInt64 <<< ((nI 32).toInt64 &&& 63)) ||| (v3.toInt64 &&& (lN 4294967295))).toInt ∧ 0 ≤ v4.toInt ∧ v4.toInt ≤ 3 ∧ 0 ≤ v5.toInt ∧ v5.toInt ≤ 100 ∧ c0 < 40) u2_uc u2_us := w2r
    clear w2r
    rcases w2 with ⟨f2_0, hcM, f2_2, hT9⟩ | ⟨f2_0, hcM, f2_2, f2_3⟩
    · skip
      obtain rfl := (f2_0).symm
      obtain rfl := (f2_2).symm
      refine lv_pop hx hb dL_law_384 rfl ?_
      refine lv_goto (tgt := 881) hx hb dL_law_385 (by decide) ?_
      exact law_tail hi hL C0 D cI cJ cZ x0 h4 a1 a2 a3 h3 b1 b2 h2 ra h1 p4 hB l3 h5 lk1 m0 g1 g2 g3 g4 g5 g6 g7 g8 g9 g10 g11 g12 ih p5 p6 n sa sv (c0 + 1) q len gg tc ml ry fr fg fb fp u1_uw u1_uo qr fq eb ew lp fk vg vb vr u2_us vn vo vl ve vx vw vy th _ _ _ (hI.add (by omega) hT9) hP hD hS (lv_sub hl [0, 1, 2, 3] rfl)
    · exact absurd hcX hcM
  · skip
    obtain rfl := (f1_0).symm
    obtain rfl := (f1_2).symm
    obtain rfl := (f1_3).symm
    refine lv_pop hx hb dL_law_344 rfl ?_
    refine lv_aload_n hx hb dL_law_345 rfl (lv_at hl 1 rfl) ?_
    refine lv_aload_n hx hb dL_law_346 rfl (lv_at hl 3 rfl) ?_
    refine lv_iload_n hx hb dL_law_347 rfl (lv_at hl 0 rfl) ?_
    refine lv_iconst (v := nI 1) hx hb dL_law_348 (by decide) ?_
    refine lv_iadd hx hb dL_law_349 ?_
    refine cn_i (y := nI (i + 1)) (nI_add i 1) ?_
    refine va_sld hx hb hX hbl hbA hS (i := nI (i + 1)) (vp_in_nI (by omega) (by omega)) dL_law_350 ?_
    refine cn_i (y := v1) ((congrArg xs (nI_clamp (by omega))).trans hv1.symm) ?_
    refine lv_aload_n hx hb dL_law_351 rfl (lv_at hl 3 rfl) ?_
    refine lv_iload_n hx hb dL_law_352 rfl (lv_at hl 0 rfl) ?_
    refine lv_iconst (v := nI 2) hx hb dL_law_353 (by decide) ?_
    refine lv_iadd hx hb dL_law_354 ?_
    refine cn_i (y := nI (i + 2)) (nI_add i 2) ?_
    refine va_sld hx hb hX hbl hbA hS (i := nI (i + 2)) (vp_in_nI (by omega) (by omega)) dL_law_355 ?_
    refine cn_i (y := v2) ((congrArg xs (nI_clamp (by omega))).trans hv2.symm) ?_
    refine lv_i2l hx hb dL_law_356 rfl ?_
    refine lv_bipush (v := nI 32) hx hb dL_law_357 (by decide) ?_
    refine lv_lshl hx hb dL_law_359 rfl ?_
    refine lv_aload_n hx hb dL_law_360 rfl (lv_at hl 3 rfl) ?_
    refine lv_iload_n hx hb dL_law_361 rfl (lv_at hl 0 rfl) ?_
    refine lv_iconst (v := nI 3) hx hb dL_law_362 (by decide) ?_
    refine lv_iadd hx hb dL_law_363 ?_
    refine cn_i (y := nI (i + 3)) (nI_add i 3) ?_
    refine va_sld hx hb hX hbl hbA hS (i := nI (i + 3)) (vp_in_nI (by omega) (by omega)) dL_law_364 ?_
    refine cn_i (y := v3) ((congrArg xs (nI_clamp (by omega))).trans hv3.symm) ?_
    refine lv_i2l hx hb dL_law_365 rfl ?_
    refine lv_ldc2 (v := lN 4294967295) hx hb hown (hts (.constantLong RL 37 (lN 4294967295)) (by decide +kernel)) dL_law_366 ?_
    refine lv_land hx hb dL_law_369 ?_
    refine lv_lor hx hb dL_law_370 ?_
    refine lv_aload_n hx hb dL_law_371 rfl (lv_at hl 3 rfl) ?_
    refine lv_iload_n hx hb dL_law_372 rfl (lv_at hl 0 rfl) ?_
    refine lv_iconst (v := nI 4) hx hb dL_law_373 (by decide) ?_
    refine lv_iadd hx hb dL_law_374 ?_
    refine cn_i (y := nI (i + 4)) (nI_add i 4) ?_
    refine va_sld hx hb hX hbl hbA hS (i := nI (i + 4)) (vp_in_nI (by omega) (by omega)) dL_law_375 ?_
    refine cn_i (y := v4) ((congrArg xs (nI_clamp (by omega))).trans hv4.symm) ?_
    refine lv_aload_n hx hb dL_law_376 rfl (lv_at hl 3 rfl) ?_
    refine lv_iload_n hx hb dL_law_377 rfl (lv_at hl 0 rfl) ?_
    refine lv_iconst (v := nI 5) hx hb dL_law_378 (by decide) ?_
    refine lv_iadd hx hb dL_law_379 ?_
    refine cn_i (y := nI (i + 5)) (nI_add i 5) ?_
    refine va_sld hx hb hX hbl hbA hS (i := nI (i + 5)) (vp_in_nI (by omega) (by omega)) dL_law_380 ?_
    refine cn_i (y := v5) ((congrArg xs (nI_clamp (by omega))).trans hv5.symm) ?_
    refine mu2_i (n := 31) (wc := [(m0, .inr (7, [.int (nI n), .ref g1, .ref g2, .ref g3, .int (nI c0), .ref g4, .int ry, .ref g5, .int (nI q), .ref g6, .int (nI ml), .ref g7, .ref g8, .ref g9, .ref g10, .ref g11, .ref g12])), (g4, .inl (cZ, 20480, .inl vs))]) (wr := [(x0, .inr (6, [.ref h4, .ref h3, .ref h2, .ref h1, .ref hB, .ref h5])), (h4, .inr (4, [.ref a1, .ref a2, .ref a3, .int (nI n), .int (nI sa), .int (nI sv)])), (a1, .inl (cI, 9, .inl fg)), (a2, .inl (cI, 9, .inl fb)), (a3, .inl (cI, 9, .inl fp)), (h3, .inr (3, [.ref b1, .ref b2, .int (nI n), .int (nI c0), .int ry])), (b1, .inl (cJ, 320, .inr (.inl fw))), (b2, .inl (cI, 9, .inl u1_uo)), (h2, .inr (2, [.ref ra, .int (nI q)])), (ra, .inl (cI, 9, .inl qr)), (h1, .inr (1, [.ref h4, .ref h3, .ref h2, .ref p4, .ref p5, .ref p6, .int fr])), (p4, .inl (cI, 9, .inl fq)), (p5, .inl (cJ, len, .inr (.inl eb))), (p6, .inl (cI, len, .inl ew)), (hB, .inr (0, [.ref h4, .ref h3, .ref l3])), (l3, .inl (cI, 512, .inl lp)), (h5, .inr (5, [.ref lk1, .int (nI tc)])), (lk1, .inl (cI, 9, .inl fk)), (g1, .inl (cI, 9, .inl vg)), (g2, .inl (cI, 9, .inl vb)), (g3, .inl (cI, 9, .inl vr)), (g5, .inl (cI, 9, .inl vn)), (g6, .inl (cI, 9, .inl vo)), (g7, .inl (cI, 9, .inl vl)), (g8, .inl (cJ, 19683, .inr (.inl ve))), (g9, .inl (cI, 19683, .inl vx)), (g10, .inl (cI, 19683, .inl vw)), (g11, .inl (cI, 19683, .inl vy)), (g12, .inl (cI, 9, .inl th))]) (as0 := [x0, h4, a1, a2, a3, h3, b1, b2, h2, ra, h1, p4, p5, p6, hB, l3, h5, lk1, m0, g1, g2, g3, g4, g5, g6, g7, g8, g9, g10, g11, g12]) (va_runV (As := [.int v1, .long ((v2.toInt64 <<< ((nI 32).toInt64 &&& 63)) ||| (v3.toInt64 &&& (lN 4294967295))), .int v4, .int v5]) (rest := []) ⟨hx, hb, hml, hown, hts⟩ (c_X7_some_g l D cI cJ cZ m0 g1 g2 g3 g4 g5 g6 g7 g8 g9 g10 g11 g12 n c0 ry (nI q) (nI ml) v1 v4 v5 ((v2.toInt64 <<< ((nI 32).toInt64 &&& 63)) ||| (v3.toInt64 &&& (lN 4294967295))) vs (by first | assumption | omega) (by first | assumption | omega) (by first | assumption | omega) (by first | assumption | omega)) (cwV 4 hts gL_law_X7_some rfl rfl rfl (by decide +kernel) ⟨Nat.le_of_ble_eq_true rfl, Nat.le_of_ble_eq_true rfl⟩) ⟨pm_blind, va_recv hK hP (ci := 7) (q0 := 18) rfl rfl, fun U hU hW => ⟨rfl, by rw [hU]; exact hP.sub (ws' := [(m0, .inr (7, [.int (nI n), .ref g1, .ref g2, .ref g3, .int (nI c0), .ref g4, .int ry, .ref g5, .int (nI q), .ref g6, .int (nI ml), .ref g7, .ref g8, .ref g9, .ref g10, .ref g11, .ref g12])), (g4, .inl (cZ, 20480, .inl vs))]) [18, 22] rfl, hKN.warm hW, (hD.sub (ws' := [(m0, .inr (7, [.int (nI n), .ref g1, .ref g2, .ref g3, .int (nI c0), .ref g4, .int ry, .ref g5, .int (nI q), .ref g6, .int (nI ml), .ref g7, .ref g8, .ref g9, .ref g10, .ref g11, .ref g12])), (g4, .inl (cZ, 20480, .inl vs))]) [18, 22] (by decide) rfl).weaken (fun _ _ _ _ => trivial)⟩⟩ rfl rfl hl.1 rfl (lv_room (Nat.le_of_ble_eq_true rfl)) dL_law_381 ⟨(show (31 + 2 * gg) + 0 ≤ 1200000 by omega), (show (100218 + 39366 * gg) + 0 ≤ 5502250 by omega)⟩) hS hP hD (fun (u : Int32 × (Nat → Int32)) => [(x0, .inr (6, [.ref h4, .ref h3, .ref h2, .ref h1, .ref hB, .ref h5])), (h4, .inr (4, [.ref a1, .ref a2, .ref a3, .int (nI n), .int (nI sa), .int (nI sv)])), (a1, .inl (cI, 9, .inl fg)), (a2, .inl (cI, 9, .inl fb)), (a3, .inl (cI, 9, .inl fp)), (h3, .inr (3, [.ref b1, .ref b2, .int (nI n), .int (nI c0), .int ry])), (b1, .inl (cJ, 320, .inr (.inl fw))), (b2, .inl (cI, 9, .inl u1_uo)), (h2, .inr (2, [.ref ra, .int (nI q)])), (ra, .inl (cI, 9, .inl qr)), (h1, .inr (1, [.ref h4, .ref h3, .ref h2, .ref p4, .ref p5, .ref p6, .int fr])), (p4, .inl (cI, 9, .inl fq)), (p5, .inl (cJ, len, .inr (.inl eb))), (p6, .inl (cI, len, .inl ew)), (hB, .inr (0, [.ref h4, .ref h3, .ref l3])), (l3, .inl (cI, 512, .inl lp)), (h5, .inr (5, [.ref lk1, .int (nI tc)])), (lk1, .inl (cI, 9, .inl fk)), (m0, .inr (7, [.int (nI n), .ref g1, .ref g2, .ref g3, .int u.1, .ref g4, .int ry, .ref g5, .int (nI q), .ref g6, .int (nI ml), .ref g7, .ref g8, .ref g9, .ref g10, .ref g11, .ref g12])), (g1, .inl (cI, 9, .inl vg)), (g2, .inl (cI, 9, .inl vb)), (g3, .inl (cI, 9, .inl vr)), (g4, .inl (cZ, 20480, .inl u.2)), (g5, .inl (cI, 9, .inl vn)), (g6, .inl (cI, 9, .inl vo)), (g7, .inl (cI, 9, .inl vl)), (g8, .inl (cJ, 19683, .inr (.inl ve))), (g9, .inl (cI, 19683, .inl vx)), (g10, .inl (cI, 19683, .inl vw)), (g11, .inl (cI, 19683, .inl vy)), (g12, .inl (cI, 9, .inl th))]) [18, 22] [0, 1, 2, 3, 4, 5, 6, 7, 8, 9, 10, 11, 12, 13, 14, 15, 16, 17, 19, 20, 21, 23, 24, 25, 26, 27, 28, 29, 30] rfl rfl rfl (fun _ => rfl) (fun _ => rfl) rfl (fun _ => rfl) (fun _ => rfl) (m_cov rfl) (m_dis rfl) (fun r3 u3 H locs w3r hP hD hS => ?_)
    obtain ⟨u3_uc, u3_us⟩ := u3
    have hP : va_P D vwCl [(x0, .inr (6, [.ref h4, .ref h3, .ref h2, .ref h1, .ref hB, .ref h5])), (h4, .inr (4, [.ref a1, .ref a2, .ref a3, .int (nI n), .int (nI sa), .int (nI sv)])), (a1, .inl (cI, 9, .inl fg)), (a2, .inl (cI, 9, .inl fb)), (a3, .inl (cI, 9, .inl fp)), (h3, .inr (3, [.ref b1, .ref b2, .int (nI n), .int (nI c0), .int ry])), (b1, .inl (cJ, 320, .inr (.inl fw))), (b2, .inl (cI, 9, .inl u1_uo)), (h2, .inr (2, [.ref ra, .int (nI q)])), (ra, .inl (cI, 9, .inl qr)), (h1, .inr (1, [.ref h4, .ref h3, .ref h2, .ref p4, .ref p5, .ref p6, .int fr])), (p4, .inl (cI, 9, .inl fq)), (p5, .inl (cJ, len, .inr (.inl eb))), (p6, .inl (cI, len, .inl ew)), (hB, .inr (0, [.ref h4, .ref h3, .ref l3])), (l3, .inl (cI, 512, .inl lp)), (h5, .inr (5, [.ref lk1, .int (nI tc)])), (lk1, .inl (cI, 9, .inl fk)), (m0, .inr (7, [.int (nI n), .ref g1, .ref g2, .ref g3, .int u3_uc, .ref g4, .int ry, .ref g5, .int (nI q), .ref g6, .int (nI ml), .ref g7, .ref g8, .ref g9, .ref g10, .ref g11, .ref g12])), (g1, .inl (cI, 9, .inl vg)), (g2, .inl (cI, 9, .inl vb)), (g3, .inl (cI, 9, .inl vr)), (g4, .inl (cZ, 20480, .inl u3_us)), (g5, .inl (cI, 9, .inl vn)), (g6, .inl (cI, 9, .inl vo)), (g7, .inl (cI, 9, .inl vl)), (g8, .inl (cJ, 19683, .inr (.inl ve))), (g9, .inl (cI, 19683, .inl vx)), (g10, .inl (cI, 19683, .inl vw)), (g11, .inl (cI, 19683, .inl vy)), (g12, .inl (cI, 9, .inl th))] H := hP
    have hD : va_D (fun q : Nat => s.heap.size ≤ q) [(x0, .inr (6, [.ref h4, .ref h3, .ref h2, .ref h1, .ref hB, .ref h5])), (h4, .inr (4, [.ref a1, .ref a2, .ref a3, .int (nI n), .int (nI sa), .int (nI sv)])), (a1, .inl (cI, 9, .inl fg)), (a2, .inl (cI, 9, .inl fb)), (a3, .inl (cI, 9, .inl fp)), (h3, .inr (3, [.ref b1, .ref b2, .int (nI n), .int (nI c0), .int ry])), (b1, .inl (cJ, 320, .inr (.inl fw))), (b2, .inl (cI, 9, .inl u1_uo)), (h2, .inr (2, [.ref ra, .int (nI q)])), (ra, .inl (cI, 9, .inl qr)), (h1, .inr (1, [.ref h4, .ref h3, .ref h2, .ref p4, .ref p5, .ref p6, .int fr])), (p4, .inl (cI, 9, .inl fq)), (p5, .inl (cJ, len, .inr (.inl eb))), (p6, .inl (cI, len, .inl ew)), (hB, .inr (0, [.ref h4, .ref h3, .ref l3])), (l3, .inl (cI, 512, .inl lp)), (h5, .inr (5, [.ref lk1, .int (nI tc)])), (lk1, .inl (cI, 9, .inl fk)), (m0, .inr (7, [.int (nI n), .ref g1, .ref g2, .ref g3, .int u3_uc, .ref g4, .int ry, .ref g5, .int (nI q), .ref g6, .int (nI ml), .ref g7, .ref g8, .ref g9, .ref g10, .ref g11, .ref g12])), (g1, .inl (cI, 9, .inl vg)), (g2, .inl (cI, 9, .inl vb)), (g3, .inl (cI, 9, .inl vr)), (g4, .inl (cZ, 20480, .inl u3_us)), (g5, .inl (cI, 9, .inl vn)), (g6, .inl (cI, 9, .inl vo)), (g7, .inl (cI, 9, .inl vl)), (g8, .inl (cJ, 19683, .inr (.inl ve))), (g9, .inl (cI, 19683, .inl vx)), (g10, .inl (cI, 19683, .inl vw)), (g11, .inl (cI, 19683, .inl vy)), (g12, .inl (cI, 9, .inl th))] := hD
    have w3 : ADD r3 c0 vs (0 ≤ v1.toInt ∧ v1.toInt < (2 ^ n : Nat) ∧ 0 ≤ ((v2.toInt64 <<< ((nI 32).toInt64 &&& 63)) ||| (v3.toInt64 &&& (lN 4294967295))).toInt ∧ 0 ≤ v4.toInt ∧ v4.toInt ≤ 3 ∧ 0 ≤ v5.toInt ∧ v5.toInt ≤ 100 ∧ c0 < 40) u3_uc u3_us := w3r
    clear w3r
    rcases w3 with ⟨f3_0, hcM, f3_2, hT9⟩ | ⟨f3_0, hcM, f3_2, f3_3⟩
    · exact absurd hcM hcX
    · skip
      obtain rfl := (f3_0).symm
      obtain rfl := (f3_2).symm
      obtain rfl := (f3_3).symm
      refine lv_pop hx hb dL_law_384 rfl ?_
      refine lv_goto (tgt := 881) hx hb dL_law_385 (by decide) ?_
      exact law_tail hi hL C0 D cI cJ cZ x0 h4 a1 a2 a3 h3 b1 b2 h2 ra h1 p4 hB l3 h5 lk1 m0 g1 g2 g3 g4 g5 g6 g7 g8 g9 g10 g11 g12 ih p5 p6 n sa sv c0 q len gg tc ml ry fr fg fb fp fw u1_uo qr fq eb ew lp fk vg vb vr vs vn vo vl ve vx vw vy th _ _ _ hI hP hD hS (lv_sub hl [0, 1, 2, 3] rfl)
