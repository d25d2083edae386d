set_option maxHeartbeats 8000000 in
set_option maxRecDepth 100000 in
theorem law_loop {p : Program} {l : Launch} {e : Env} {s : State} {m : MethodId} {below : List Frame} {meth : Method} {c : Code} {b L : Nat} {xs : Nat → Int32} (hL : L ≤ 3072) (C0 : lw_At p s m meth c b L xs) (D : va_G) (cI cJ cZ : ClassId) (x0 h4 a1 a2 a3 h3 b1 b2 h2 ra h1 p4 hB l3 h5 lk1 m0 g1 g2 g3 g4 g5 g6 g7 g8 g9 g10 g11 g12 : Nat) (hKN : KN D cI cJ cZ s) (z3 t3 : Nat) (hT0 : T3 z3 t3 s s.heap) : ∀ (fu i : Nat), (i ≤ L ∧ L < i + fu) → LAt p l e s m below meth c b D cI cJ cZ x0 h4 a1 a2 a3 h3 b1 b2 h2 ra h1 p4 hB l3 h5 lk1 m0 g1 g2 g3 g4 g5 g6 g7 g8 g9 g10 g11 g12 i := by
  obtain ⟨hx, hb, hr, hml, hown, hts0, hX, hbl, hlocks, hgv⟩ := id C0
  have hts : ∀ w ∈ wsL_law, w.before #[Value.ref b] s = true := fun w h => hts0 w (wsL_law_in w h)
  have hown : s.vm.findClass RL = some m.cls := hown
  have hA : ∀ q : Nat, s.heap.size ≤ q → (fun q : Nat => s.heap.size ≤ q) q := fun _ h => h
  have hbA : ¬ (fun q : Nat => s.heap.size ≤ q) b := Nat.not_le.mpr hbl
  intro fu
  induction fu with
  | zero => intro i h; exact absurd h (by omega)
  | succ fu ih0 =>
    intro i hh
    unfold LAt
    intro p5 p6 n sa sv c0 q len gg tc ml ry fr fg fb fp fw fo qr fq eb ew lp fk vg vb vr vs vn vo vl ve vx vw vy th H locs ls hI hP hD hS hl
    have hgg : gg ≤ 9 := hI.1.2.2.2.2.2.2.2.2
    refine lv_iload_n hx hb dL_law_18 rfl (lv_at hl 0 rfl) ?_
    refine lv_aload_n hx hb dL_law_19 rfl (lv_at hl 3 rfl) ?_
    refine va_slen hx hb hX hbl hbA hS dL_law_20 ?_
    refine cn_i (y := nI L) rfl ?_
    refine lv_bipush (v := nI 6) hx hb dL_law_21 (by decide) ?_
    refine lv_isub hx hb dL_law_23 ?_
    refine lv_icmp_gt (tgt := 887) hx hb dL_law_24 (by decide) (fun c1 => ?_) (fun c1 => ?_)
    · exact law_exit (i := i) C0 (by omega) (by omega) _ _ _ hS
    have hi : i + 6 ≤ L := by
      rw [i_lt, pk_sub_toInt (a := L) (b := 6) (by omega) (by omega), nI_toInt (n := i) (by omega)] at c1
      omega
    have ih : LAt p l e s m below meth c b D cI cJ cZ x0 h4 a1 a2 a3 h3 b1 b2 h2 ra h1 p4 hB l3 h5 lk1 m0 g1 g2 g3 g4 g5 g6 g7 g8 g9 g10 g11 g12 (i + 6) := ih0 (i + 6) ⟨hi, by omega⟩
    refine lv_aload_n hx hb dL_law_27 rfl (lv_at hl 3 rfl) ?_
    refine lv_iload_n hx hb dL_law_28 rfl (lv_at hl 0 rfl) ?_
    refine va_sld hx hb hX hbl hbA hS (i := nI i) (vp_in_nI (by omega) (by omega)) dL_law_29 ?_
    refine lv_bipush (v := nI 31) hx hb dL_law_30 (by decide) ?_
    refine lv_iand hx hb dL_law_32 ?_
    refine lv_topi (fun x9 ex9 => ?_)
    by_cases c2 : x9.toInt < 0 ∨ 22 < x9.toInt
    · refine lv_tableOut (tgt := 881) hx hb dL_law_33 c2 (by decide) ?_
      exact law_tail hi hL C0 D cI cJ cZ x0 h4 a1 a2 a3 h3 b1 b2 h2 ra h1 p4 hB l3 h5 lk1 m0 g1 g2 g3 g4 g5 g6 g7 g8 g9 g10 g11 g12 ih p5 p6 n sa sv c0 q len gg tc ml ry fr fg fb fp fw fo qr fq eb ew lp fk vg vb vr vs vn vo vl ve vx vw vy th _ _ _ hI hP hD hS hl
    have h3 := m_sw22 c2
    rcases h3 with e3 | e3 | e3 | e3 | e3 | e3 | e3 | e3 | e3 | e3 | e3 | e3 | e3 | e3 | e3 | e3 | e3 | e3 | e3 | e3 | e3 | e3 | e3
    · refine cn_i (y := nI 0) e3 ?_
      refine lv_tableIn (tgt := 140) (off := 107) hx hb dL_law_33 (by decide) (by decide) (by decide) (by decide) ?_
      exact law_c0 hi hL C0 D cI cJ cZ x0 h4 a1 a2 a3 h3 b1 b2 h2 ra h1 p4 hB l3 h5 lk1 m0 g1 g2 g3 g4 g5 g6 g7 g8 g9 g10 g11 g12 hKN z3 t3 hT0 ih p5 p6 n sa sv c0 q len gg tc ml ry fr fg fb fp fw fo qr fq eb ew lp fk vg vb vr vs vn vo vl ve vx vw vy th _ _ _ hI hP hD hS hl
    · refine cn_i (y := nI 1) e3 ?_
      refine lv_tableIn (tgt := 163) (off := 130) hx hb dL_law_33 (by decide) (by decide) (by decide) (by decide) ?_
      exact law_c1 hi hL C0 D cI cJ cZ x0 h4 a1 a2 a3 h3 b1 b2 h2 ra h1 p4 hB l3 h5 lk1 m0 g1 g2 g3 g4 g5 g6 g7 g8 g9 g10 g11 g12 hKN z3 t3 hT0 ih p5 p6 n sa sv c0 q len gg tc ml ry fr fg fb fp fw fo qr fq eb ew lp fk vg vb vr vs vn vo vl ve vx vw vy th _ _ _ hI hP hD hS hl
    · refine cn_i (y := nI 2) e3 ?_
      refine lv_tableIn (tgt := 216) (off := 183) hx hb dL_law_33 (by decide) (by decide) (by decide) (by decide) ?_
      exact law_c2 hi hL C0 D cI cJ cZ x0 h4 a1 a2 a3 h3 b1 b2 h2 ra h1 p4 hB l3 h5 lk1 m0 g1 g2 g3 g4 g5 g6 g7 g8 g9 g10 g11 g12 hKN z3 t3 hT0 ih p5 p6 n sa sv c0 q len gg tc ml ry fr fg fb fp fw fo qr fq eb ew lp fk vg vb vr vs vn vo vl ve vx vw vy th _ _ _ hI hP hD hS hl
    · refine cn_i (y := nI 3) e3 ?_
      refine lv_tableIn (tgt := 239) (off := 206) hx hb dL_law_33 (by decide) (by decide) (by decide) (by decide) ?_
      exact law_c3 hi hL C0 D cI cJ cZ x0 h4 a1 a2 a3 h3 b1 b2 h2 ra h1 p4 hB l3 h5 lk1 m0 g1 g2 g3 g4 g5 g6 g7 g8 g9 g10 g11 g12 hKN z3 t3 hT0 ih p5 p6 n sa sv c0 q len gg tc ml ry fr fg fb fp fw fo qr fq eb ew lp fk vg vb vr vs vn vo vl ve vx vw vy th _ _ _ hI hP hD hS hl
    · refine cn_i (y := nI 4) e3 ?_
      refine lv_tableIn (tgt := 272) (off := 239) hx hb dL_law_33 (by decide) (by decide) (by decide) (by decide) ?_
      exact law_c4 hi hL C0 D cI cJ cZ x0 h4 a1 a2 a3 h3 b1 b2 h2 ra h1 p4 hB l3 h5 lk1 m0 g1 g2 g3 g4 g5 g6 g7 g8 g9 g10 g11 g12 hKN z3 t3 hT0 ih p5 p6 n sa sv c0 q len gg tc ml ry fr fg fb fp fw fo qr fq eb ew lp fk vg vb vr vs vn vo vl ve vx vw vy th _ _ _ hI hP hD hS hl
    · refine cn_i (y := nI 5) e3 ?_
      refine lv_tableIn (tgt := 305) (off := 272) hx hb dL_law_33 (by decide) (by decide) (by decide) (by decide) ?_
      exact law_c5 hi hL C0 D cI cJ cZ x0 h4 a1 a2 a3 h3 b1 b2 h2 ra h1 p4 hB l3 h5 lk1 m0 g1 g2 g3 g4 g5 g6 g7 g8 g9 g10 g11 g12 hKN z3 t3 hT0 ih p5 p6 n sa sv c0 q len gg tc ml ry fr fg fb fp fw fo qr fq eb ew lp fk vg vb vr vs vn vo vl ve vx vw vy th _ _ _ hI hP hD hS hl
    · refine cn_i (y := nI 6) e3 ?_
      refine lv_tableIn (tgt := 388) (off := 355) hx hb dL_law_33 (by decide) (by decide) (by decide) (by decide) ?_
      exact law_c6 hi hL C0 D cI cJ cZ x0 h4 a1 a2 a3 h3 b1 b2 h2 ra h1 p4 hB l3 h5 lk1 m0 g1 g2 g3 g4 g5 g6 g7 g8 g9 g10 g11 g12 hKN z3 t3 hT0 ih p5 p6 n sa sv c0 q len gg tc ml ry fr fg fb fp fw fo qr fq eb ew lp fk vg vb vr vs vn vo vl ve vx vw vy th _ _ _ hI hP hD hS hl
    · refine cn_i (y := nI 7) e3 ?_
      refine lv_tableIn (tgt := 411) (off := 378) hx hb dL_law_33 (by decide) (by decide) (by decide) (by decide) ?_
      exact law_c7 hi hL C0 D cI cJ cZ x0 h4 a1 a2 a3 h3 b1 b2 h2 ra h1 p4 hB l3 h5 lk1 m0 g1 g2 g3 g4 g5 g6 g7 g8 g9 g10 g11 g12 hKN z3 t3 hT0 ih p5 p6 n sa sv c0 q len gg tc ml ry fr fg fb fp fw fo qr fq eb ew lp fk vg vb vr vs vn vo vl ve vx vw vy th _ _ _ hI hP hD hS hl
    · refine cn_i (y := nI 8) e3 ?_
      refine lv_tableIn (tgt := 434) (off := 401) hx hb dL_law_33 (by decide) (by decide) (by decide) (by decide) ?_
      exact law_c8 hi hL C0 D cI cJ cZ x0 h4 a1 a2 a3 h3 b1 b2 h2 ra h1 p4 hB l3 h5 lk1 m0 g1 g2 g3 g4 g5 g6 g7 g8 g9 g10 g11 g12 hKN z3 t3 hT0 ih p5 p6 n sa sv c0 q len gg tc ml ry fr fg fb fp fw fo qr fq eb ew lp fk vg vb vr vs vn vo vl ve vx vw vy th _ _ _ hI hP hD hS hl
    · refine cn_i (y := nI 9) e3 ?_
      refine lv_tableIn (tgt := 467) (off := 434) hx hb dL_law_33 (by decide) (by decide) (by decide) (by decide) ?_
      exact law_c9 hi hL C0 D cI cJ cZ x0 h4 a1 a2 a3 h3 b1 b2 h2 ra h1 p4 hB l3 h5 lk1 m0 g1 g2 g3 g4 g5 g6 g7 g8 g9 g10 g11 g12 hKN z3 t3 hT0 ih p5 p6 n sa sv c0 q len gg tc ml ry fr fg fb fp fw fo qr fq eb ew lp fk vg vb vr vs vn vo vl ve vx vw vy th _ _ _ hI hP hD hS hl
    · refine cn_i (y := nI 10) e3 ?_
      refine lv_tableIn (tgt := 500) (off := 467) hx hb dL_law_33 (by decide) (by decide) (by decide) (by decide) ?_
      exact law_c10 hi hL C0 D cI cJ cZ x0 h4 a1 a2 a3 h3 b1 b2 h2 ra h1 p4 hB l3 h5 lk1 m0 g1 g2 g3 g4 g5 g6 g7 g8 g9 g10 g11 g12 hKN z3 t3 hT0 ih p5 p6 n sa sv c0 q len gg tc ml ry fr fg fb fp fw fo qr fq eb ew lp fk vg vb vr vs vn vo vl ve vx vw vy th _ _ _ hI hP hD hS hl
    · refine cn_i (y := nI 11) e3 ?_
      refine lv_tableIn (tgt := 523) (off := 490) hx hb dL_law_33 (by decide) (by decide) (by decide) (by decide) ?_
      exact law_c11 hi hL C0 D cI cJ cZ x0 h4 a1 a2 a3 h3 b1 b2 h2 ra h1 p4 hB l3 h5 lk1 m0 g1 g2 g3 g4 g5 g6 g7 g8 g9 g10 g11 g12 hKN z3 t3 hT0 ih p5 p6 n sa sv c0 q len gg tc ml ry fr fg fb fp fw fo qr fq eb ew lp fk vg vb vr vs vn vo vl ve vx vw vy th _ _ _ hI hP hD hS hl
    · refine cn_i (y := nI 12) e3 ?_
      refine lv_tableIn (tgt := 556) (off := 523) hx hb dL_law_33 (by decide) (by decide) (by decide) (by decide) ?_
      exact law_c12 hi hL C0 D cI cJ cZ x0 h4 a1 a2 a3 h3 b1 b2 h2 ra h1 p4 hB l3 h5 lk1 m0 g1 g2 g3 g4 g5 g6 g7 g8 g9 g10 g11 g12 hKN z3 t3 hT0 ih p5 p6 n sa sv c0 q len gg tc ml ry fr fg fb fp fw fo qr fq eb ew lp fk vg vb vr vs vn vo vl ve vx vw vy th _ _ _ hI hP hD hS hl
    · refine cn_i (y := nI 13) e3 ?_
      refine lv_tableIn (tgt := 589) (off := 556) hx hb dL_law_33 (by decide) (by decide) (by decide) (by decide) ?_
      exact law_c13 hi hL C0 D cI cJ cZ x0 h4 a1 a2 a3 h3 b1 b2 h2 ra h1 p4 hB l3 h5 lk1 m0 g1 g2 g3 g4 g5 g6 g7 g8 g9 g10 g11 g12 hKN z3 t3 hT0 ih p5 p6 n sa sv c0 q len gg tc ml ry fr fg fb fp fw fo qr fq eb ew lp fk vg vb vr vs vn vo vl ve vx vw vy th _ _ _ hI hP hD hS hl
    · refine cn_i (y := nI 14) e3 ?_
      refine lv_tableIn (tgt := 622) (off := 589) hx hb dL_law_33 (by decide) (by decide) (by decide) (by decide) ?_
      exact law_c14 hi hL C0 D cI cJ cZ x0 h4 a1 a2 a3 h3 b1 b2 h2 ra h1 p4 hB l3 h5 lk1 m0 g1 g2 g3 g4 g5 g6 g7 g8 g9 g10 g11 g12 hKN z3 t3 hT0 ih p5 p6 n sa sv c0 q len gg tc ml ry fr fg fb fp fw fo qr fq eb ew lp fk vg vb vr vs vn vo vl ve vx vw vy th _ _ _ hI hP hD hS hl
    · refine cn_i (y := nI 15) e3 ?_
      refine lv_tableIn (tgt := 635) (off := 602) hx hb dL_law_33 (by decide) (by decide) (by decide) (by decide) ?_
      exact law_c15 hi hL C0 D cI cJ cZ x0 h4 a1 a2 a3 h3 b1 b2 h2 ra h1 p4 hB l3 h5 lk1 m0 g1 g2 g3 g4 g5 g6 g7 g8 g9 g10 g11 g12 hKN z3 t3 hT0 ih p5 p6 n sa sv c0 q len gg tc ml ry fr fg fb fp fw fo qr fq eb ew lp fk vg vb vr vs vn vo vl ve vx vw vy th _ _ _ hI hP hD hS hl
    · refine cn_i (y := nI 16) e3 ?_
      refine lv_tableIn (tgt := 658) (off := 625) hx hb dL_law_33 (by decide) (by decide) (by decide) (by decide) ?_
      exact law_c16 hi hL C0 D cI cJ cZ x0 h4 a1 a2 a3 h3 b1 b2 h2 ra h1 p4 hB l3 h5 lk1 m0 g1 g2 g3 g4 g5 g6 g7 g8 g9 g10 g11 g12 hKN z3 t3 hT0 ih p5 p6 n sa sv c0 q len gg tc ml ry fr fg fb fp fw fo qr fq eb ew lp fk vg vb vr vs vn vo vl ve vx vw vy th _ _ _ hI hP hD hS hl
    · refine cn_i (y := nI 17) e3 ?_
      refine lv_tableIn (tgt := 691) (off := 658) hx hb dL_law_33 (by decide) (by decide) (by decide) (by decide) ?_
      exact law_c17 hi hL C0 D cI cJ cZ x0 h4 a1 a2 a3 h3 b1 b2 h2 ra h1 p4 hB l3 h5 lk1 m0 g1 g2 g3 g4 g5 g6 g7 g8 g9 g10 g11 g12 hKN z3 t3 hT0 ih p5 p6 n sa sv c0 q len gg tc ml ry fr fg fb fp fw fo qr fq eb ew lp fk vg vb vr vs vn vo vl ve vx vw vy th _ _ _ hI hP hD hS hl
    · refine cn_i (y := nI 18) e3 ?_
      refine lv_tableIn (tgt := 714) (off := 681) hx hb dL_law_33 (by decide) (by decide) (by decide) (by decide) ?_
      exact law_c18 hi hL C0 D cI cJ cZ x0 h4 a1 a2 a3 h3 b1 b2 h2 ra h1 p4 hB l3 h5 lk1 m0 g1 g2 g3 g4 g5 g6 g7 g8 g9 g10 g11 g12 hKN z3 t3 hT0 ih p5 p6 n sa sv c0 q len gg tc ml ry fr fg fb fp fw fo qr fq eb ew lp fk vg vb vr vs vn vo vl ve vx vw vy th _ _ _ hI hP hD hS hl
    · refine cn_i (y := nI 19) e3 ?_
      refine lv_tableIn (tgt := 779) (off := 746) hx hb dL_law_33 (by decide) (by decide) (by decide) (by decide) ?_
      exact law_c19 hi hL C0 D cI cJ cZ x0 h4 a1 a2 a3 h3 b1 b2 h2 ra h1 p4 hB l3 h5 lk1 m0 g1 g2 g3 g4 g5 g6 g7 g8 g9 g10 g11 g12 hKN z3 t3 hT0 ih p5 p6 n sa sv c0 q len gg tc ml ry fr fg fb fp fw fo qr fq eb ew lp fk vg vb vr vs vn vo vl ve vx vw vy th _ _ _ hI hP hD hS hl
    · refine cn_i (y := nI 20) e3 ?_
      refine lv_tableIn (tgt := 802) (off := 769) hx hb dL_law_33 (by decide) (by decide) (by decide) (by decide) ?_
      exact law_c20 hi hL C0 D cI cJ cZ x0 h4 a1 a2 a3 h3 b1 b2 h2 ra h1 p4 hB l3 h5 lk1 m0 g1 g2 g3 g4 g5 g6 g7 g8 g9 g10 g11 g12 hKN z3 t3 hT0 ih p5 p6 n sa sv c0 q len gg tc ml ry fr fg fb fp fw fo qr fq eb ew lp fk vg vb vr vs vn vo vl ve vx vw vy th _ _ _ hI hP hD hS hl
    · refine cn_i (y := nI 21) e3 ?_
      refine lv_tableIn (tgt := 835) (off := 802) hx hb dL_law_33 (by decide) (by decide) (by decide) (by decide) ?_
      exact law_c21 hi hL C0 D cI cJ cZ x0 h4 a1 a2 a3 h3 b1 b2 h2 ra h1 p4 hB l3 h5 lk1 m0 g1 g2 g3 g4 g5 g6 g7 g8 g9 g10 g11 g12 hKN z3 t3 hT0 ih p5 p6 n sa sv c0 q len gg tc ml ry fr fg fb fp fw fo qr fq eb ew lp fk vg vb vr vs vn vo vl ve vx vw vy th _ _ _ hI hP hD hS hl
    · refine cn_i (y := nI 22) e3 ?_
      refine lv_tableIn (tgt := 858) (off := 825) hx hb dL_law_33 (by decide) (by decide) (by decide) (by decide) ?_
      exact law_c22 hi hL C0 D cI cJ cZ x0 h4 a1 a2 a3 h3 b1 b2 h2 ra h1 p4 hB l3 h5 lk1 m0 g1 g2 g3 g4 g5 g6 g7 g8 g9 g10 g11 g12 hKN z3 t3 hT0 ih p5 p6 n sa sv c0 q len gg tc ml ry fr fg fb fp fw fo qr fq eb ew lp fk vg vb vr vs vn vo vl ve vx vw vy th _ _ _ hI hP hD hS hl
