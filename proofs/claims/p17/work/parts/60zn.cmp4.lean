
theorem mean_eq {n sa sv c0 y : Nat} {fg fb fp vg vb vr vs vn th : Nat → Int32} {fw : Nat → Int64} (hn : n ≤ 9) (hsa : sa < 2 ^ n) (hsv : sv < 2 ^ n) (hSB : SUBS sa sv n) (hsn : ∀ z, z < n → vn z = nF (nI sa) (nI sv) z) (hTB : TB fw vs c0 n) (hyc : y < c0) (hfg : ∀ z, z < 9 → fg z = vg z ∧ fb z = vb z ∧ fp z = vr z) (hth : ∀ z, z < 9 → th z = nI (3 ^ z)) {q : Nat} {qr vo : Nat → Int32} (hqe : ∀ z, z < q → qr z = vo z) {r' : Int64} (rs : RUNS qr q n (US (isG fw y) n 2 1) fp sa sv) (h' : SR (fun t => SCH (nowN vn n) n (nI t)) (fun t x => ∃ w : Int32, x = mwt vg vb (nI t) n * w.toInt64 ∧ BO vo q n (US (Sg vs y) n 1 2) vr (nowN vn n) t w) (2 ^ n) r') : OSM qr fg fb fp q n (US (isG fw y) n 2 1) sa sv (nI 0) = r' := by
  have hgb : ∀ z, z < n → fg z = vg z ∧ fb z = vb z := fun z hz => ⟨(hfg z (by omega)).1, (hfg z (by omega)).2.1⟩
  have sw := now_sw hn hsa hsv hsn
  have e0 := SR.sf (F := fun t => mwt fg fb (nI t) n * (nI 0 + bo qr q n (US (isG fw y) n 2 1) fp t (stN sa sv n)).toInt64) h' (fun t ht hp x hx => by
    obtain ⟨w, ex, m, hw⟩ := hx
    obtain ⟨k, v, hv⟩ := rs t ht ((sch_con hn hsa hsv hsn ht).mp hp)
    have e : nI 0 + v = v := by rw [nI_0]; exact Int32.zero_add v
    rw [ex, bo_of hn hv, e, ord_run hn hsa hsv hSB hsn hTB hyc hfg hth hqe (stN_lt sa sv n) (nowN_lt vn n) sw hv hw, mwt_cong n hgb])
  rw [e0]
  unfold OSM
  refine SF.cong _ (fun t ht => pif_cong (sch_con hn hsa hsv hsn ht).symm (fun _ => rfl))
theorem worst_eq {n sa sv c0 y : Nat} {fg fb fp vg vb vr vs vn th : Nat → Int32} {fw : Nat → Int64} (hn : n ≤ 9) (hsa : sa < 2 ^ n) (hsv : sv < 2 ^ n) (hSB : SUBS sa sv n) (hsn : ∀ z, z < n → vn z = nF (nI sa) (nI sv) z) (hTB : TB fw vs c0 n) (hyc : y < c0) (hfg : ∀ z, z < 9 → fg z = vg z ∧ fb z = vb z ∧ fp z = vr z) (hth : ∀ z, z < 9 → th z = nI (3 ^ z)) {q : Nat} {qr vo : Nat → Int32} (hqe : ∀ z, z < q → qr z = vo z) {Gn Bn Pn : Nat → Nat} (hvb : VB fg fb fp Gn Bn Pn) {r' : Int64} {w : Int32} (rs : RUNS qr q n (US (isG fw y) n 2 1) fp sa sv) (mx : OMX qr fp q n (US (isG fw y) n 2 1) sa sv (nI 0) w) (h' : MXK (fun t => SCH (nowN vn n) n (nI t)) (BO vo q n (US (Sg vs y) n 1 2) vr (nowN vn n)) (2 ^ n) r') : w.toInt64 = r' := by
  have sw := now_sw hn hsa hsv hsn
  have z0 : ∀ v : Int32, nI 0 + v = v := fun v => by rw [nI_0]; exact Int32.zero_add v
  have key : ∀ t w', t < 2 ^ n → CON sa sv n t → (BO vo q n (US (Sg vs y) n 1 2) vr (nowN vn n)) t w' → nI 0 + bo qr q n (US (isG fw y) n 2 1) fp t (stN sa sv n) = w' := fun t w' ht hc hw => by
    obtain ⟨m, hw⟩ := hw
    obtain ⟨k, v, hv⟩ := rs t ht hc
    rw [bo_of hn hv, z0, ord_run hn hsa hsv hSB hsn hTB hyc hfg hth hqe (stN_lt sa sv n) (nowN_lt vn n) sw hv hw]
  obtain ⟨m1, t0, ht0, hc0, e0⟩ := mx
  obtain ⟨w0, b0, l0⟩ := h'.1 t0 ht0 ((sch_con hn hsa hsv hsn ht0).mpr hc0)
  have ew := key t0 w0 ht0 hc0 b0
  rw [← e0] at ew
  have pos : 0 ≤ w.toInt := by
    obtain ⟨k, v, hv⟩ := rs t0 ht0 hc0
    obtain ⟨k1, m, k2, k3⟩ := RUNP.len (Pn := Pn) (fun z hz => ⟨(hvb z hz).2.2.1, (hvb z hz).2.2.2.2.2.2.2⟩) hn (stN_lt sa sv n) hv
    rw [e0, bo_of hn hv, z0, k3, nI_toInt (by omega)]
    omega
  rw [j_eq, j2]
  rcases h'.2 with e | ⟨t, w', ht, hp, hb, e⟩
  · rw [e] at l0 ⊢
    have l1 : (lN 0).toInt = 0 := by decide
    rw [ew] at pos ⊢
    omega
  · have hc := (sch_con hn hsa hsv hsn ht).mp hp
    have k := key t w' ht hc hb
    have g := m1 t ht hc
    rw [k] at g
    rw [e, j2] at l0 ⊢
    rw [← ew] at l0
    omega
theorem told_eq {n sa sv c0 y : Nat} {fg fb fp vg vb vr vs vn th : Nat → Int32} {fw : Nat → Int64} (hn : n ≤ 9) (hsa : sa < 2 ^ n) (hsv : sv < 2 ^ n) (hSB : SUBS sa sv n) (hsn : ∀ z, z < n → vn z = nF (nI sa) (nI sv) z) (hTB : TB fw vs c0 n) (hyc : y < c0) (hfg : ∀ z, z < 9 → fg z = vg z ∧ fb z = vb z ∧ fp z = vr z) (hth : ∀ z, z < 9 → th z = nI (3 ^ z)) {q : Nat} {qr vo : Nat → Int32} (hqe : ∀ z, z < q → qr z = vo z) {Gn Bn Pn : Nat → Nat} (hvb : VB fg fb fp Gn Bn Pn) (hmon : MON (isG fw y) n) {r r' : Int64} {wh uf : Int32} {ub me : Nat → Int64} {uw mn mw my : Nat → Int32} (hO : uf = nI 1 → OKT (isG fw y) n fg fb fp ub uw 0) (hX : (wh = 0 ∧ r = lf fg fb (nI sa) (nI sv) n) ∨ (wh = nI 1 ∧ SQ (fun t => (nI t &&& nI sa = nI sv) ∧ isG fw y t) (fun t => lf fg fb (nI (2 ^ n - 1)) (nI t) n) (2 ^ n) r) ∨ (wh = nI 2 ∧ uf = nI 1 ∧ r = ub (stN sa sv n)) ∨ (wh = nI 3 ∧ ((¬ NV fw y sv ((2 ^ n - 1) ^^^ sa) ∧ r = (-1 : Int32).toInt64) ∨ (∃ x, r = (nI x).toInt64 ∧ NV fw y sv ((2 ^ n - 1) ^^^ sa) ∧ NXV (isG fw y) n fg fb fp 0 (stN sa sv n) x))) ∨ (wh = nI 4 ∧ uf = nI 1 ∧ r = (uw (stN sa sv n)).toInt64) ∨ (wh = nI 5 ∧ ((¬ NV fw y sv ((2 ^ n - 1) ^^^ sa) ∧ r = (-1 : Int32).toInt64) ∨ (∃ x, r = (nI x).toInt64 ∧ NV fw y sv ((2 ^ n - 1) ^^^ sa) ∧ NXV (isG fw y) n fg fb fp 1 (stN sa sv n) x))) ∨ (wh = nI 6 ∧ (∃ a b, r = a + b ∧ SR (fun t => (nI (t) &&& nI sa = nI sv) ∧ stl fw y n (nI 1) t) (fun t x => ∃ v : Int32, x = lf fg fb (nI (2 ^ n - 1)) (nI (t)) n * v.toInt64 ∧ LPX (stl fw y n (nI 1)) n sa Pn t v) (2 ^ n) a ∧ SR (fun t => (nI ((2 ^ n - 1) ^^^ t) &&& nI sa = nI sv) ∧ stl fw y n (nI 0) t) (fun t x => ∃ v : Int32, x = lf fg fb (nI (2 ^ n - 1)) (nI ((2 ^ n - 1) ^^^ t)) n * v.toInt64 ∧ LPX (stl fw y n (nI 0)) n sa Pn t v) (2 ^ n) b)) ∨ (wh = nI 7 ∧ RUNS qr q n (US (isG fw y) n 2 1) fp sa sv ∧ r = OSM qr fg fb fp q n (US (isG fw y) n 2 1) sa sv (nI 0)) ∨ (wh = nI 8 ∧ RUNS qr q n (US (isG fw y) n 2 1) fp sa sv ∧ ∃ w : Int32, r = w.toInt64 ∧ OMX qr fp q n (US (isG fw y) n 2 1) sa sv (nI 0) w) ∨ (r = -2 ∧ ¬ wh = 0 ∧ (wh.toInt < 1 ∨ 8 < wh.toInt))) (hM : (wh = 0 → r' = mlf vg vb th (nI (nowN vn n)) n) ∧ (wh = nI 1 → SQ (fun t => SCH (nowN vn n) n (nI t) ∧ Sg vs y t) (fun t => mwt vg vb (nI t) n) (2 ^ n) r') ∧ (wh = nI 2 → (∀ z, z < 3 ^ n → RM (Sg vs y) n (fun c9 => mlf vg vb th (nI c9) n) vr me mn mw my z) ∧ r' = me (nowN vn n)) ∧ (wh = nI 3 → (∀ z, z < 3 ^ n → RM (Sg vs y) n (fun c9 => mlf vg vb th (nI c9) n) vr me mn mw my z) ∧ r' = (mn (nowN vn n)).toInt64) ∧ (wh = nI 4 → (∀ z, z < 3 ^ n → RM (Sg vs y) n (fun c9 => mlf vg vb th (nI c9) n) vr me mn mw my z) ∧ r' = (mw (nowN vn n)).toInt64) ∧ (wh = nI 5 → (∀ z, z < 3 ^ n → RM (Sg vs y) n (fun c9 => mlf vg vb th (nI c9) n) vr me mn mw my z) ∧ r' = (my (nowN vn n)).toInt64) ∧ (wh = nI 6 → SR (fun t => SCH (nowN vn n) n (nI t)) (fun t x => ∃ w : Int32, x = mwt vg vb (nI t) n * w.toInt64 ∧ SHW (Sg vs y) n (nowN vn n) (nI t) vr (2 ^ n) w) (2 ^ n) r') ∧ (wh = nI 7 → SR (fun t => SCH (nowN vn n) n (nI t)) (fun t x => ∃ w : Int32, x = mwt vg vb (nI t) n * w.toInt64 ∧ BO vo q n (US (Sg vs y) n 1 2) vr (nowN vn n) t w) (2 ^ n) r') ∧ (wh = nI 8 → MXK (fun t => SCH (nowN vn n) n (nI t)) (BO vo q n (US (Sg vs y) n 1 2) vr (nowN vn n)) (2 ^ n) r') ∧ ((¬ wh = 0 ∧ (wh.toInt < 1 ∨ 8 < wh.toInt)) → r' = -2)) : r = r' := by
  have h3 := m_3n hn
  have hgb : ∀ z, z < n → fg z = vg z ∧ fb z = vb z := fun z hz => ⟨(hfg z (by omega)).1, (hfg z (by omega)).2.1⟩
  have sw := now_sw hn hsa hsv hsn
  have ls := stN_lt sa sv n
  have lc := nowN_lt vn n
  have su := st_us (fw := fw) (y := y) hsa hsv hSB
  obtain ⟨m0, m1, m2, m3, m4, m5, m6, m7, m8, m9⟩ := hM
  rcases hX with ⟨e, h⟩ | ⟨e, h⟩ | ⟨e, u, h⟩ | ⟨e, h⟩ | ⟨e, u, h⟩ | ⟨e, h⟩ | ⟨e, a, b, h, s1, s2⟩ | ⟨e, rs, h⟩ | ⟨e, rs, w, h, mx⟩ | ⟨h, c⟩
  · rw [h, m0 e]
    exact left_eq hn hsa hsv hth (fun z hz => ⟨(hfg z hz).1, (hfg z hz).2.1⟩) lc (now_key hn hsa hsv hsn) n (Nat.le_refl n)
  · refine h.eq (m1 e) (fun t ht => ?_) (fun t ht _ => lf_all hn hgb n (Nat.le_refl n))
    show (_ ∧ _) ↔ (_ ∧ _)
    rw [fits_sch hn hsa hsv hSB hsn ht, hTB y t hyc ht]
  · obtain ⟨rm, e'⟩ := m2 e
    rw [h, e', (tabs hn hTB hyc hfg hth (hO u) rm _ _ ls lc sw).1]
  · obtain ⟨rm, e'⟩ := m3 e
    rcases h with ⟨nv, h⟩ | ⟨x, h, nv, nx⟩
    · rw [h, e', ((rm _ lc).2.1 (fun q => nv (su.mp ((us_eq hn hsa hsv hSB hsn hTB hyc hfg hth sw).mpr q)))).1]
    · rw [h, e', (nxt_cmp hn hsa hsv hSB hsn hTB hyc hfg hth rm ls lc sw (su.mpr nv) nx).1 rfl]
  · obtain ⟨rm, e'⟩ := m4 e
    rw [h, e', (tabs hn hTB hyc hfg hth (hO u) rm _ _ ls lc sw).2]
  · obtain ⟨rm, e'⟩ := m5 e
    rcases h with ⟨nv, h⟩ | ⟨x, h, nv, nx⟩
    · rw [h, e', ((rm _ lc).2.1 (fun q => nv (su.mp ((us_eq hn hsa hsv hSB hsn hTB hyc hfg hth sw).mpr q)))).2]
    · rw [h, e', (nxt_cmp hn hsa hsv hSB hsn hTB hyc hfg hth rm ls lc sw (su.mpr nv) nx).2 (by decide)]
  · rw [h]
    exact bound_eq hn hsa hsv hSB hsn hTB hyc hfg hth hvb hmon s1 s2 (m6 e)
  · rw [h]
    exact mean_eq hn hsa hsv hSB hsn hTB hyc hfg hth hqe rs (m7 e)
  · rw [h]
    exact worst_eq hn hsa hsv hSB hsn hTB hyc hfg hth hqe hvb rs mx (m8 e)
  · rw [h, m9 c]
theorem told_eqn {n sa sv : Nat} {fg fb fp vg vb vr vn th : Nat → Int32} {r r' : Int64} {wh : Int32} (h : r = if wh = 0 then lf fg fb (nI sa) (nI sv) n else -2) (h' : r' = if wh = 0 then mlf vg vb th (mnow th vn n) n else -2) (hn : n ≤ 9) (hsa : sa < 2 ^ n) (hsv : sv < 2 ^ n) (hsn : ∀ z, z < n → vn z = nF (nI sa) (nI sv) z) (hfg : ∀ z, z < 9 → fg z = vg z ∧ fb z = vb z ∧ fp z = vr z) (hth : ∀ z, z < 9 → th z = nI (3 ^ z)) : r = r' := by
  by_cases c : wh = 0
  · rw [if_pos c] at h h'
    rw [h, h', mnowN hth n hn]
    exact left_eq hn hsa hsv hth (fun z hz => ⟨(hfg z hz).1, (hfg z hz).2.1⟩) (nowN_lt vn n) (now_key hn hsa hsv hsn) n (Nat.le_refl n)
  · rw [if_neg c] at h h'
    rw [h, h']
