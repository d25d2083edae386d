
theorem run_eq {n sa sv c0 y : Nat} {fg fb fp vg vb vr vs vn th : Nat → Int32} {fw : Nat → Int64} (hn : n ≤ 9) (hsa : sa < 2 ^ n) (hsv : sv < 2 ^ n) (hSB : SUBS sa sv n) (hsn : ∀ z, z < n → vn z = nF (nI sa) (nI sv) z) (hTB : TB fw vs c0 n) (hyc : y < c0) (hfg : ∀ z, z < 9 → fg z = vg z ∧ fb z = vb z ∧ fp z = vr z) (hth : ∀ z, z < 9 → th z = nI (3 ^ z)) {q : Nat} {qr vo : Nat → Int32} (hqe : ∀ z, z < q → qr z = vo z) {r r' utc xl wh st mlq uf : Int32} {tc : Nat} {ub : Nat → Int64} {uw vl mul : Nat → Int32} (_ : uf = nI 1 → OKT (isG fw y) n fg fb fp ub uw 0) (hX : (((0 ≤ wh.toInt ∧ wh.toInt ≤ 2) ∧ (0 ≤ st.toInt ∧ st.toInt < (2 ^ n : Nat)) ∧ st &&& nI sa = nI sv) ∧ ∃ x, x ≤ 9 ∧ utc = nI x ∧ RUNP (NXR (isG fw y) n fg fb fp qr q wh) (US (isG fw y) n 2 1) fp (stX st.toInt.toNat) x (stN sa sv n) r) ∨ (r = -1 ∧ utc = nI tc ∧ ¬ ((0 ≤ wh.toInt ∧ wh.toInt ≤ 2) ∧ (0 ≤ st.toInt ∧ st.toInt < (2 ^ n : Nat)) ∧ st &&& nI sa = nI sv))) (hM : (r' = -1 ∧ xl = mlq ∧ mul = vl ∧ ¬ ((0 ≤ wh.toInt ∧ wh.toInt ≤ 2) ∧ (0 ≤ st.toInt ∧ st.toInt < (2 ^ n : Nat)) ∧ SCH (nowN vn n) n st)) ∨ (∃ x, x ≤ n ∧ xl = nI x ∧ ((0 ≤ wh.toInt ∧ wh.toInt ≤ 2) ∧ (0 ≤ st.toInt ∧ st.toInt < (2 ^ n : Nat)) ∧ SCH (nowN vn n) n st) ∧ RUNP (NXM (Sg vs y) n (fun c9 => mlf vg vb th (nI c9) n) vr vo q wh) (US (Sg vs y) n 1 2) vr (stM st.toInt.toNat) x (nowN vn n) r')) : r = r' := by
  have hv : ((0 ≤ wh.toInt ∧ wh.toInt ≤ 2) ∧ (0 ≤ st.toInt ∧ st.toInt < (2 ^ n : Nat)) ∧ st &&& nI sa = nI sv) ↔ ((0 ≤ wh.toInt ∧ wh.toInt ≤ 2) ∧ (0 ≤ st.toInt ∧ st.toInt < (2 ^ n : Nat)) ∧ SCH (nowN vn n) n st) := by
    constructor
    · rintro ⟨a, b, c⟩
      obtain ⟨j, hj, rfl⟩ := m_nat (x := st) (n := 2 ^ n) b
      exact ⟨a, b, (fits_sch hn hsa hsv hSB hsn hj).mp c⟩
    · rintro ⟨a, b, c⟩
      obtain ⟨j, hj, rfl⟩ := m_nat (x := st) (n := 2 ^ n) b
      exact ⟨a, b, (fits_sch hn hsa hsv hSB hsn hj).mpr c⟩
  rcases hX with ⟨a, x, hx, e, hr⟩ | ⟨e, _, a⟩ <;> rcases hM with ⟨e', _, _, a'⟩ | ⟨x', hx', e', a', hr'⟩
  · exact absurd (hv.mp a) a'
  · refine (RUNP.eq (R := fun s c => s < 3 ^ n ∧ c < 3 ^ n ∧ SW n s c) (fun s c h => ?_) (fun s c x x' h u b b' => ?_) ⟨stN_lt sa sv n, nowN_lt vn n, now_sw hn hsa hsv hsn⟩ hr hr').2
    · have h2p := m_powp n
      unfold US
      rw [h.2.2.n1, h.2.2.n2, hTB y _ hyc (setN_lt c 1 n), hTB y _ hyc (by omega)]
    · obtain ⟨hs, hc, sw⟩ := h
      obtain ⟨bx, bd, bo, bt⟩ := b'
      have xe : x = x' := by
        by_cases w2 : wh = nI 2
        · obtain ⟨ax, ao⟩ := b.1 w2
          exact nI_inn hn ax bx (ao.eq hn (bo w2) hqe (fun z hz => (sw z hz).1))
        · obtain ⟨e1, u1, ok, p0, p1⟩ := b.2 w2
          obtain ⟨e2, nb, u2, nw, rm, q0, q1⟩ := bt w2
          have T := tabs hn hTB hyc hfg hth ok rm
          have hW : ∀ s c, s < 3 ^ n → c < 3 ^ n → SW n s c → (fun t => wd fg fb 2 t n) s = (fun c9 => mlf vg vb th (nI c9) n) c := fun s c _ hc h => by
            have h3 := m_3n hn
            show wd fg fb 2 s n = mlf vg vb th (nI c) n
            rw [mlf_wd hth (by omega) n hn]
            exact wd_sw h (fun z hz => ⟨(hfg z (by omega)).1, (hfg z (by omega)).2.1⟩) n (Nat.le_refl n)
          obtain ⟨g0, g1⟩ := nx_eq T (fun z hz => (hfg z (by omega)).2.2) hW hs hc sw
          have us' : US (Sg vs y) n 1 2 c := by
            have h2p := m_powp n
            unfold US at u ⊢
            rw [← hTB y _ hyc (setN_lt c 1 n), ← hTB y _ hyc (show 2 ^ n - 1 - setN c 2 n < 2 ^ n by omega), ← sw.n1, ← sw.n2]
            exact u
          obtain ⟨⟨z0, f0, k0⟩, z1, f1, k1⟩ := (rm c hc).2.2 us'
          by_cases w0 : wh = nI 0
          · rw [if_pos w0] at p0
            have ez := nI_inn hn k0.1 bx (f0.symm.trans (q0 w0))
            rw [← ez]
            exact g0 x z0 (p0 rfl) k0
          · rw [if_neg w0] at p1
            have ez := nI_inn hn k1.1 bx (f1.symm.trans (q1 w0))
            rw [← ez]
            exact g1 x z1 (p1 (by decide)) k1
      subst xe
      have ds := (sw x bx).1.mpr bd
      have u1 := m_up hs bx ds
      have u2 := m_up hc bx bd
      have p3 := m_p3p x
      refine ⟨rfl, (hfg x (by omega)).2.2, ?_, ?_, sw.look bx bd⟩
      · unfold stX; split <;> omega
      · unfold stM; split <;> omega
  · rw [e, e']
  · exact absurd (hv.mpr a') a
