
theorem i64_sub2 (a b c : Int64) : a - b - c = a - c - b := by rw [Int64.sub_sub, Int64.sub_sub, Int64.add_comm]
theorem of_eq {n sa sv c0 y : Nat} {fg fb fp vg vb vr vs vn th : Nat → Int32} {fw : Nat → Int64} (hn : n ≤ 9) (hsa : sa < 2 ^ n) (hsv : sv < 2 ^ n) (hSB : SUBS sa sv n) (hsn : ∀ z, z < n → vn z = nF (nI sa) (nI sv) z) (hTB : TB fw vs c0 n) (hyc : y < c0) (hfg : ∀ z, z < 9 → fg z = vg z ∧ fb z = vb z ∧ fp z = vr z) (hth : ∀ z, z < 9 → th z = nI (3 ^ z)) {r r' : Int64} {p0 wh uf : Int32} {ub me : Nat → Int64} {uw mn mw my : Nat → Int32} (hO : uf = nI 1 → OKT (isG fw y) n fg fb fp ub uw 0) (hX : (((0 ≤ p0.toInt ∧ p0.toInt < n) ∧ sb (nI sa) p0.toInt.toNat = 0) ∧ wh = nI 0 ∧ uf = nI 1 ∧ r = ub (stN sa sv n) - ub (stN sa sv n + 3 ^ p0.toInt.toNat) - ub (stN sa sv n + 2 * 3 ^ p0.toInt.toNat)) ∨ (((0 ≤ p0.toInt ∧ p0.toInt < n) ∧ sb (nI sa) p0.toInt.toNat = 0) ∧ wh = nI 1 ∧ SQ (fun t => (nI t &&& nI sa = nI sv) ∧ ¬ (isG fw y t ↔ isG fw y (t ^^^ 2 ^ p0.toInt.toNat))) (fun t => lf fg fb (nI (2 ^ n - 1)) (nI t) n) (2 ^ n) r) ∨ (r = -2 ∧ ¬ (((0 ≤ p0.toInt ∧ p0.toInt < n) ∧ sb (nI sa) p0.toInt.toNat = 0) ∧ (wh = nI 0 ∨ wh = nI 1)))) (hM : (((0 ≤ p0.toInt ∧ p0.toInt < n) ∧ vn p0.toInt.toNat = -1) ∧ wh = nI 0 ∧ (∀ z, z < 3 ^ n → RM (Sg vs y) n (fun c9 => mlf vg vb th (nI c9) n) vr me mn mw my z) ∧ r' = me (nowN vn n) - me (nowN vn n + 3 ^ p0.toInt.toNat) - me (nowN vn n + 2 * 3 ^ p0.toInt.toNat)) ∨ (((0 ≤ p0.toInt ∧ p0.toInt < n) ∧ vn p0.toInt.toNat = -1) ∧ wh = nI 1 ∧ SQ (fun t => SCH (nowN vn n) n (nI t) ∧ ¬ (Sg vs y t ↔ Sg vs y (t ^^^ 2 ^ p0.toInt.toNat))) (fun t => mwt vg vb (nI t) n) (2 ^ n) r') ∨ (r' = -2 ∧ ¬ (((0 ≤ p0.toInt ∧ p0.toInt < n) ∧ vn p0.toInt.toNat = -1) ∧ (wh = nI 0 ∨ wh = nI 1)))) : r = r' := by
  have h2 := m_pow hn
  have hpm : ((0 ≤ p0.toInt ∧ p0.toInt < n) ∧ sb (nI sa) p0.toInt.toNat = 0) ↔ ((0 ≤ p0.toInt ∧ p0.toInt < n) ∧ vn p0.toInt.toNat = -1) := by
    constructor
    · intro h
      exact ⟨h.1, by rw [hsn _ (by omega)]; exact nF_free.mpr h.2⟩
    · intro h
      exact ⟨h.1, by have g := h.2; rw [hsn _ (by omega)] at g; exact nF_free.mp g⟩
  rcases hX with ⟨a, b, c, d⟩ | ⟨a, b, d⟩ | ⟨d, a⟩ <;> rcases hM with ⟨a', b', c', d'⟩ | ⟨a', b', d'⟩ | ⟨d', a'⟩
  · have T := tabs hn hTB hyc hfg hth (hO c) c'
    have sw := now_sw hn hsa hsv hsn
    have ls := stN_lt sa sv n
    have lc := nowN_lt vn n
    have hj : p0.toInt.toNat < n := by omega
    have dc : nowN vn n / 3 ^ p0.toInt.toNat % 3 = 0 := nowN_dig a'.2 hj
    have ds := (sw _ hj).1.mpr dc
    obtain ⟨g1, g2⟩ := sw.up dc hj
    have u1 := m_up lc hj dc
    have u2 := m_up ls hj ds
    have e0 := (T _ _ ls lc sw).1
    have e1 := (T _ _ (by omega) (by omega) g1).1
    have e2 := (T _ _ (by omega) (by omega) g2).1
    rw [show stN sa sv n + 2 * 3 ^ p0.toInt.toNat = stN sa sv n + 3 ^ p0.toInt.toNat + 3 ^ p0.toInt.toNat by omega, e0, e1, e2] at d
    rw [show nowN vn n + 2 * 3 ^ p0.toInt.toNat = nowN vn n + 3 ^ p0.toInt.toNat + 3 ^ p0.toInt.toNat by omega] at d'
    rw [d, d', i64_sub2]
  · rw [b] at b'; exact absurd b' (by decide)
  · exact absurd ⟨hpm.mp a, Or.inl b⟩ a'
  · rw [b] at b'; exact absurd b' (by decide)
  · have hj : p0.toInt.toNat < n := by omega
    refine d.eq d' (fun t ht => ?_) (fun t ht _ => ?_)
    · show (_ ∧ ¬ _) ↔ (_ ∧ ¬ _)
      rw [fits_sch hn hsa hsv hSB hsn ht, hTB y t hyc ht, hTB y (t ^^^ 2 ^ p0.toInt.toNat) hyc (m_x9 ht (m_p2n hj))]
    · exact lf_all hn (fun z hz => ⟨(hfg z (by omega)).1, (hfg z (by omega)).2.1⟩) n (Nat.le_refl n)
  · exact absurd ⟨hpm.mp a, Or.inr b⟩ a'
  · exact absurd ⟨hpm.mpr a', Or.inl b'⟩ a
  · exact absurd ⟨hpm.mpr a', Or.inr b'⟩ a
  · rw [d, d']
theorem run_tc {utc : Int32} {tc : Nat} {A B C : Prop} {R : Nat → Prop} (htc : tc ≤ 9) (h : (A ∧ ∃ x, x ≤ 9 ∧ utc = nI x ∧ R x) ∨ (B ∧ utc = nI tc ∧ C)) : ∃ x, x ≤ 9 ∧ utc = nI x := by
  rcases h with ⟨_, x, a, b, _⟩ | ⟨_, a, _⟩
  · exact ⟨x, a, b⟩
  · exact ⟨tc, htc, a⟩
