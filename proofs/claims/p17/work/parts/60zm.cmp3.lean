
theorem us_eq {n sa sv c0 y : Nat} {fg fb fp vg vb vr vs vn th : Nat → Int32} {fw : Nat → Int64} (hn : n ≤ 9) (hsa : sa < 2 ^ n) (hsv : sv < 2 ^ n) (hSB : SUBS sa sv n) (hsn : ∀ z, z < n → vn z = nF (nI sa) (nI sv) z) (hTB : TB fw vs c0 n) (hyc : y < c0) (hfg : ∀ z, z < 9 → fg z = vg z ∧ fb z = vb z ∧ fp z = vr z) (hth : ∀ z, z < 9 → th z = nI (3 ^ z)) {s c : Nat} (sw : SW n s c) : US (isG fw y) n 2 1 s ↔ US (Sg vs y) n 1 2 c := by
  have h2p := m_powp n
  unfold US
  rw [sw.n1, sw.n2, hTB y _ hyc (setN_lt c 1 n), hTB y _ hyc (by omega)]
theorem nxt_cmp {n sa sv c0 y : Nat} {fg fb fp vg vb vr vs vn th : Nat → Int32} {fw : Nat → Int64} (hn : n ≤ 9) (hsa : sa < 2 ^ n) (hsv : sv < 2 ^ n) (hSB : SUBS sa sv n) (hsn : ∀ z, z < n → vn z = nF (nI sa) (nI sv) z) (hTB : TB fw vs c0 n) (hyc : y < c0) (hfg : ∀ z, z < 9 → fg z = vg z ∧ fb z = vb z ∧ fp z = vr z) (hth : ∀ z, z < 9 → th z = nI (3 ^ z)) {me : Nat → Int64} {mn mw my : Nat → Int32} (rm : ∀ z, z < 3 ^ n → RM (Sg vs y) n (fun c9 => mlf vg vb th (nI c9) n) vr me mn mw my z) {pl s c x : Nat} (hs : s < 3 ^ n) (hc : c < 3 ^ n) (sw : SW n s c) (us : US (isG fw y) n 2 1 s) (h : NXV (isG fw y) n fg fb fp pl s x) : (pl = 0 → mn c = nI x) ∧ (¬ pl = 0 → my c = nI x) := by
  obtain ⟨e1, u1, ok, p0, p1⟩ := h
  have T := tabs hn hTB hyc hfg hth ok rm
  have hW : ∀ s c, s < 3 ^ n → c < 3 ^ n → SW n s c → (fun t => wd fg fb 2 t n) s = (fun c9 => mlf vg vb th (nI c9) n) c := fun s c _ hc h => by
    have h3 := m_3n hn
    show wd fg fb 2 s n = mlf vg vb th (nI c) n
    rw [mlf_wd hth (by omega) n hn]
    exact wd_sw h (fun z hz => ⟨(hfg z (by omega)).1, (hfg z (by omega)).2.1⟩) n (Nat.le_refl n)
  obtain ⟨g0, g1⟩ := nx_eq T (fun z hz => (hfg z (by omega)).2.2) hW hs hc sw
  obtain ⟨⟨z0, f0, k0⟩, z1, f1, k1⟩ := (rm c hc).2.2 ((us_eq hn hsa hsv hSB hsn hTB hyc hfg hth sw).mp us)
  exact ⟨fun q => by rw [f0, g0 x z0 (p0 q) k0], fun q => by rw [f1, g1 x z1 (p1 q) k1]⟩
theorem ord_run {n sa sv c0 y : Nat} {fg fb fp vg vb vr vs vn th : Nat → Int32} {fw : Nat → Int64} (hn : n ≤ 9) (hsa : sa < 2 ^ n) (hsv : sv < 2 ^ n) (hSB : SUBS sa sv n) (hsn : ∀ z, z < n → vn z = nF (nI sa) (nI sv) z) (hTB : TB fw vs c0 n) (hyc : y < c0) (hfg : ∀ z, z < 9 → fg z = vg z ∧ fb z = vb z ∧ fp z = vr z) (hth : ∀ z, z < 9 → th z = nI (3 ^ z)) {q : Nat} {qr vo : Nat → Int32} (hqe : ∀ z, z < q → qr z = vo z) {s c t k m : Nat} {v w : Int32} (hs : s < 3 ^ n) (hc : c < 3 ^ n) (sw : SW n s c) (h : RUNP (NXO qr q n) (US (isG fw y) n 2 1) fp (stX t) k s v) (h' : RUNP (NXO vo q n) (US (Sg vs y) n 1 2) vr (stM t) m c w) : v = w := by
  refine (RUNP.eq (R := fun s c => s < 3 ^ n ∧ c < 3 ^ n ∧ SW n s c) (fun s c h => us_eq hn hsa hsv hSB hsn hTB hyc hfg hth h.2.2) (fun s c x x' h u b b' => ?_) ⟨hs, hc, sw⟩ h h').2
  obtain ⟨hs, hc, sw⟩ := h
  have xe : x = x' := nI_inn hn b.1 b'.1 (b.2.eq hn b'.2 hqe (fun z hz => (sw z hz).1))
  subst xe
  have bx := b.1
  have bd : c / 3 ^ x % 3 = 0 := by
    rcases b'.2.free with ⟨f1, -⟩ | ⟨x2, f1, f2, f3⟩
    · exact absurd f1 (nI_ne1 (by omega))
    · rw [nI_inn hn bx f1 f2]; exact f3
  have ds := (sw x bx).1.mpr bd
  have u1 := m_up hs bx ds
  have u2 := m_up hc bx bd
  have p3 := m_p3p x
  refine ⟨rfl, (hfg x (by omega)).2.2, ?_, ?_, sw.look bx bd⟩
  · unfold stX; split <;> omega
  · unfold stM; split <;> omega
theorem bound_eq {n sa sv c0 y : Nat} {fg fb fp vg vb vr vs vn th : Nat → Int32} {fw : Nat → Int64} (hn : n ≤ 9) (hsa : sa < 2 ^ n) (hsv : sv < 2 ^ n) (hSB : SUBS sa sv n) (hsn : ∀ z, z < n → vn z = nF (nI sa) (nI sv) z) (hTB : TB fw vs c0 n) (hyc : y < c0) (hfg : ∀ z, z < 9 → fg z = vg z ∧ fb z = vb z ∧ fp z = vr z) (hth : ∀ z, z < 9 → th z = nI (3 ^ z)) {Gn Bn Pn : Nat → Nat} (hvb : VB fg fb fp Gn Bn Pn) (hmon : MON (isG fw y) n) {r' a b : Int64} (s1 : SR (fun t => (nI (t) &&& nI sa = nI sv) ∧ stl fw y n (nI 1) t) (fun t x => ∃ v : Int32, x = lf fg fb (nI (2 ^ n - 1)) (nI (t)) n * v.toInt64 ∧ LPX (stl fw y n (nI 1)) n sa Pn t v) (2 ^ n) a) (s2 : SR (fun t => (nI ((2 ^ n - 1) ^^^ t) &&& nI sa = nI sv) ∧ stl fw y n (nI 0) t) (fun t x => ∃ v : Int32, x = lf fg fb (nI (2 ^ n - 1)) (nI ((2 ^ n - 1) ^^^ t)) n * v.toInt64 ∧ LPX (stl fw y n (nI 0)) n sa Pn t v) (2 ^ n) b) (h' : SR (fun t => SCH (nowN vn n) n (nI t)) (fun t x => ∃ w : Int32, x = mwt vg vb (nI t) n * w.toInt64 ∧ SHW (Sg vs y) n (nowN vn n) (nI t) vr (2 ^ n) w) (2 ^ n) r') : a + b = r' := by
  have h2 := m_pow hn
  have h2p := m_powp n
  have hgb : ∀ z, z < n → fg z = vg z ∧ fb z = vb z := fun z hz => ⟨(hfg z (by omega)).1, (hfg z (by omega)).2.1⟩
  obtain ⟨F, hF⟩ : ∃ F : Nat → Int64, ∀ t x, (fun t x => ∃ w : Int32, x = mwt vg vb (nI t) n * w.toInt64 ∧ SHW (Sg vs y) n (nowN vn n) (nI t) vr (2 ^ n) w) t x → x = F t := by
    refine ⟨fun t => Classical.epsilon (fun x => (fun t x => ∃ w : Int32, x = mwt vg vb (nI t) n * w.toInt64 ∧ SHW (Sg vs y) n (nowN vn n) (nI t) vr (2 ^ n) w) t x), fun t x h => ?_⟩
    obtain ⟨w, e, g⟩ := h
    obtain ⟨w', e', g'⟩ := Classical.epsilon_spec (p := fun x => (fun t x => ∃ w : Int32, x = mwt vg vb (nI t) n * w.toInt64 ∧ SHW (Sg vs y) n (nowN vn n) (nI t) vr (2 ^ n) w) t x) ⟨x, w, e, g⟩
    show x = Classical.epsilon (fun x => (fun t x => ∃ w : Int32, x = mwt vg vb (nI t) n * w.toInt64 ∧ SHW (Sg vs y) n (nowN vn n) (nI t) vr (2 ^ n) w) t x)
    rw [e', e, g.uniq g']
  have fit : ∀ t, t < 2 ^ n → (nI t &&& nI sa = nI sv ↔ SCH (nowN vn n) n (nI t)) := fun t ht => fits_sch hn hsa hsv hSB hsn ht
  have e0 := SR.sf (F := F) h' (fun t _ _ x hx => hF t x hx)
  have e1 := SR.sf (F := F) s1 (fun t ht hp x hx => by
    obtain ⟨v, ex, hv⟩ := hx
    refine hF t x ⟨v, ?_, show_g hn hsa hsv hsn hTB hyc hfg hvb hmon ht ((sch_con hn hsa hsv hsn ht).mp ((fit t ht).mp hp.1)) hp.2 hv⟩
    rw [ex, lf_all hn hgb n (Nat.le_refl n)])
  have ub : ∀ u, u < 2 ^ n → ∀ z, z < n → (u / 2 ^ z % 2 = 1 ↔ ¬ ((2 ^ n - 1) ^^^ u) / 2 ^ z % 2 = 1) := fun u hu z hz => by
    have x := xor_bit (n := n) (s := u) hz
    have l : u / 2 ^ z % 2 < 2 := Nat.mod_lt _ (by decide)
    generalize ((2 ^ n - 1) ^^^ u) / 2 ^ z % 2 = A at x ⊢
    generalize u / 2 ^ z % 2 = B at x l ⊢
    omega
  have e2 := SR.sf (F := fun u => F ((2 ^ n - 1) ^^^ u)) s2 (fun u hu hp x hx => by
    obtain ⟨v, ex, hv⟩ := hx
    have hx9 : (2 ^ n - 1) ^^^ u < 2 ^ n := m_x9 (by omega) hu
    refine hF _ x ⟨v, ?_, show_b hn hsa hsv hsn hTB hyc hfg hvb hmon hx9 ((sch_con hn hsa hsv hsn hx9).mp ((fit _ hx9).mp hp.1)) (hp.2.1 nI_0) hu (ub u hu) hv⟩
    rw [ex, lf_all hn hgb n (Nat.le_refl n)])
  have e3 : SF (fun u => pif ((fun t => (nI ((2 ^ n - 1) ^^^ t) &&& nI sa = nI sv) ∧ stl fw y n (nI 0) t) u) (F ((2 ^ n - 1) ^^^ u)) (lN 0)) (2 ^ n) = SF (fun s => pif ((fun t => (nI ((2 ^ n - 1) ^^^ t) &&& nI sa = nI sv) ∧ stl fw y n (nI 0) t) ((2 ^ n - 1) ^^^ s)) (F s) (lN 0)) (2 ^ n) := by
    rw [← SF.rev (2 ^ n) (fun s => pif ((fun t => (nI ((2 ^ n - 1) ^^^ t) &&& nI sa = nI sv) ∧ stl fw y n (nI 0) t) ((2 ^ n - 1) ^^^ s)) (F s) (lN 0))]
    refine SF.cong _ (fun u hu => ?_)
    have x1 : 2 ^ n - 1 - u = (2 ^ n - 1) ^^^ u := (xor_all hu).symm
    have x2 : (2 ^ n - 1) ^^^ ((2 ^ n - 1) ^^^ u) = u := by rw [← Nat.xor_assoc, Nat.xor_self, Nat.zero_xor]
    show pif ((fun t => (nI ((2 ^ n - 1) ^^^ t) &&& nI sa = nI sv) ∧ stl fw y n (nI 0) t) u) (F ((2 ^ n - 1) ^^^ u)) (lN 0) = pif ((fun t => (nI ((2 ^ n - 1) ^^^ t) &&& nI sa = nI sv) ∧ stl fw y n (nI 0) t) ((2 ^ n - 1) ^^^ (2 ^ n - 1 - u))) (F (2 ^ n - 1 - u)) (lN 0)
    rw [x1, x2]
  rw [e1, e2, e3, e0, SF.add]
  refine SF.cong _ (fun t ht => ?_)
  have x2 : (2 ^ n - 1) ^^^ ((2 ^ n - 1) ^^^ t) = t := by rw [← Nat.xor_assoc, Nat.xor_self, Nat.zero_xor]
  have pb : (fun t => (nI ((2 ^ n - 1) ^^^ t) &&& nI sa = nI sv) ∧ stl fw y n (nI 0) t) ((2 ^ n - 1) ^^^ t) ↔ (nI t &&& nI sa = nI sv) ∧ ¬ isG fw y t := by
    show (nI ((2 ^ n - 1) ^^^ ((2 ^ n - 1) ^^^ t)) &&& nI sa = nI sv) ∧ stl fw y n (nI 0) ((2 ^ n - 1) ^^^ t) ↔ _
    unfold stl
    rw [x2]
    exact ⟨fun q => ⟨q.1, q.2.1 nI_0⟩, fun q => ⟨q.1, fun _ => q.2, fun w => absurd nI_0 w⟩⟩
  have pg : (fun t => (nI (t) &&& nI sa = nI sv) ∧ stl fw y n (nI 1) t) t ↔ (nI t &&& nI sa = nI sv) ∧ isG fw y t := ⟨fun q => ⟨q.1, q.2.2 (by decide)⟩, fun q => ⟨q.1, fun w => absurd w (by decide), fun _ => q.2⟩⟩
  show pif ((fun t => (nI (t) &&& nI sa = nI sv) ∧ stl fw y n (nI 1) t) t) (F t) (lN 0) + pif ((fun t => (nI ((2 ^ n - 1) ^^^ t) &&& nI sa = nI sv) ∧ stl fw y n (nI 0) t) ((2 ^ n - 1) ^^^ t)) (F t) (lN 0) = pif ((fun t => SCH (nowN vn n) n (nI t)) t) (F t) (lN 0)
  by_cases c : nI t &&& nI sa = nI sv
  · have c2 : (fun t => SCH (nowN vn n) n (nI t)) t := (fit t ht).mp c
    rw [pif_pos c2]
    by_cases g : isG fw y t
    · rw [pif_pos (pg.mpr ⟨c, g⟩), pif_neg (fun q => (pb.mp q).2 g), lN0, Int64.add_zero]
    · rw [pif_neg (fun q => g (pg.mp q).2), pif_pos (pb.mpr ⟨c, g⟩), lN0, Int64.zero_add]
  · have c2 : ¬ (fun t => SCH (nowN vn n) n (nI t)) t := fun q => c ((fit t ht).mpr q)
    rw [pif_neg c2, pif_neg (fun q => c (pg.mp q).1), pif_neg (fun q => c (pb.mp q).1), lN0, Int64.add_zero]
