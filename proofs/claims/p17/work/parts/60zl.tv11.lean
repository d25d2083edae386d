/-! told: both sides -/
theorem MinI.move {A B : Nat → Prop} {f g : Nat → Int} {v : Int} (h : MinI A f v) (ab : ∀ z, A z → ∃ y, B y ∧ g y ≤ f z) (ba : ∀ y, B y → ∃ z, A z ∧ f z ≤ g y) : MinI B g v := by
  obtain ⟨a, z, hz, e⟩ := h
  obtain ⟨y, p1, p2⟩ := ab z hz
  refine ⟨fun y hy => ?_, y, p1, ?_⟩
  · obtain ⟨z2, q1, q2⟩ := ba y hy
    have := a z2 q1
    omega
  · obtain ⟨z2, q1, q2⟩ := ba y p1
    have := a z2 q1
    omega
theorem SHW.uniq {S : Nat → Prop} {n cv k : Nat} {st w w' : Int32} {fp : Nat → Int32} (h : SHW S n cv st fp k w) (h' : SHW S n cv st fp k w') : w = w' := by
  rcases h with ⟨a, b⟩ | ⟨a, b⟩ <;> rcases h' with ⟨a', b'⟩ | ⟨a', b'⟩
  · rw [a, a']
  · obtain ⟨T, hT, -⟩ := b'.2
    exact absurd hT.2 (b T hT.1)
  · obtain ⟨T, hT, -⟩ := b.2
    exact absurd hT.2 (b' T hT.1)
  · exact i_eq.mpr (b.eq b' (fun _ => Iff.rfl) (fun _ _ => rfl))
theorem mwt_cong {fg fb vg vb : Nat → Int32} {st : Int32} : ∀ k, (∀ z, z < k → fg z = vg z ∧ fb z = vb z) → mwt fg fb st k = mwt vg vb st k
  | 0, _ => rfl
  | k + 1, h => by
    show mwt fg fb st k * _ = mwt vg vb st k * _
    rw [mwt_cong k (fun z hz => h z (by omega)), (h k (by omega)).1, (h k (by omega)).2]
theorem sch_con {n sa sv t : Nat} {vn : Nat → Int32} (hn : n ≤ 9) (ha : sa < 2 ^ n) (hv : sv < 2 ^ n) (h : ∀ z, z < n → vn z = nF (nI sa) (nI sv) z) (ht : t < 2 ^ n) : SCH (nowN vn n) n (nI t) ↔ CON sa sv n t := by
  have h2 := m_pow hn
  have key := now_key hn ha hv h
  have B : ∀ z, z < n → sb (nI t) z = t / 2 ^ z % 2 := fun z hz => mb_sb (by omega) (by omega)
  constructor
  · intro g z hz a
    have q := g z hz
    rw [key z hz, B z hz, if_neg (show ¬ sa / 2 ^ z % 2 = 0 by omega)] at q
    by_cases b : sv / 2 ^ z % 2 = 1
    · rw [if_pos b] at q
      exact ⟨fun _ => b, fun _ => (q.resolve_left (by decide)).mp rfl⟩
    · rw [if_neg b] at q
      exact ⟨fun w => absurd ((q.resolve_left (by decide)).mpr w) (by decide), fun w => absurd w b⟩
  · intro g z hz
    rw [key z hz, B z hz]
    by_cases a : sa / 2 ^ z % 2 = 0
    · rw [if_pos a]; exact Or.inl rfl
    · have l : sa / 2 ^ z % 2 < 2 := Nat.mod_lt _ (by decide)
      have q := g z hz (by omega)
      rw [if_neg a]
      refine Or.inr ?_
      by_cases b : sv / 2 ^ z % 2 = 1
      · rw [if_pos b]; exact ⟨fun _ => q.mpr b, fun _ => rfl⟩
      · rw [if_neg b]; exact ⟨fun w => absurd w (by decide), fun w => absurd (q.mp w) b⟩
theorem RUNP.len {qr fp : Nat → Int32} {q n t : Nat} {U : Nat → Prop} {Pn : Nat → Nat} (hf : ∀ z, z < 9 → fp z = nI (Pn z) ∧ Pn z ≤ 1000) (hn : n ≤ 9) : ∀ {k s : Nat} {v : Int32}, s < 3 ^ n → RUNP (NXO qr q n) U fp (stX t) k s v → k + seenN s n ≤ n ∧ ∃ m, m ≤ 1000 * k ∧ v = nI m
  | 0, s, v, _, h => ⟨by have := seenN_le s n; omega, 0, by omega, h.2⟩
  | k + 1, s, v, hs, h => by
    obtain ⟨a, x, w, b, c, e⟩ := h
    have fr := b.2.free
    have dx : s / 3 ^ x % 3 = 0 := by
      rcases fr with ⟨f1, -⟩ | ⟨x2, f1, f2, f3⟩
      · exact absurd f1 (nI_ne1 (by have := b.1; omega))
      · have e2 := nI_inn hn b.1 f1 f2
        rw [e2]; exact f3
    have u := m_up hs b.1 dx
    have p := m_p3p x
    obtain ⟨s1, s2⟩ := seen1 (n := n) dx b.1
    have st : stX t s x < 3 ^ n ∧ seenN (stX t s x) n = seenN s n + 1 := by
      unfold stX
      by_cases g : t / 2 ^ x % 2 = 1
      · rw [if_pos g, show s + 3 ^ x * 2 = s + 3 ^ x + 3 ^ x by omega]; exact ⟨by omega, s2⟩
      · rw [if_neg g, Nat.mul_one]; exact ⟨by omega, s1⟩
    obtain ⟨k1, m, k2, k3⟩ := RUNP.len hf hn st.1 c
    obtain ⟨f1, f2⟩ := hf x (by have := b.1; omega)
    rw [st.2] at k1
    exact ⟨by omega, Pn x + m, by omega, by rw [e, f1, k3, nI_add]⟩
section LKSS
variable {n sa sv t T : Nat} {vn : Nat → Int32}
/-- the digits behind looking at T -/
theorem lks_now (hn : n ≤ 9) (ha : sa < 2 ^ n) (hv : sv < 2 ^ n) (h : ∀ z, z < n → vn z = nF (nI sa) (nI sv) z) (ht : t < 2 ^ n) : ∀ z, z < n → lks (nowN vn n) (nI t) T n / 3 ^ z % 3 = if sa / 2 ^ z % 2 = 0 then (if T / 2 ^ z % 2 = 1 then (if t / 2 ^ z % 2 = 1 then 1 else 2) else 0) else if sv / 2 ^ z % 2 = 1 then 1 else 2 := fun z hz => by
  have h2 := m_pow hn
  rw [(lks_dig (T := T) (st := nI t) (nowN_lt vn n) n (Nat.le_refl n)).2 z, now_key hn ha hv h z hz, mb_sb (a := t) (by omega) (by omega)]
  by_cases a : sa / 2 ^ z % 2 = 0
  · rw [if_pos a, if_pos a]
    by_cases b : T / 2 ^ z % 2 = 1
    · rw [if_pos ⟨hz, b, rfl⟩, if_pos b]
    · rw [if_neg (fun q => b q.2.1), if_neg b]
  · rw [if_neg a, if_neg a]
    by_cases b : sv / 2 ^ z % 2 = 1
    · rw [if_pos b, if_neg (fun q => absurd q.2.2 (by decide))]
    · rw [if_neg b, if_neg (fun q => absurd q.2.2 (by decide))]
end LKSS
section SHOWS
variable {n sa sv c0 y t : Nat} {fg fb fp vg vb vr vs vn : Nat → Int32} {fw : Nat → Int64} {Gn Bn Pn : Nat → Nat}
theorem may_now {T : Nat} (hn : n ≤ 9) (ha : sa < 2 ^ n) (hv : sv < 2 ^ n) (h : ∀ z, z < n → vn z = nF (nI sa) (nI sv) z) {z : Nat} (hz : z < n) : nowN vn n / 3 ^ z % 3 = 0 ↔ sa / 2 ^ z % 2 = 0 := by
  rw [now_key hn ha hv h z hz]
  by_cases a : sa / 2 ^ z % 2 = 0
  · rw [if_pos a]; exact ⟨fun _ => a, fun _ => rfl⟩
  · rw [if_neg a]
    refine ⟨fun q => ?_, fun q => absurd q a⟩
    by_cases b : sv / 2 ^ z % 2 = 1
    · rw [if_pos b] at q; exact absurd q (by decide)
    · rw [if_neg b] at q; exact absurd q (by decide)
theorem pU_free {D : Nat} : ∀ k, k ≤ n → pU Pn 0 (D &&& ((2 ^ n - 1) ^^^ sa)) k = pU Pn sa D k
  | 0, _ => rfl
  | k + 1, hk => by
    show pU Pn 0 _ k + _ = pU Pn sa D k + _
    rw [pU_free k (by omega)]
    congr 1
    have f := free_bit (t := D) (sa := sa) (show k < n by omega)
    by_cases a : D / 2 ^ k % 2 = 1 ∧ sa / 2 ^ k % 2 = 0
    · rw [if_pos a, if_pos ⟨f.mpr a, by rw [Nat.zero_div]⟩]
    · rw [if_neg a, if_neg (fun q => a (f.mp q.1))]
theorem pU_into {D T : Nat} : ∀ k, (∀ z, z < k → sa / 2 ^ z % 2 = 0 → D / 2 ^ z % 2 = 1 → T / 2 ^ z % 2 = 1) → pU Pn sa D k ≤ pU Pn 0 T k
  | 0, _ => Nat.le_refl _
  | k + 1, h => by
    have g := pU_into k (fun z hz => h z (by omega))
    show pU Pn sa D k + _ ≤ pU Pn 0 T k + _
    by_cases a : D / 2 ^ k % 2 = 1 ∧ sa / 2 ^ k % 2 = 0
    · rw [if_pos a, if_pos ⟨h k (by omega) a.2 a.1, by rw [Nat.zero_div]⟩]; omega
    · rw [if_neg a]; omega
theorem VBm {fg fb fp vg vb vr : Nat → Int32} {Gn Bn Pn : Nat → Nat} (hvb : VB fg fb fp Gn Bn Pn) (hfg : ∀ z, z < 9 → fg z = vg z ∧ fb z = vb z ∧ fp z = vr z) : VB vg vb vr Gn Bn Pn := hvb.m hfg
/-- a good setting -/
theorem show_g {v : Int32} (hn : n ≤ 9) (hsa : sa < 2 ^ n) (hsv : sv < 2 ^ n) (hsn : ∀ z, z < n → vn z = nF (nI sa) (nI sv) z) (hTB : TB fw vs c0 n) (hyc : y < c0) (hfg : ∀ z, z < 9 → fg z = vg z ∧ fb z = vb z ∧ fp z = vr z) (hvb : VB fg fb fp Gn Bn Pn) (hmon : MON (isG fw y) n) (ht : t < 2 ^ n) (hc : CON sa sv n t) (hg : stl fw y n (nI 1) t) (h : LPX (stl fw y n (nI 1)) n sa Pn t v) : SHW (Sg vs y) n (nowN vn n) (nI t) vr (2 ^ n) v := by
  have h2 := m_pow hn
  have h2p := m_powp n
  have hvm := VBm hvb hfg
  have gt : isG fw y t := hg.2 (by decide)
  have dg := fun (T z : Nat) (hz : z < n) => lks_now (T := T) hn hsa hsv hsn ht z hz
  refine Or.inr ⟨?_, MinI.move h (fun D hD => ?_) (fun T hT => ?_)⟩
  · obtain ⟨-, D, -, e⟩ := h
    have e2 : v.toInt = (pU Pn sa D n : Int) := e
    omega
  · obtain ⟨d1, d2, d3, d4⟩ := hD
    have fl : D &&& ((2 ^ n - 1) ^^^ sa) < 2 ^ n := Nat.lt_of_le_of_lt Nat.and_le_left d1
    refine ⟨D &&& ((2 ^ n - 1) ^^^ sa), ⟨fl, fun z hz b => ?_, fun us => us.1 ?_⟩, ?_⟩
    · exact (may_now (T := 0) hn hsa hsv hsn hz).mpr ((free_bit hz).mp b).2
    · have e : setN (lks (nowN vn n) (nI t) (D &&& ((2 ^ n - 1) ^^^ sa)) n) 1 n = D := by
        refine bits_eq (setN_lt _ 1 n) d1 (fun z hz => ?_)
        rw [setN_bit n z hz, dg _ z hz]
        have f := free_bit (t := D) (sa := sa) hz
        by_cases a : sa / 2 ^ z % 2 = 0
        · rw [if_pos a]
          by_cases b : D / 2 ^ z % 2 = 1
          · rw [if_pos (f.mpr ⟨b, a⟩), if_pos (d2 z b)]; exact ⟨fun _ => b, fun _ => rfl⟩
          · rw [if_neg (fun q => b (f.mp q).1)]; exact ⟨fun q => absurd q (by decide), fun q => absurd q b⟩
        · rw [if_neg a]
          have l : sa / 2 ^ z % 2 < 2 := Nat.mod_lt _ (by decide)
          have q1 := d3 z hz (by omega)
          have q2 := hc z hz (by omega)
          by_cases b : sv / 2 ^ z % 2 = 1
          · rw [if_pos b]; exact ⟨fun _ => q1.mpr (q2.mpr b), fun _ => rfl⟩
          · rw [if_neg b]; exact ⟨fun q => absurd q (by decide), fun q => absurd (q2.mp (q1.mp q)) b⟩
      rw [e]
      exact (hTB y D hyc d1).mp (d4.2 (by decide))
    · show (pf vr (nI (D &&& ((2 ^ n - 1) ^^^ sa))) n).toInt ≤ (pU Pn sa D n : Int)
      rw [pf_nat hvm hn (by omega), pU_free n (Nat.le_refl n)]
      exact Int.le_refl _
  · obtain ⟨t1, t2, t3⟩ := hT
    have bit : ∀ z, z < n → (setN (lks (nowN vn n) (nI t) T n) 1 n / 2 ^ z % 2 = 1 ↔ t / 2 ^ z % 2 = 1 ∧ (sa / 2 ^ z % 2 = 1 ∨ T / 2 ^ z % 2 = 1)) := fun z hz => by
      rw [setN_bit n z hz, dg T z hz]
      have l : sa / 2 ^ z % 2 < 2 := Nat.mod_lt _ (by decide)
      by_cases a : sa / 2 ^ z % 2 = 0
      · rw [if_pos a]
        by_cases b : T / 2 ^ z % 2 = 1
        · rw [if_pos b]
          by_cases w : t / 2 ^ z % 2 = 1
          · rw [if_pos w]; exact ⟨fun _ => ⟨w, Or.inr b⟩, fun _ => rfl⟩
          · rw [if_neg w]; exact ⟨fun q => absurd q (by decide), fun q => absurd q.1 w⟩
        · rw [if_neg b]; exact ⟨fun q => absurd q (by decide), fun q => q.2.elim (fun e => absurd e (by omega)) (fun e => absurd e b)⟩
      · rw [if_neg a]
        have q2 := hc z hz (by omega)
        by_cases b : sv / 2 ^ z % 2 = 1
        · rw [if_pos b]; exact ⟨fun _ => ⟨q2.mpr b, Or.inl (by omega)⟩, fun _ => rfl⟩
        · rw [if_neg b]; exact ⟨fun q => absurd q (by decide), fun q => absurd (q2.mp q.1) b⟩
    have lt := setN_lt (lks (nowN vn n) (nI t) T n) 1 n
    refine ⟨setN (lks (nowN vn n) (nI t) T n) 1 n, ⟨lt, fun z b => ((bit z (bit_lt lt b)).mp b).1, fun z hz a => ⟨fun b => ((bit z hz).mp b).1, fun b => (bit z hz).mpr ⟨b, Or.inl a⟩⟩, ⟨fun q => absurd q (by decide), fun _ => ?_⟩⟩, ?_⟩
    · by_cases w : isG fw y (setN (lks (nowN vn n) (nI t) T n) 1 n)
      · exact w
      · refine (t3 ⟨fun q => w ((hTB y _ hyc lt).mpr q), (hTB y _ hyc (by omega)).mp (hmon t _ ht (by omega) (fun z b => ?_) gt)⟩).elim
        have hz := bit_lt ht b
        rw [← xor_all (setN_lt _ 2 n), xor_bit hz]
        have l2 : setN (lks (nowN vn n) (nI t) T n) 2 n / 2 ^ z % 2 < 2 := Nat.mod_lt _ (by decide)
        by_cases w2 : setN (lks (nowN vn n) (nI t) T n) 2 n / 2 ^ z % 2 = 1
        · rw [setN_bit n z hz, dg T z hz] at w2
          have l : sa / 2 ^ z % 2 < 2 := Nat.mod_lt _ (by decide)
          by_cases a : sa / 2 ^ z % 2 = 0
          · rw [if_pos a] at w2
            by_cases b2 : T / 2 ^ z % 2 = 1
            · rw [if_pos b2, if_pos b] at w2; exact absurd w2 (by decide)
            · rw [if_neg b2] at w2; exact absurd w2 (by decide)
          · rw [if_neg a] at w2
            rw [if_pos ((hc z hz (by omega)).mp b)] at w2
            exact absurd w2 (by decide)
        · omega
    · show (pU Pn sa (setN (lks (nowN vn n) (nI t) T n) 1 n) n : Int) ≤ (pf vr (nI T) n).toInt
      rw [pf_nat hvm hn (by omega)]
      have := pU_into (Pn := Pn) (sa := sa) (D := setN (lks (nowN vn n) (nI t) T n) 1 n) (T := T) n (fun z hz a b => ((bit z hz).mp b).2.resolve_left (by omega))
      omega
/-- a bad setting -/
theorem show_b {v : Int32} (hn : n ≤ 9) (hsa : sa < 2 ^ n) (hsv : sv < 2 ^ n) (hsn : ∀ z, z < n → vn z = nF (nI sa) (nI sv) z) (hTB : TB fw vs c0 n) (hyc : y < c0) (hfg : ∀ z, z < 9 → fg z = vg z ∧ fb z = vb z ∧ fp z = vr z) (hvb : VB fg fb fp Gn Bn Pn) (hmon : MON (isG fw y) n) (ht : t < 2 ^ n) (hc : CON sa sv n t) (hg : ¬ isG fw y t) {u : Nat} (hu : u < 2 ^ n) (hut : ∀ z, z < n → (u / 2 ^ z % 2 = 1 ↔ ¬ t / 2 ^ z % 2 = 1)) (h : LPX (stl fw y n (nI 0)) n sa Pn u v) : SHW (Sg vs y) n (nowN vn n) (nI t) vr (2 ^ n) v := by
  have h2 := m_pow hn
  have h2p := m_powp n
  have hvm := VBm hvb hfg
  have dg := fun (T z : Nat) (hz : z < n) => lks_now (T := T) hn hsa hsv hsn ht z hz
  refine Or.inr ⟨?_, MinI.move h (fun D hD => ?_) (fun T hT => ?_)⟩
  · obtain ⟨-, D, -, e⟩ := h
    have e2 : v.toInt = (pU Pn sa D n : Int) := e
    omega
  · obtain ⟨d1, d2, d3, d4⟩ := hD
    have fl : D &&& ((2 ^ n - 1) ^^^ sa) < 2 ^ n := Nat.lt_of_le_of_lt Nat.and_le_left d1
    refine ⟨D &&& ((2 ^ n - 1) ^^^ sa), ⟨fl, fun z hz b => ?_, fun us => ?_⟩, ?_⟩
    · exact (may_now (T := 0) hn hsa hsv hsn hz).mpr ((free_bit hz).mp b).2
    · have e : setN (lks (nowN vn n) (nI t) (D &&& ((2 ^ n - 1) ^^^ sa)) n) 2 n = D := by
        refine bits_eq (setN_lt _ 2 n) d1 (fun z hz => ?_)
        rw [setN_bit n z hz, dg _ z hz]
        have f := free_bit (t := D) (sa := sa) hz
        by_cases a : sa / 2 ^ z % 2 = 0
        · rw [if_pos a]
          by_cases b : D / 2 ^ z % 2 = 1
          · rw [if_pos (f.mpr ⟨b, a⟩), if_neg ((hut z hz).mp (d2 z b))]; exact ⟨fun _ => b, fun _ => rfl⟩
          · rw [if_neg (fun q => b (f.mp q).1)]; exact ⟨fun q => absurd q (by decide), fun q => absurd q b⟩
        · rw [if_neg a]
          have l : sa / 2 ^ z % 2 < 2 := Nat.mod_lt _ (by decide)
          have q1 := d3 z hz (by omega)
          have q2 := hc z hz (by omega)
          by_cases b : sv / 2 ^ z % 2 = 1
          · rw [if_pos b]; exact ⟨fun q => absurd q (by decide), fun q => absurd (q2.mpr b) ((hut z hz).mp (q1.mp q))⟩
          · rw [if_neg b]; exact ⟨fun _ => q1.mpr ((hut z hz).mpr (fun q => b (q2.mp q))), fun _ => rfl⟩
      have s2 := us.2
      rw [e, ← xor_all d1] at s2
      exact d4.1 nI_0 ((hTB y _ hyc (m_x9 (by omega) d1)).mpr s2)
    · show (pf vr (nI (D &&& ((2 ^ n - 1) ^^^ sa))) n).toInt ≤ (pU Pn sa D n : Int)
      rw [pf_nat hvm hn (by omega), pU_free n (Nat.le_refl n)]
      exact Int.le_refl _
  · obtain ⟨t1, t2, t3⟩ := hT
    have bit : ∀ z, z < n → (setN (lks (nowN vn n) (nI t) T n) 2 n / 2 ^ z % 2 = 1 ↔ ¬ t / 2 ^ z % 2 = 1 ∧ (sa / 2 ^ z % 2 = 1 ∨ T / 2 ^ z % 2 = 1)) := fun z hz => by
      rw [setN_bit n z hz, dg T z hz]
      have l : sa / 2 ^ z % 2 < 2 := Nat.mod_lt _ (by decide)
      by_cases a : sa / 2 ^ z % 2 = 0
      · rw [if_pos a]
        by_cases b : T / 2 ^ z % 2 = 1
        · rw [if_pos b]
          by_cases w : t / 2 ^ z % 2 = 1
          · rw [if_pos w]; exact ⟨fun q => absurd q (by decide), fun q => absurd w q.1⟩
          · rw [if_neg w]; exact ⟨fun _ => ⟨w, Or.inr b⟩, fun _ => rfl⟩
        · rw [if_neg b]; exact ⟨fun q => absurd q (by decide), fun q => q.2.elim (fun e => absurd e (by omega)) (fun e => absurd e b)⟩
      · rw [if_neg a]
        have q2 := hc z hz (by omega)
        by_cases b : sv / 2 ^ z % 2 = 1
        · rw [if_pos b]; exact ⟨fun q => absurd q (by decide), fun q => absurd (q2.mpr b) q.1⟩
        · rw [if_neg b]; exact ⟨fun _ => ⟨fun q => b (q2.mp q), Or.inl (by omega)⟩, fun _ => rfl⟩
    have lt := setN_lt (lks (nowN vn n) (nI t) T n) 2 n
    refine ⟨setN (lks (nowN vn n) (nI t) T n) 2 n, ⟨lt, fun z b => ?_, fun z hz a => ⟨fun b => (hut z hz).mpr ((bit z hz).mp b).1, fun b => (bit z hz).mpr ⟨(hut z hz).mp b, Or.inl a⟩⟩, ⟨fun _ q => ?_, fun q => absurd nI_0 q⟩⟩, ?_⟩
    · have hz := bit_lt lt b
      exact (hut z hz).mpr ((bit z hz).mp b).1
    · rw [xor_all lt] at q
      refine t3 ⟨fun w => hg (hmon _ t (setN_lt _ 1 n) ht (fun z b => ?_) ((hTB y _ hyc (setN_lt _ 1 n)).mpr w)), (hTB y _ hyc (by omega)).mp q⟩
      have hz := bit_lt (setN_lt _ 1 n) b
      rw [setN_bit n z hz, dg T z hz] at b
      have l : sa / 2 ^ z % 2 < 2 := Nat.mod_lt _ (by decide)
      by_cases a : sa / 2 ^ z % 2 = 0
      · rw [if_pos a] at b
        by_cases b2 : T / 2 ^ z % 2 = 1
        · rw [if_pos b2] at b
          by_cases w2 : t / 2 ^ z % 2 = 1
          · exact w2
          · rw [if_neg w2] at b; exact absurd b (by decide)
        · rw [if_neg b2] at b; exact absurd b (by decide)
      · rw [if_neg a] at b
        by_cases b2 : sv / 2 ^ z % 2 = 1
        · exact (hc z hz (by omega)).mpr b2
        · rw [if_neg b2] at b; exact absurd b (by decide)
    · show (pU Pn sa (setN (lks (nowN vn n) (nI t) T n) 2 n) n : Int) ≤ (pf vr (nI T) n).toInt
      rw [pf_nat hvm hn (by omega)]
      have := pU_into (Pn := Pn) (sa := sa) (D := setN (lks (nowN vn n) (nI t) T n) 2 n) (T := T) n (fun z hz a b => ((bit z hz).mp b).2.resolve_left (by omega))
      omega
end SHOWS
