/-! the next part of a plan -/
theorem digs_eq {a b : Nat} : ∀ n, a < 3 ^ n → b < 3 ^ n → (∀ z, z < n → a / 3 ^ z % 3 = b / 3 ^ z % 3) → a = b := by
  have key : ∀ n, (∀ z, z < n → a / 3 ^ z % 3 = b / 3 ^ z % 3) → a % 3 ^ n = b % 3 ^ n := by
    intro n
    induction n with
    | zero => intro _; rw [Nat.pow_zero, Nat.mod_one, Nat.mod_one]
    | succ k ih =>
      intro h
      have e1 : a % (3 ^ k * 3) = a % 3 ^ k + 3 ^ k * (a / 3 ^ k % 3) := Nat.mod_mul
      have e2 : b % (3 ^ k * 3) = b % 3 ^ k + 3 ^ k * (b / 3 ^ k % 3) := Nat.mod_mul
      rw [Nat.pow_succ, e1, e2, ih (fun z hz => h z (by omega)), h k (by omega)]
  intro n ha hb h
  have e := key n h
  rw [Nat.mod_eq_of_lt ha, Nat.mod_eq_of_lt hb] at e
  exact e
def NXA (r : Int32) (n : Nat) (B G : Nat → Prop) : Prop := (r = -1 ∧ ∀ z, z < n → B z → ¬ G z) ∨ (∃ x, r = nI x ∧ FRS n B G x)
theorem st_sets {n lk gd : Nat} (hl : lk < 2 ^ n) (hg : gd < 2 ^ n) (hs : SUBS lk gd n) : setN (stN lk gd n) 2 n = gd ∧ 2 ^ n - 1 - setN (stN lk gd n) 1 n = gd ||| ((2 ^ n - 1) ^^^ lk) := by
  have h2p := m_powp n
  constructor
  · rw [setN_is (s := gd) n (fun z hz => ?_), Nat.mod_eq_of_lt hg]
    rw [stN_dig n z hz]
    by_cases a : lk / 2 ^ z % 2 = 1
    · rw [if_pos a]
      by_cases b : gd / 2 ^ z % 2 = 1
      · rw [if_pos b]; exact ⟨fun _ => b, fun _ => rfl⟩
      · rw [if_neg b]; exact ⟨fun q => absurd q (by decide), fun q => absurd q b⟩
    · rw [if_neg a]
      have l : lk / 2 ^ z % 2 < 2 := Nat.mod_lt _ (by decide)
      have b := hs z hz (by omega)
      exact ⟨fun q => absurd q (by decide), fun q => absurd q (by omega)⟩
  · have hx : (2 ^ n - 1) ^^^ lk < 2 ^ n := m_x9 (by omega) hl
    have ho : gd ||| ((2 ^ n - 1) ^^^ lk) < 2 ^ n := m_or9 hg hx
    have q : setN (stN lk gd n) 1 n = (2 ^ n - 1) ^^^ (gd ||| ((2 ^ n - 1) ^^^ lk)) := by
      rw [setN_is (s := (2 ^ n - 1) ^^^ (gd ||| ((2 ^ n - 1) ^^^ lk))) n (fun z hz => ?_), Nat.mod_eq_of_lt (m_x9 (by omega) ho)]
      rw [stN_dig n z hz, xor_bit hz]
      have ob := or_bit2 gd ((2 ^ n - 1) ^^^ lk) z
      rw [xor_bit hz] at ob
      have l1 : (gd ||| ((2 ^ n - 1) ^^^ lk)) / 2 ^ z % 2 < 2 := Nat.mod_lt _ (by decide)
      have l2 : lk / 2 ^ z % 2 < 2 := Nat.mod_lt _ (by decide)
      by_cases a : lk / 2 ^ z % 2 = 1
      · rw [if_pos a]
        by_cases b : gd / 2 ^ z % 2 = 1
        · have o := ob.mpr (Or.inl b)
          rw [if_pos b]
          exact ⟨fun w => absurd w (by decide), fun w => absurd w (by omega)⟩
        · have o : ¬ (gd ||| ((2 ^ n - 1) ^^^ lk)) / 2 ^ z % 2 = 1 := fun w => (ob.mp w).elim b (fun w2 => by omega)
          rw [if_neg b]
          exact ⟨fun _ => by omega, fun _ => rfl⟩
      · have o := ob.mpr (Or.inr (by omega))
        rw [if_neg a]
        exact ⟨fun w => absurd w (by decide), fun w => absurd w (by omega)⟩
    rw [q, xor_all ho]
    generalize gd ||| ((2 ^ n - 1) ^^^ lk) = t at ho ⊢
    omega
theorem st_us {fw : Nat → Int64} {y n lk gd : Nat} (hl : lk < 2 ^ n) (hg : gd < 2 ^ n) (hs : SUBS lk gd n) : US (isG fw y) n 2 1 (stN lk gd n) ↔ NV fw y gd ((2 ^ n - 1) ^^^ lk) := by
  obtain ⟨a, b⟩ := st_sets hl hg hs
  unfold US NV
  rw [a, b]
theorem st_bit {n lk gd z : Nat} (hz : z < n) : ((2 ^ n - 1) ^^^ lk) / 2 ^ z % 2 = 1 ↔ stN lk gd n / 3 ^ z % 3 = 0 := by
  rw [xor_bit hz, stN_dig n z hz]
  have l : lk / 2 ^ z % 2 < 2 := Nat.mod_lt _ (by decide)
  by_cases a : lk / 2 ^ z % 2 = 1
  · rw [if_pos a]
    by_cases b : gd / 2 ^ z % 2 = 1
    · rw [if_pos b]; exact ⟨fun w => absurd w (by omega), fun w => absurd w (by decide)⟩
    · rw [if_neg b]; exact ⟨fun w => absurd w (by omega), fun w => absurd w (by decide)⟩
  · rw [if_neg a]; exact ⟨fun _ => rfl, fun _ => by omega⟩
theorem nx_some {r : Int32} {n un s : Nat} {f f' : Nat → Int} {v : Int} (w : NXA r n (fun z => un / 2 ^ z % 2 = 1) (fun z => f z = v)) (hb : ∀ z, z < n → (un / 2 ^ z % 2 = 1 ↔ s / 3 ^ z % 3 = 0)) (hf : ∀ z, f z = f' z) (hm : MinI (fun z => z < n ∧ s / 3 ^ z % 3 = 0) f' v) : ∃ x, r = nI x ∧ FRS n (fun z => s / 3 ^ z % 3 = 0) (fun z => f' z = v) x := by
  rcases w with ⟨-, a⟩ | ⟨x, e, a, b, c, d⟩
  · obtain ⟨-, z, hz, e⟩ := hm
    exact absurd ((hf z).trans e.symm) (a z hz.1 ((hb z hz.1).mpr hz.2))
  · refine ⟨x, e, a, (hb x a).mp b, (hf x).symm.trans c, fun z hz hz2 q => d z hz ((hb z (by omega)).mpr hz2) ((hf z).trans q)⟩
/-- the next part of BEST (pl 0) and of WORST (pl 1) in the state s -/
def NXV (S : Nat → Prop) (n : Nat) (fg fb fp : Nat → Int32) (pl s x : Nat) : Prop := ∃ (e : Nat → Int64) (u : Nat → Int32), OKT S n fg fb fp e u 0 ∧ (pl = 0 → FRS n (fun z => s / 3 ^ z % 3 = 0) (fun z => (mE fp e (wd fg fb 2 s n) s z).toInt = (e s).toInt) x) ∧ (¬ pl = 0 → FRS n (fun z => s / 3 ^ z % 3 = 0) (fun z => (mW fp u s z).toInt = (u s).toInt) x)
theorem NXV.free {S : Nat → Prop} {n pl s x : Nat} {fg fb fp : Nat → Int32} (h : NXV S n fg fb fp pl s x) : x < n ∧ s / 3 ^ x % 3 = 0 := by
  obtain ⟨e, u, -, a, b⟩ := h
  by_cases q : pl = 0
  · exact ⟨(a q).1, (a q).2.1⟩
  · exact ⟨(b q).1, (b q).2.1⟩
theorem nxv0 {r : Int32} {fw : Nat → Int64} {y n lk gd pl : Nat} {fg fb fp : Nat → Int32} {e : Nat → Int64} {u : Nat → Int32} (hok : OKT (isG fw y) n fg fb fp e u 0) (hn : n ≤ 9) (hl : lk < 2 ^ n) (hg : gd < 2 ^ n) (hs : SUBS lk gd n) (nv : NV fw y gd ((2 ^ n - 1) ^^^ lk)) (hp : pl = 0)
    (w : NXA r n (fun z => ((2 ^ n - 1) ^^^ lk) / 2 ^ z % 2 = 1) (fun z => (mE fp e (lf fg fb (nI lk) (nI gd) n) (stN lk gd n) z).toInt = (e (stN lk gd n)).toInt)) : ∃ x, r = nI x ∧ NXV (isG fw y) n fg fb fp pl (stN lk gd n) x := by
  have h2 := m_pow hn
  have m := ((hok (stN lk gd n) (Nat.zero_le _) (stN_lt lk gd n)).2 ((st_us hl hg hs).mpr nv)).1
  obtain ⟨x, a, b⟩ := nx_some (f := fun z => (mE fp e (lf fg fb (nI lk) (nI gd) n) (stN lk gd n) z).toInt) w (fun z hz => st_bit hz) (fun z => by rw [lf_wd (n := n) (by omega) (by omega) n (Nat.le_refl n) hn]) m
  exact ⟨x, a, e, u, hok, fun _ => b, fun q => absurd hp q⟩
theorem nxv1 {r : Int32} {fw : Nat → Int64} {y n lk gd pl : Nat} {fg fb fp : Nat → Int32} {e : Nat → Int64} {u : Nat → Int32} (hok : OKT (isG fw y) n fg fb fp e u 0) (hl : lk < 2 ^ n) (hg : gd < 2 ^ n) (hs : SUBS lk gd n) (nv : NV fw y gd ((2 ^ n - 1) ^^^ lk)) (hp : ¬ pl = 0)
    (w : NXA r n (fun z => ((2 ^ n - 1) ^^^ lk) / 2 ^ z % 2 = 1) (fun z => (mW fp u (stN lk gd n) z).toInt = (u (stN lk gd n)).toInt)) : ∃ x, r = nI x ∧ NXV (isG fw y) n fg fb fp pl (stN lk gd n) x := by
  have m := ((hok (stN lk gd n) (Nat.zero_le _) (stN_lt lk gd n)).2 ((st_us hl hg hs).mpr nv)).2
  obtain ⟨x, a, b⟩ := nx_some (f := fun z => (mW fp u (stN lk gd n) z).toInt) w (fun z hz => st_bit hz) (fun _ => rfl) m
  exact ⟨x, a, e, u, hok, fun q => absurd q hp, fun _ => b⟩
/-! a run of a plan -/
/-- k looks from the state s on, in the setting j: the price v -/
def RUNP (NX : Nat → Nat → Prop) (U : Nat → Prop) (fp : Nat → Int32) (st : Nat → Nat → Nat) : Nat → Nat → Int32 → Prop
  | 0, s, v => ¬ U s ∧ v = nI 0
  | k + 1, s, v => U s ∧ ∃ x w, NX s x ∧ RUNP NX U fp st k (st s x) w ∧ v = fp x + w
theorem add_0n (x : Int32) : x + nI 0 = x := add_n0 x
/-- what was paid so far, and what comes -/
def PAID (NX : Nat → Nat → Prop) (U : Nat → Prop) (fp : Nat → Int32) (st : Nat → Nat → Nat) (i s0 s : Nat) (pv : Int32) : Prop := ∀ k w, RUNP NX U fp st k s w → RUNP NX U fp st (i + k) s0 (pv + w)
section PAIDS
variable {NX : Nat → Nat → Prop} {U : Nat → Prop} {fp : Nat → Int32} {st : Nat → Nat → Nat} {i s0 s x : Nat} {pv : Int32}
theorem PAID.nil : PAID NX U fp st 0 s s (nI 0) := fun k w h => by
  have e : nI 0 + w = w := by rw [nI_0]; exact Int32.zero_add w
  rw [e, Nat.zero_add]
  exact h
theorem PAID.step (h : PAID NX U fp st i s0 s pv) (hu : U s) (hx : NX s x) : PAID NX U fp st (i + 1) s0 (st s x) (pv + fp x) := fun k w g => by
  have e := h (k + 1) (fp x + w) ⟨hu, x, w, hx, g, rfl⟩
  rw [show i + 1 + k = i + (k + 1) by omega, Int32.add_assoc]
  exact e
theorem PAID.fin (h : PAID NX U fp st i s0 s pv) (hu : ¬ U s) : RUNP NX U fp st i s0 pv := by
  have e := h 0 (nI 0) ⟨hu, rfl⟩
  rw [add_n0] at e
  exact e
end PAIDS
theorem RUNP.eq {NX NX' : Nat → Nat → Prop} {U U' : Nat → Prop} {fp fp' : Nat → Int32} {st st' : Nat → Nat → Nat} {R : Nat → Nat → Prop} (hU : ∀ s c, R s c → (U s ↔ U' c)) (hN : ∀ s c x x', R s c → U s → NX s x → NX' c x' → x = x' ∧ fp x = fp' x' ∧ R (st s x) (st' c x')) : ∀ {k k' s c : Nat} {v v' : Int32}, R s c → RUNP NX U fp st k s v → RUNP NX' U' fp' st' k' c v' → k = k' ∧ v = v'
  | 0, 0, s, c, v, v', hR, h, h' => by
    obtain ⟨a, b⟩ := h
    obtain ⟨a', b'⟩ := h'
    exact ⟨rfl, b.trans b'.symm⟩
  | 0, k' + 1, s, c, v, v', hR, h, h' => absurd ((hU s c hR).mpr h'.1) h.1
  | k + 1, 0, s, c, v, v', hR, h, h' => absurd ((hU s c hR).mp h.1) h'.1
  | k + 1, k' + 1, s, c, v, v', hR, h, h' => by
    obtain ⟨a, x, w, b, g, e⟩ := h
    obtain ⟨a', x', w', b', g', e'⟩ := h'
    obtain ⟨p, q, r⟩ := hN s c x x' hR a b b'
    obtain ⟨q1, q2⟩ := RUNP.eq hU hN (k := k) (k' := k') r g g'
    rw [e, e', q, q2, q1]
    exact ⟨rfl, rfl⟩
/-- a look in the setting j, in the class's digits and in the reference's -/
def stX (j s x : Nat) : Nat := s + 3 ^ x * (if j / 2 ^ x % 2 = 1 then 2 else 1)
def stM (j c x : Nat) : Nat := c + 3 ^ x * (if j / 2 ^ x % 2 = 1 then 1 else 2)
theorem st_look {n lk j x : Nat} (hx : x < n) (hb : lk / 2 ^ x % 2 = 0) : stN (lk ||| 2 ^ x) (j &&& (lk ||| 2 ^ x)) n = stX j (stN lk (j &&& lk) n) x := by
  have dx : stN lk (j &&& lk) n / 3 ^ x % 3 = 0 := by rw [stN_dig n x hx, if_neg (by omega)]
  have l1 := stN_lt (lk ||| 2 ^ x) (j &&& (lk ||| 2 ^ x)) n
  have l2 : stX j (stN lk (j &&& lk) n) x < 3 ^ n := by
    have u := m_up (stN_lt lk (j &&& lk) n) hx dx
    have p := m_p3p x
    unfold stX
    split <;> omega
  refine digs_eq n l1 l2 (fun z hz => ?_)
  have hd : (if j / 2 ^ x % 2 = 1 then 2 else 1) ≤ 2 := by split <;> omega
  unfold stX
  rw [dig_up dx hd z, stN_dig n z hz, stN_dig n z hz, or_bit1]
  have an := and_bit j (lk ||| 2 ^ x) z
  have an2 := and_bit j lk z
  rw [or_bit1] at an
  by_cases e : z = x
  · subst e
    rw [if_pos rfl, if_pos rfl, if_pos rfl]
    rw [if_pos rfl] at an
    by_cases q : j / 2 ^ z % 2 = 1
    · rw [if_pos q, if_pos (an.mpr ⟨q, rfl⟩)]
    · rw [if_neg q, if_neg (fun w => q (an.mp w).1)]
  · have e' : ¬ x = z := fun q => e q.symm
    rw [if_neg e, if_neg e']
    rw [if_neg e'] at an
    by_cases a : lk / 2 ^ z % 2 = 1
    · rw [if_pos a, if_pos a]
      by_cases q : (j &&& lk) / 2 ^ z % 2 = 1
      · rw [if_pos q, if_pos (an.mpr (an2.mp q))]
      · rw [if_neg q, if_neg (fun w => q (an2.mpr (an.mp w)))]
    · rw [if_neg a, if_neg a]
theorem SW.look {n s c x j : Nat} (h : SW n s c) (hx : x < n) (hd : c / 3 ^ x % 3 = 0) : SW n (stX j s x) (stM j c x) := by
  obtain ⟨a, b⟩ := h.up hd hx
  unfold stX stM
  by_cases q : j / 2 ^ x % 2 = 1
  · rw [if_pos q, if_pos q, Nat.mul_one, show s + 3 ^ x * 2 = s + 3 ^ x + 3 ^ x by omega]; exact b
  · rw [if_neg q, if_neg q, Nat.mul_one, show c + 3 ^ x * 2 = c + 3 ^ x + 3 ^ x by omega]; exact a

/-! the next part of the order -/
def ONR (fr : Nat → Int32) (q n : Nat) (T : Nat → Prop) (r : Int32) : Prop :=
  (∃ i x, i < q ∧ x < n ∧ fr i = nI x ∧ T x ∧ r = nI x ∧ ∀ j, j < i → ∀ w, w < n → fr j = nI w → ¬ T w) ∨ ((∀ j, j < q → ∀ w, w < n → fr j = nI w → ¬ T w) ∧ ((∃ x, x < n ∧ r = nI x ∧ T x ∧ ∀ z, z < x → ¬ T z) ∨ (r = -1 ∧ ∀ z, z < n → ¬ T z)))
theorem ONR.eq {fr fr' : Nat → Int32} {q n : Nat} {T T' : Nat → Prop} {r r' : Int32} (hn : n ≤ 9) (h : ONR fr q n T r) (h' : ONR fr' q n T' r') (hf : ∀ z, z < q → fr z = fr' z) (hT : ∀ z, z < n → (T z ↔ T' z)) : r = r' := by
  rcases h with ⟨i, x, a1, a2, a3, a4, a5, a6⟩ | ⟨b1, b2⟩ <;> rcases h' with ⟨i', x', a1', a2', a3', a4', a5', a6'⟩ | ⟨b1', b2'⟩
  · rcases Nat.lt_trichotomy i i' with g | g | g
    · exact absurd ((hT x a2).mp a4) (a6' i g x a2 (by rw [← hf i a1]; exact a3))
    · subst g
      rw [a5, a5', ← a3, ← a3', hf i a1]
    · exact absurd ((hT x' a2').mpr a4') (a6 i' g x' a2' (by rw [hf i' a1']; exact a3'))
  · exact absurd ((hT x a2).mp a4) (b1' i a1 x a2 (by rw [← hf i a1]; exact a3))
  · exact absurd ((hT x' a2').mpr a4') (b1 i' a1' x' a2' (by rw [hf i' a1']; exact a3'))
  · rcases b2 with ⟨x, c1, c2, c3, c4⟩ | ⟨c1, c2⟩ <;> rcases b2' with ⟨x', c1', c2', c3', c4'⟩ | ⟨c1', c2'⟩
    · rcases Nat.lt_trichotomy x x' with g | g | g
      · exact absurd ((hT x c1).mp c3) (c4' x g)
      · rw [c2, c2', g]
      · exact absurd ((hT x' c1').mpr c3') (c4 x' g)
    · exact absurd ((hT x c1).mp c3) (c2' x c1)
    · exact absurd ((hT x' c1').mpr c3') (c2 x' c1')
    · rw [c1, c1']
theorem ONR.free {fr : Nat → Int32} {q n : Nat} {T : Nat → Prop} {r : Int32} (h : ONR fr q n T r) : (r = -1 ∧ ∀ z, z < n → ¬ T z) ∨ ∃ x, x < n ∧ r = nI x ∧ T x := by
  rcases h with ⟨i, x, a1, a2, a3, a4, a5, a6⟩ | ⟨b1, ⟨x, c1, c2, c3, c4⟩ | c⟩
  · exact Or.inr ⟨x, a2, a5, a4⟩
  · exact Or.inr ⟨x, c1, c2, c3⟩
  · exact Or.inl c
theorem ONR.cong {fr : Nat → Int32} {q n : Nat} {T T' : Nat → Prop} {r : Int32} (h : ONR fr q n T r) (hT : ∀ z, z < n → (T z ↔ T' z)) : ONR fr q n T' r := by
  rcases h with ⟨i, x, a1, a2, a3, a4, a5, a6⟩ | ⟨b1, b2⟩
  · exact Or.inl ⟨i, x, a1, a2, a3, (hT x a2).mp a4, a5, fun j hj w hw e q => a6 j hj w hw e ((hT w hw).mpr q)⟩
  · refine Or.inr ⟨fun j hj w hw e q => b1 j hj w hw e ((hT w hw).mpr q), ?_⟩
    rcases b2 with ⟨x, c1, c2, c3, c4⟩ | ⟨c1, c2⟩
    · exact Or.inl ⟨x, c1, c2, (hT x c1).mp c3, fun z hz q => c4 z hz ((hT z (by omega)).mpr q)⟩
    · exact Or.inr ⟨c1, fun z hz q => c2 z hz ((hT z hz).mpr q)⟩
theorem nI_inn {a b n : Nat} (hn : n ≤ 9) (ha : a < n) (hb : b < n) (e : nI a = nI b) : a = b := (nI_eq (by omega) (by omega)).mp e
