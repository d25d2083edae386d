/-! the price of the order in each setting -/
noncomputable def bo (qr : Nat → Int32) (q n : Nat) (U : Nat → Prop) (fp : Nat → Int32) (t s : Nat) : Int32 := Classical.epsilon (fun v => ∃ k, RUNP (NXO qr q n) U fp (stX t) k s v)
theorem NXO.uniq {qr : Nat → Int32} {q n s x x' : Nat} (hn : n ≤ 9) (h : NXO qr q n s x) (h' : NXO qr q n s x') : x = x' := nI_inn hn h.1 h'.1 (h.2.eq hn h'.2 (fun _ _ => rfl) (fun _ _ => Iff.rfl))
theorem bo_of {qr : Nat → Int32} {q n k t s : Nat} {U : Nat → Prop} {fp : Nat → Int32} {v : Int32} (hn : n ≤ 9) (h : RUNP (NXO qr q n) U fp (stX t) k s v) : bo qr q n U fp t s = v := by
  have e : ∃ v, ∃ k, RUNP (NXO qr q n) U fp (stX t) k s v := ⟨v, k, h⟩
  obtain ⟨k', h'⟩ := Classical.epsilon_spec e
  have r := RUNP.eq (R := fun a b => a = b) (fun a b e => by rw [e]) (fun a b x x' e _ c d => by
    subst e
    have q1 := c.uniq hn d
    subst q1
    exact ⟨rfl, rfl, rfl⟩) rfl h' h
  exact r.2
def RUNS (qr : Nat → Int32) (q n : Nat) (U : Nat → Prop) (fp : Nat → Int32) (lk gd : Nat) : Prop := ∀ t, t < 2 ^ n → CON lk gd n t → ∃ k v, RUNP (NXO qr q n) U fp (stX t) k (stN lk gd n) v
theorem RUNS.leaf {qr : Nat → Int32} {q n lk gd : Nat} {U : Nat → Prop} {fp : Nat → Int32} (hu : ¬ U (stN lk gd n)) : RUNS qr q n U fp lk gd := fun _ _ _ => ⟨0, nI 0, hu, rfl⟩
theorem st_up {n lk gd x : Nat} (hx : x < n) (hb : lk / 2 ^ x % 2 = 0) (hg : gd / 2 ^ x % 2 = 0) : stN (lk ||| 2 ^ x) (gd ||| 2 ^ x) n = stN lk gd n + 3 ^ x * 2 ∧ stN (lk ||| 2 ^ x) gd n = stN lk gd n + 3 ^ x * 1 := by
  have dx : stN lk gd n / 3 ^ x % 3 = 0 := by rw [stN_dig n x hx, if_neg (by omega)]
  have u := m_up (stN_lt lk gd n) hx dx
  have p := m_p3p x
  constructor
  · refine digs_eq n (stN_lt _ _ n) (by omega) (fun z hz => ?_)
    rw [dig_up dx (by omega) z, stN_dig n z hz, stN_dig n z hz, or_bit1, or_bit1]
    by_cases e : z = x
    · rw [if_pos e, if_pos e.symm, if_pos rfl, if_pos e.symm, if_pos rfl]
    · have e' : ¬ x = z := fun q => e q.symm
      rw [if_neg e, if_neg e', if_neg e']
  · refine digs_eq n (stN_lt _ _ n) (by omega) (fun z hz => ?_)
    rw [dig_up dx (by omega) z, stN_dig n z hz, stN_dig n z hz, or_bit1]
    by_cases e : z = x
    · rw [if_pos e, if_pos e.symm, if_pos rfl, if_neg (by rw [e]; omega)]
    · have e' : ¬ x = z := fun q => e q.symm
      rw [if_neg e, if_neg e']
theorem con_up {n lk gd x t : Nat} (hx : x < n) (hb : lk / 2 ^ x % 2 = 0) (hg : gd / 2 ^ x % 2 = 0) : (CON (lk ||| 2 ^ x) (gd ||| 2 ^ x) n t ↔ CON lk gd n t ∧ t / 2 ^ x % 2 = 1) ∧ (CON (lk ||| 2 ^ x) gd n t ↔ CON lk gd n t ∧ ¬ t / 2 ^ x % 2 = 1) := by
  constructor
  · constructor
    · intro h
      refine ⟨fun z hz a => ?_, ?_⟩
      · have e : ¬ x = z := fun q => by rw [q] at hb; omega
        have g := h z hz (by rw [or_bit1, if_neg e]; exact a)
        rw [or_bit1, if_neg e] at g
        exact g
      · exact (h x hx (by rw [or_bit1, if_pos rfl])).mpr (by rw [or_bit1, if_pos rfl])
    · rintro ⟨h, b⟩ z hz a
      rw [or_bit1] at a ⊢
      by_cases e : x = z
      · rw [if_pos e]
        subst e
        exact ⟨fun _ => rfl, fun _ => b⟩
      · rw [if_neg e] at a ⊢
        exact h z hz a
  · constructor
    · intro h
      refine ⟨fun z hz a => ?_, fun b => ?_⟩
      · have e : ¬ x = z := fun q => by rw [q] at hb; omega
        exact h z hz (by rw [or_bit1, if_neg e]; exact a)
      · have := (h x hx (by rw [or_bit1, if_pos rfl])).mp b
        omega
    · rintro ⟨h, b⟩ z hz a
      rw [or_bit1] at a
      by_cases e : x = z
      · subst e
        exact ⟨fun q => absurd q b, fun q => by omega⟩
      · rw [if_neg e] at a
        exact h z hz a
section ORDS
variable {qr fg fb fp : Nat → Int32} {q n lk gd x : Nat} {U : Nat → Prop} {pd : Int32}
theorem RUNS.node (hx : x < n) (hb : lk / 2 ^ x % 2 = 0) (hg : gd / 2 ^ x % 2 = 0) (hu : U (stN lk gd n)) (hN : NXO qr q n (stN lk gd n) x) (h1 : RUNS qr q n U fp (lk ||| 2 ^ x) (gd ||| 2 ^ x)) (h2 : RUNS qr q n U fp (lk ||| 2 ^ x) gd) : RUNS qr q n U fp lk gd := fun t ht hc => by
  obtain ⟨c1, c2⟩ := con_up (t := t) hx hb hg
  obtain ⟨s1, s2⟩ := st_up (n := n) hx hb hg
  by_cases b : t / 2 ^ x % 2 = 1
  · obtain ⟨k, v, r⟩ := h1 t ht (c1.mpr ⟨hc, b⟩)
    refine ⟨k + 1, fp x + v, hu, x, v, hN, ?_, rfl⟩
    unfold stX
    rw [if_pos b, ← s1]
    exact r
  · obtain ⟨k, v, r⟩ := h2 t ht (c2.mpr ⟨hc, b⟩)
    refine ⟨k + 1, fp x + v, hu, x, v, hN, ?_, rfl⟩
    unfold stX
    rw [if_neg b, ← s2]
    exact r
theorem bo_node (hn : n ≤ 9) (hx : x < n) (hb : lk / 2 ^ x % 2 = 0) (hg : gd / 2 ^ x % 2 = 0) (hu : U (stN lk gd n)) (hN : NXO qr q n (stN lk gd n) x) (h1 : RUNS qr q n U fp (lk ||| 2 ^ x) (gd ||| 2 ^ x)) (h2 : RUNS qr q n U fp (lk ||| 2 ^ x) gd) {t : Nat} (ht : t < 2 ^ n) (hc : CON lk gd n t) :
    (t / 2 ^ x % 2 = 1 → bo qr q n U fp t (stN lk gd n) = fp x + bo qr q n U fp t (stN (lk ||| 2 ^ x) (gd ||| 2 ^ x) n)) ∧ (¬ t / 2 ^ x % 2 = 1 → bo qr q n U fp t (stN lk gd n) = fp x + bo qr q n U fp t (stN (lk ||| 2 ^ x) gd n)) := by
  obtain ⟨c1, c2⟩ := con_up (t := t) hx hb hg
  obtain ⟨s1, s2⟩ := st_up (n := n) hx hb hg
  refine ⟨fun b => ?_, fun b => ?_⟩
  · obtain ⟨k, v, r⟩ := h1 t ht (c1.mpr ⟨hc, b⟩)
    rw [bo_of hn r]
    refine bo_of hn (k := k + 1) ⟨hu, x, v, hN, ?_, rfl⟩
    unfold stX
    rw [if_pos b, ← s1]
    exact r
  · obtain ⟨k, v, r⟩ := h2 t ht (c2.mpr ⟨hc, b⟩)
    rw [bo_of hn r]
    refine bo_of hn (k := k + 1) ⟨hu, x, v, hN, ?_, rfl⟩
    unfold stX
    rw [if_neg b, ← s2]
    exact r
/-- the sum over the settings with the state (lk, gd): weight times what was paid and is still paid -/
noncomputable def OSM (qr fg fb fp : Nat → Int32) (q n : Nat) (U : Nat → Prop) (lk gd : Nat) (pd : Int32) : Int64 := SF (fun t => pif (CON lk gd n t) (mwt fg fb (nI t) n * (pd + bo qr q n U fp t (stN lk gd n)).toInt64) (lN 0)) (2 ^ n)
theorem OSM.leaf {Gn Bn Pn : Nat → Nat} (hvb : VB fg fb fp Gn Bn Pn) (hn : n ≤ 9) (hl : lk < 512) (hg : gd < 512) (hu : ¬ U (stN lk gd n)) : pd.toInt64 * lf fg fb (nI lk) (nI gd) n = OSM qr fg fb fp q n U lk gd pd := by
  unfold OSM
  rw [← SF_left hvb hl hg n hn, Int64.mul_comm, ← SF.mul]
  refine SF.cong _ (fun t ht => ?_)
  by_cases c : CON lk gd n t
  · have e : bo qr q n U fp t (stN lk gd n) = nI 0 := bo_of hn (k := 0) ⟨hu, rfl⟩
    rw [pif_pos c, pif_pos c, e, add_n0]
  · rw [pif_neg c, pif_neg c, lN0, Int64.zero_mul]
theorem OSM.node (hn : n ≤ 9) (hx : x < n) (hb : lk / 2 ^ x % 2 = 0) (hg : gd / 2 ^ x % 2 = 0) (hu : U (stN lk gd n)) (hN : NXO qr q n (stN lk gd n) x) (h1 : RUNS qr q n U fp (lk ||| 2 ^ x) (gd ||| 2 ^ x)) (h2 : RUNS qr q n U fp (lk ||| 2 ^ x) gd) : OSM qr fg fb fp q n U (lk ||| 2 ^ x) (gd ||| 2 ^ x) (pd + fp x) + OSM qr fg fb fp q n U (lk ||| 2 ^ x) gd (pd + fp x) = OSM qr fg fb fp q n U lk gd pd := by
  unfold OSM
  rw [SF.add]
  refine SF.cong _ (fun t ht => ?_)
  obtain ⟨c1, c2⟩ := con_up (t := t) hx hb hg
  by_cases c : CON lk gd n t
  · obtain ⟨b1, b2⟩ := bo_node hn hx hb hg hu hN h1 h2 ht c
    by_cases b : t / 2 ^ x % 2 = 1
    · rw [pif_pos (c1.mpr ⟨c, b⟩), pif_neg (fun w => (c2.mp w).2 b), pif_pos c, b1 b, lN0, Int64.add_zero, Int32.add_assoc]
    · rw [pif_neg (fun w => b (c1.mp w).2), pif_pos (c2.mpr ⟨c, b⟩), pif_pos c, b2 b, lN0, Int64.zero_add, Int32.add_assoc]
  · rw [pif_neg (fun w => c (c1.mp w).1), pif_neg (fun w => c (c2.mp w).1), pif_neg c, lN0, Int64.zero_add]
/-- the greatest over the settings with the state (lk, gd) -/
def OMX (qr fp : Nat → Int32) (q n : Nat) (U : Nat → Prop) (lk gd : Nat) (pd r : Int32) : Prop := (∀ t, t < 2 ^ n → CON lk gd n t → (pd + bo qr q n U fp t (stN lk gd n)).toInt ≤ r.toInt) ∧ ∃ t, t < 2 ^ n ∧ CON lk gd n t ∧ r = pd + bo qr q n U fp t (stN lk gd n)
theorem OMX.leaf (hn : n ≤ 9) (hg : gd < 2 ^ n) (hu : ¬ U (stN lk gd n)) : OMX qr fp q n U lk gd pd pd := by
  have e : ∀ t, pd + bo qr q n U fp t (stN lk gd n) = pd := fun t => by
    have e : bo qr q n U fp t (stN lk gd n) = nI 0 := bo_of hn (k := 0) ⟨hu, rfl⟩
    rw [e, add_n0]
  exact ⟨fun t _ _ => by rw [e t]; exact Int.le_refl _, gd, hg, fun _ _ _ => Iff.rfl, (e gd).symm⟩
theorem OMX.node {r1 r2 : Int32} (hn : n ≤ 9) (hx : x < n) (hb : lk / 2 ^ x % 2 = 0) (hg : gd / 2 ^ x % 2 = 0) (hu : U (stN lk gd n)) (hN : NXO qr q n (stN lk gd n) x) (h1 : RUNS qr q n U fp (lk ||| 2 ^ x) (gd ||| 2 ^ x)) (h2 : RUNS qr q n U fp (lk ||| 2 ^ x) gd) (m1 : OMX qr fp q n U (lk ||| 2 ^ x) (gd ||| 2 ^ x) (pd + fp x) r1) (m2 : OMX qr fp q n U (lk ||| 2 ^ x) gd (pd + fp x) r2) : OMX qr fp q n U lk gd pd (if r1 < r2 then r2 else r1) := by
  have key : ∀ t, t < 2 ^ n → CON lk gd n t → (t / 2 ^ x % 2 = 1 → pd + bo qr q n U fp t (stN lk gd n) = pd + fp x + bo qr q n U fp t (stN (lk ||| 2 ^ x) (gd ||| 2 ^ x) n)) ∧ (¬ t / 2 ^ x % 2 = 1 → pd + bo qr q n U fp t (stN lk gd n) = pd + fp x + bo qr q n U fp t (stN (lk ||| 2 ^ x) gd n)) := fun t ht c => by
    obtain ⟨b1, b2⟩ := bo_node hn hx hb hg hu hN h1 h2 ht c
    exact ⟨fun b => by rw [b1 b, Int32.add_assoc], fun b => by rw [b2 b, Int32.add_assoc]⟩
  have big : r1.toInt ≤ (if r1 < r2 then r2 else r1).toInt ∧ r2.toInt ≤ (if r1 < r2 then r2 else r1).toInt := by
    by_cases c : r1 < r2
    · rw [if_pos c]; rw [i_lt] at c; omega
    · rw [if_neg c]; rw [i_lt] at c; omega
  refine ⟨fun t ht c => ?_, ?_⟩
  · obtain ⟨c1, c2⟩ := con_up (t := t) hx hb hg
    obtain ⟨k1, k2⟩ := key t ht c
    by_cases b : t / 2 ^ x % 2 = 1
    · have := m1.1 t ht (c1.mpr ⟨c, b⟩)
      rw [k1 b]
      omega
    · have := m2.1 t ht (c2.mpr ⟨c, b⟩)
      rw [k2 b]
      omega
  · by_cases c : r1 < r2
    · obtain ⟨t, ht, hc, e⟩ := m2.2
      obtain ⟨w, b⟩ := (con_up (t := t) hx hb hg).2.mp hc
      exact ⟨t, ht, w, by rw [if_pos c, (key t ht w).2 b]; exact e⟩
    · obtain ⟨t, ht, hc, e⟩ := m1.2
      obtain ⟨w, b⟩ := (con_up (t := t) hx hb hg).1.mp hc
      exact ⟨t, ht, w, by rw [if_neg c, (key t ht w).1 b]; exact e⟩
end ORDS
theorem subs_or1 {lk gd n x : Nat} (h : SUBS lk gd n) : SUBS (lk ||| 2 ^ x) (gd ||| 2 ^ x) n := fun z hz a => by
  rw [or_bit1] at a ⊢
  by_cases e : x = z
  · rw [if_pos e] at a; exact absurd a (by decide)
  · rw [if_neg e] at a ⊢; exact h z hz a
theorem subs_or2 {lk gd n x : Nat} (h : SUBS lk gd n) : SUBS (lk ||| 2 ^ x) gd n := fun z hz a => by
  rw [or_bit1] at a
  by_cases e : x = z
  · rw [if_pos e] at a; exact absurd a (by decide)
  · rw [if_neg e] at a; exact h z hz a
