/-! bounds: more -/
theorem free_bit {n sa t k : Nat} (hk : k < n) : (t &&& ((2 ^ n - 1) ^^^ sa)) / 2 ^ k % 2 = 1 ↔ t / 2 ^ k % 2 = 1 ∧ sa / 2 ^ k % 2 = 0 := by rw [and_bit, xor_bit hk]
theorem lp_nil {fg fb fp : Nat → Int32} {Gn Bn Pn : Nat → Nat} {n sa t : Nat} (hvb : VB fg fb fp Gn Bn Pn) (hn : n ≤ 9) (ht : t < 2 ^ n) : (pf fp (nI (t &&& ((2 ^ n - 1) ^^^ sa))) n).toInt = (pU Pn sa t n : Int) := by
  have h2 := m_pow hn
  have l : t &&& ((2 ^ n - 1) ^^^ sa) < 512 := Nat.lt_of_le_of_lt Nat.and_le_left (by omega)
  have b := pU_le (Pn := Pn) (sa := sa) (D := t) (fun z hz => (hvb z hz).2.2.2.2.2.2.2) n hn
  rw [pf_pU (Pn := Pn) (sa := sa) (D := t) (fun z hz => (hvb z hz).2.2.1) l n hn (fun z hz => free_bit hz), nI_toInt (by omega)]
theorem xor_ltt {t p : Nat} (ht : t < 512) (hp : p < 9) (b : t / 2 ^ p % 2 = 1) : t ^^^ 2 ^ p < t := by
  have h := m_bitle b
  have h2 := m_powp p
  rw [xor_sub ht hp b]
  omega
theorem and_xor {t sa p : Nat} (h : sa / 2 ^ p % 2 = 0) : (t ^^^ 2 ^ p) &&& sa = t &&& sa := by
  apply Nat.eq_of_testBit_eq
  intro z
  rw [Nat.testBit_and, Nat.testBit_and, Nat.testBit_xor, Nat.testBit_two_pow]
  by_cases e : p = z
  · subst e
    have b : sa.testBit p = false := by rw [m_tb]; exact decide_eq_false (by omega)
    rw [b, Bool.and_false, Bool.and_false]
  · rw [decide_eq_false e, Bool.xor_false]
theorem fit_g {t sa p : Nat} {sg : Int32} (h : sa / 2 ^ p % 2 = 0) (g : nI t &&& nI sa = sg) : nI (t ^^^ 2 ^ p) &&& nI sa = sg := by
  rw [mb_and] at g ⊢
  rw [and_xor h]
  exact g
theorem fit_b {t sa p n : Nat} {sg : Int32} (h : sa / 2 ^ p % 2 = 0) (g : nI ((2 ^ n - 1) ^^^ t) &&& nI sa = sg) : nI ((2 ^ n - 1) ^^^ (t ^^^ 2 ^ p)) &&& nI sa = sg := by
  rw [← Nat.xor_assoc]
  exact fit_g h g
/-! what the reference shows -/
def lks (cv : Nat) (st : Int32) (T : Nat) : Nat → Nat
  | 0 => cv
  | k + 1 => lks cv st T k + (if T / 2 ^ k % 2 = 1 ∧ cv / 3 ^ k % 3 = 0 then 3 ^ k * (if sb st k = 1 then 1 else 2) else 0)
theorem lks_dig {cv n T : Nat} {st : Int32} (hc : cv < 3 ^ n) : ∀ k, k ≤ n → lks cv st T k < 3 ^ n ∧ ∀ z, lks cv st T k / 3 ^ z % 3 = if z < k ∧ T / 2 ^ z % 2 = 1 ∧ cv / 3 ^ z % 3 = 0 then (if sb st z = 1 then 1 else 2) else cv / 3 ^ z % 3
  | 0, _ => ⟨hc, fun z => by rw [if_neg (by omega)] <;> rfl⟩
  | k + 1, hk => by
    obtain ⟨h1, h2⟩ := lks_dig (T := T) (st := st) hc k (by omega)
    have hd : (if sb st k = 1 then 1 else 2) ≤ 2 := by split <;> omega
    show lks cv st T k + _ < 3 ^ n ∧ ∀ z, (lks cv st T k + _) / 3 ^ z % 3 = _
    by_cases c : T / 2 ^ k % 2 = 1 ∧ cv / 3 ^ k % 3 = 0
    · have dk : lks cv st T k / 3 ^ k % 3 = 0 := by rw [h2 k, if_neg (by omega)]; exact c.2
      have u := m_up h1 (show k < n by omega) dk
      rw [if_pos c]
      refine ⟨?_, fun z => ?_⟩
      · have p := m_p3p k
        split <;> omega
      · rw [dig_up dk hd z, h2 z]
        by_cases e : z = k
        · rw [if_pos e, e, if_pos (show k < k + 1 ∧ T / 2 ^ k % 2 = 1 ∧ cv / 3 ^ k % 3 = 0 from ⟨by omega, c⟩)]
        · rw [if_neg e]
          by_cases q : z < k ∧ T / 2 ^ z % 2 = 1 ∧ cv / 3 ^ z % 3 = 0
          · rw [if_pos q, if_pos (show z < k + 1 ∧ T / 2 ^ z % 2 = 1 ∧ cv / 3 ^ z % 3 = 0 from ⟨by omega, q.2⟩)]
          · rw [if_neg q, if_neg (fun w => q ⟨by omega, w.2⟩)]
    · rw [if_neg c, Nat.add_zero]
      refine ⟨h1, fun z => ?_⟩
      rw [h2 z]
      by_cases q : z < k ∧ T / 2 ^ z % 2 = 1 ∧ cv / 3 ^ z % 3 = 0
      · rw [if_pos q, if_pos (show z < k + 1 ∧ T / 2 ^ z % 2 = 1 ∧ cv / 3 ^ z % 3 = 0 from ⟨by omega, q.2⟩)]
      · rw [if_neg q]
        by_cases e : z = k
        · rw [e, if_neg (fun w => c w.2)]
        · rw [if_neg (fun w => q ⟨by omega, w.2⟩)]
def VM (S : Nat → Prop) (n cv : Nat) (st : Int32) (T : Nat) : Prop := (∀ z, z < n → T / 2 ^ z % 2 = 1 → cv / 3 ^ z % 3 = 0) ∧ ¬ US S n 1 2 (lks cv st T n)
def SHW (S : Nat → Prop) (n cv : Nat) (st : Int32) (fp : Nat → Int32) (k : Nat) (le : Int32) : Prop := (le = -1 ∧ ∀ T, T < k → ¬ VM S n cv st T) ∨ (0 ≤ le.toInt ∧ MinI (fun T => T < k ∧ VM S n cv st T) (fun T => (pf fp (nI T) n).toInt) le.toInt)
section SHWS
variable {S : Nat → Prop} {n cv k : Nat} {st : Int32} {fp : Nat → Int32} {le : Int32}
theorem SHW.nil : SHW S n cv st fp 0 (-1) := Or.inl ⟨rfl, fun T hT => absurd hT (by omega)⟩
theorem SHW.skip (h : SHW S n cv st fp k le) (hv : ¬ VM S n cv st k) : SHW S n cv st fp (k + 1) le := by
  rcases h with ⟨a, b⟩ | ⟨a, b⟩
  · refine Or.inl ⟨a, fun T hT => ?_⟩
    by_cases e : T = k
    · rw [e]; exact hv
    · exact b T (by omega)
  · refine Or.inr ⟨a, b.iff (fun T => ⟨fun q => ⟨by omega, q.2⟩, fun q => ⟨?_, q.2⟩⟩)⟩
    by_cases e : T = k
    · rw [e] at q; exact absurd q.2 hv
    · omega
theorem SHW.leave (h : SHW S n cv st fp k le) (c : ¬ le = -1) (d : le.toInt ≤ (pf fp (nI k) n).toInt) : SHW S n cv st fp (k + 1) le := by
  rcases h with ⟨a, b⟩ | ⟨a, b, T, hT, e⟩
  · exact absurd a c
  · refine Or.inr ⟨a, fun T hT => ?_, T, ⟨by omega, hT.2⟩, e⟩
    by_cases q : T = k
    · rw [q]; exact d
    · exact b T ⟨by omega, hT.2⟩
theorem SHW.take (h : SHW S n cv st fp k le) (hv : VM S n cv st k) (h0 : 0 ≤ (pf fp (nI k) n).toInt) (c : le = -1 ∨ ¬ le.toInt ≤ (pf fp (nI k) n).toInt) : SHW S n cv st fp (k + 1) (pf fp (nI k) n) := by
  refine Or.inr ⟨h0, fun T hT => ?_, k, ⟨by omega, hv⟩, rfl⟩
  by_cases q : T = k
  · rw [q]; exact Int.le_refl _
  · rcases h with ⟨a, b⟩ | ⟨a, b, -⟩
    · exact absurd hT.2 (b T (by omega))
    · have g := b T ⟨by omega, hT.2⟩
      rcases c with c | c
      · rw [c, show ((-1 : Int32)).toInt = -1 by decide] at a; omega
      · show (pf fp (nI k) n).toInt ≤ (pf fp (nI T) n).toInt
        have g2 : le.toInt ≤ (pf fp (nI T) n).toInt := g
        omega
end SHWS
theorem pf_nat {fg fb fp : Nat → Int32} {Gn Bn Pn : Nat → Nat} {t n : Nat} (hvb : VB fg fb fp Gn Bn Pn) (hn : n ≤ 9) (ht : t < 512) : (pf fp (nI t) n).toInt = (pU Pn 0 t n : Int) := by
  have b := pU_le (Pn := Pn) (sa := 0) (D := t) (fun z hz => (hvb z hz).2.2.2.2.2.2.2) n hn
  rw [pf_pU (Pn := Pn) (sa := 0) (D := t) (fun z hz => (hvb z hz).2.2.1) ht n hn (fun z hz => ⟨fun q => ⟨q, by rw [Nat.zero_div]⟩, fun q => q.1⟩), nI_toInt (by omega)]
/-! the greatest price of the order, as the reference finds it -/
def BO (fo : Nat → Int32) (q n : Nat) (U : Nat → Prop) (fp : Nat → Int32) (cv t : Nat) (w : Int32) : Prop := ∃ m, RUNP (NXO fo q n) U fp (stM t) m cv w
theorem BO.uniq {fo : Nat → Int32} {q n cv t : Nat} {U : Nat → Prop} {fp : Nat → Int32} {w w' : Int32} (hn : n ≤ 9) (h : BO fo q n U fp cv t w) (h' : BO fo q n U fp cv t w') : w = w' := by
  obtain ⟨m, h⟩ := h
  obtain ⟨m', h'⟩ := h'
  have r := RUNP.eq (R := fun a b => a = b) (fun a b e => by rw [e]) (fun a b x x' e _ c d => by
    subst e
    have q1 := c.uniq hn d
    subst q1
    exact ⟨rfl, rfl, rfl⟩) rfl h h'
  exact r.2
def MXK (P : Nat → Prop) (B : Nat → Int32 → Prop) (k : Nat) (v : Int64) : Prop := (∀ t, t < k → P t → ∃ w, B t w ∧ w.toInt ≤ v.toInt) ∧ (v = lN 0 ∨ ∃ t w, t < k ∧ P t ∧ B t w ∧ v = w.toInt64)
theorem MXK.nil {P : Nat → Prop} {B : Nat → Int32 → Prop} : MXK P B 0 (lN 0) := ⟨fun t ht => absurd ht (by omega), Or.inl rfl⟩
theorem MXK.skip {P : Nat → Prop} {B : Nat → Int32 → Prop} {k : Nat} {v : Int64} (h : MXK P B k v) (hp : ¬ P k) : MXK P B (k + 1) v := by
  refine ⟨fun t ht hp2 => ?_, ?_⟩
  · by_cases e : t = k
    · rw [e] at hp2; exact absurd hp2 hp
    · exact h.1 t (by omega) hp2
  · rcases h.2 with e | ⟨t, w, a, b⟩
    · exact Or.inl e
    · exact Or.inr ⟨t, w, by omega, b⟩
theorem MXK.leave {P : Nat → Prop} {B : Nat → Int32 → Prop} {k : Nat} {v : Int64} {w : Int32} (h : MXK P B k v) (hb : B k w) (c : w.toInt ≤ v.toInt) : MXK P B (k + 1) v := by
  refine ⟨fun t ht hp2 => ?_, ?_⟩
  · by_cases e : t = k
    · rw [e]; exact ⟨w, hb, c⟩
    · exact h.1 t (by omega) hp2
  · rcases h.2 with e | ⟨t, w, a, b⟩
    · exact Or.inl e
    · exact Or.inr ⟨t, w, by omega, b⟩
theorem MXK.take {P : Nat → Prop} {B : Nat → Int32 → Prop} {k : Nat} {v : Int64} {w : Int32} (h : MXK P B k v) (hp : P k) (hb : B k w) (c : ¬ w.toInt ≤ v.toInt) : MXK P B (k + 1) w.toInt64 := by
  refine ⟨fun t ht hp2 => ?_, Or.inr ⟨k, w, by omega, hp, hb, rfl⟩⟩
  rw [j2]
  by_cases e : t = k
  · rw [e]; exact ⟨w, hb, Int.le_refl _⟩
  · obtain ⟨w', a, b⟩ := h.1 t (by omega) hp2
    exact ⟨w', a, by omega⟩

theorem m_t18 {x : Int32} (h : 1 ≤ x.toInt ∧ x.toInt ≤ 8) : x = nI 1 ∨ x = nI 2 ∨ x = nI 3 ∨ x = nI 4 ∨ x = nI 5 ∨ x = nI 6 ∨ x = nI 7 ∨ x = nI 8 := m_sw_1_8 (by omega)

theorem nxt_of {r uf fr : Int32} {fw ub : Nat → Int64} {y n lk gd pl len ul : Nat} {fg fb fp uw : Nat → Int32} (h : (r = -1 ∧ ¬ NV fw y gd ((2 ^ n - 1) ^^^ lk) ∧ FS fr len n (NV fw y gd ((2 ^ n - 1) ^^^ lk)) uf ul ∧ (uf = nI 1 → OKT (isG fw y) n fg fb fp ub uw (0))) ∨ (∃ x, r = nI x ∧ x < n ∧ lk / 2 ^ x % 2 = 0 ∧ uf = nI 1 ∧ NV fw y gd ((2 ^ n - 1) ^^^ lk) ∧ FS fr len n (NV fw y gd ((2 ^ n - 1) ^^^ lk)) (nI 1) ul ∧ OKT (isG fw y) n fg fb fp ub uw (0) ∧ NXV (isG fw y) n fg fb fp pl (stN lk gd n) x)) : (¬ NV fw y gd ((2 ^ n - 1) ^^^ lk) ∧ r.toInt64 = (-1 : Int32).toInt64) ∨ (∃ x, r.toInt64 = (nI x).toInt64 ∧ NV fw y gd ((2 ^ n - 1) ^^^ lk) ∧ NXV (isG fw y) n fg fb fp pl (stN lk gd n) x) := by
  rcases h with ⟨e, a, _, _⟩ | ⟨x, e, _, _, _, a, _, _, b⟩
  · exact Or.inl ⟨a, by rw [e]⟩
  · exact Or.inr ⟨x, by rw [e], a, b⟩
