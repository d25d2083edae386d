/-! the least price that makes sure -/
theorem MinI.or {A B : Nat → Prop} {f : Nat → Int} {v w u : Int} (h : MinI A f v) (g : MinI B f w) (hu : (w < v ∧ u = w) ∨ (¬ w < v ∧ u = v)) : MinI (fun z => A z ∨ B z) f u := by
  obtain ⟨a, z, hz, e⟩ := h
  obtain ⟨a', z', hz', e'⟩ := g
  refine ⟨fun y hy => ?_, ?_⟩
  · rcases hy with hy | hy
    · have := a y hy
      omega
    · have := a' y hy
      omega
  · rcases hu with ⟨c, q⟩ | ⟨c, q⟩
    · exact ⟨z', Or.inr hz', by omega⟩
    · exact ⟨z, Or.inl hz, by omega⟩
theorem MinI.iff {A B : Nat → Prop} {f : Nat → Int} {v : Int} (h : MinI A f v) (g : ∀ z, A z ↔ B z) : MinI B f v := ⟨fun z hz => h.1 z ((g z).mpr hz), by obtain ⟨z, hz, e⟩ := h.2; exact ⟨z, (g z).mp hz, e⟩⟩
theorem MinI.both {A B : Nat → Prop} {f g : Nat → Int} {v w : Int} (h : MinI A f v) (k : MinI B g w) (ab : ∀ z, A z → ∃ y, B y ∧ g y ≤ f z) (ba : ∀ y, B y → ∃ z, A z ∧ f z ≤ g y) : v = w := by
  obtain ⟨a, z, hz, e⟩ := h
  obtain ⟨b, y, hy, e'⟩ := k
  obtain ⟨y2, p1, p2⟩ := ab z hz
  obtain ⟨z2, q1, q2⟩ := ba y hy
  have := b y2 p1
  have := a z2 q1
  omega
/-- the price of the parts of D that were not seen -/
def pU (Pn : Nat → Nat) (sa D : Nat) : Nat → Nat
  | 0 => 0
  | k + 1 => pU Pn sa D k + (if D / 2 ^ k % 2 = 1 ∧ sa / 2 ^ k % 2 = 0 then Pn k else 0)
theorem pU_le {Pn : Nat → Nat} {sa D : Nat} (h : ∀ z, z < 9 → Pn z ≤ 1000) : ∀ k, k ≤ 9 → pU Pn sa D k ≤ 1000 * k
  | 0, _ => Nat.le_refl _
  | k + 1, hk => by
    have g := pU_le (sa := sa) (D := D) h k (by omega)
    have := h k (by omega)
    show pU Pn sa D k + _ ≤ _
    split <;> omega
theorem pU_cong {Pn : Nat → Nat} {sa D D' : Nat} : ∀ k, (∀ z, z < k → sa / 2 ^ z % 2 = 0 → (D / 2 ^ z % 2 = 1 ↔ D' / 2 ^ z % 2 = 1)) → pU Pn sa D k = pU Pn sa D' k
  | 0, _ => rfl
  | k + 1, h => by
    show pU Pn sa D k + _ = pU Pn sa D' k + _
    rw [pU_cong k (fun z hz => h z (by omega))]
    congr 1
    by_cases a : sa / 2 ^ k % 2 = 0
    · have g := h k (by omega) a
      by_cases b : D / 2 ^ k % 2 = 1
      · rw [if_pos ⟨b, a⟩, if_pos ⟨g.mp b, a⟩]
      · rw [if_neg (fun q => b q.1), if_neg (fun q => b (g.mpr q.1))]
    · rw [if_neg (fun q => a q.2), if_neg (fun q => a q.2)]
theorem pU_mono {Pn : Nat → Nat} {sa D D' : Nat} : ∀ k, (∀ z, z < k → sa / 2 ^ z % 2 = 0 → D / 2 ^ z % 2 = 1 → D' / 2 ^ z % 2 = 1) → pU Pn sa D k ≤ pU Pn sa D' k
  | 0, _ => Nat.le_refl _
  | k + 1, h => by
    have g := pU_mono (Pn := Pn) k (fun z hz => h z (by omega))
    show pU Pn sa D k + _ ≤ pU Pn sa D' k + _
    by_cases a : D / 2 ^ k % 2 = 1 ∧ sa / 2 ^ k % 2 = 0
    · rw [if_pos a, if_pos ⟨h k (by omega) a.2 a.1, a.2⟩]; omega
    · rw [if_neg a]; omega
theorem pf_pU {fp : Nat → Int32} {Pn : Nat → Nat} {sa D t : Nat} (hf : ∀ z, z < 9 → fp z = nI (Pn z)) (ht : t < 512) : ∀ k, k ≤ 9 → (∀ z, z < k → (t / 2 ^ z % 2 = 1 ↔ D / 2 ^ z % 2 = 1 ∧ sa / 2 ^ z % 2 = 0)) → pf fp (nI t) k = nI (pU Pn sa D k)
  | 0, _, _ => rfl
  | k + 1, hk, h => by
    simp only [pf]
    rw [pf_pU hf ht k (by omega) (fun z hz => h z (by omega)), hf k (by omega), mb_sb (a := t) (by omega) (by omega)]
    show _ = nI (pU Pn sa D k + (if D / 2 ^ k % 2 = 1 ∧ sa / 2 ^ k % 2 = 0 then Pn k else 0))
    by_cases c : t / 2 ^ k % 2 = 1
    · rw [if_pos c, if_pos ((h k (by omega)).mp c), nI_add]
    · rw [if_neg c, if_neg (fun q => c ((h k (by omega)).mpr q)), Nat.add_zero]
/-- D is a set within t that suffices (E), with the seen parts of t -/
def VLD (E : Nat → Prop) (n sa t D : Nat) : Prop := D < 2 ^ n ∧ SUB D t ∧ (∀ z, z < n → sa / 2 ^ z % 2 = 1 → (D / 2 ^ z % 2 = 1 ↔ t / 2 ^ z % 2 = 1)) ∧ E D
def LPX (E : Nat → Prop) (n sa : Nat) (Pn : Nat → Nat) (t : Nat) (v : Int32) : Prop := MinI (VLD E n sa t) (fun D => (pU Pn sa D n : Int)) v.toInt
theorem xor_bit1 {t p z : Nat} : (t ^^^ 2 ^ p) / 2 ^ z % 2 = 1 ↔ (if p = z then ¬ t / 2 ^ z % 2 = 1 else t / 2 ^ z % 2 = 1) := by
  have g : (t ^^^ 2 ^ p).testBit z = (t.testBit z ^^ decide (p = z)) := by rw [Nat.testBit_xor, Nat.testBit_two_pow]
  by_cases w : p = z
  · rw [if_pos w]
    rw [decide_eq_true w, Bool.xor_true, m_tb, m_tb] at g
    by_cases y : t / 2 ^ z % 2 = 1
    · rw [decide_eq_true y] at g
      exact ⟨fun x => by rw [decide_eq_true x] at g; exact absurd g (by decide), fun h => absurd y h⟩
    · rw [decide_eq_false y] at g
      exact ⟨fun _ => y, fun _ => of_decide_eq_true g⟩
  · rw [if_neg w]
    rw [decide_eq_false w, Bool.xor_false, m_tb, m_tb] at g
    exact decide_eq_decide.mp g
/-- a set without one of its parts that were not seen -/
theorem VLD.step {E : Nat → Prop} {n sa t : Nat} (mon : MON E n) (ht : t < 2 ^ n) (hE : E t) (D : Nat) : (D = t ∨ ∃ p, p < n ∧ (t / 2 ^ p % 2 = 1 ∧ sa / 2 ^ p % 2 = 0) ∧ E (t ^^^ 2 ^ p) ∧ VLD E n sa (t ^^^ 2 ^ p) D) ↔ VLD E n sa t D := by
  constructor
  · rintro (e | ⟨p, hp, ⟨b1, b2⟩, e1, d1, d2, d3, d4⟩)
    · rw [e]
      exact ⟨ht, fun _ h => h, fun _ _ _ => Iff.rfl, hE⟩
    · refine ⟨d1, fun z h => ?_, fun z hz a => ?_, d4⟩
      · have g := xor_bit1.mp (d2 z h)
        by_cases c : p = z
        · rw [← c]; exact b1
        · rw [if_neg c] at g; exact g
      · have c : ¬ p = z := fun q => by rw [q] at b2; omega
        rw [d3 z hz a, xor_bit1, if_neg c]
  · rintro ⟨d1, d2, d3, d4⟩
    by_cases e : D = t
    · exact Or.inl e
    · have q : ∃ p, p < n ∧ t / 2 ^ p % 2 = 1 ∧ ¬ D / 2 ^ p % 2 = 1 := by
        by_cases q : ∃ p, p < n ∧ t / 2 ^ p % 2 = 1 ∧ ¬ D / 2 ^ p % 2 = 1
        · exact q
        · refine absurd (bits_eq d1 ht (fun z hz => ⟨d2 z, fun h => ?_⟩)) e
          by_cases w : D / 2 ^ z % 2 = 1
          · exact w
          · exact absurd ⟨z, hz, h, w⟩ q
      obtain ⟨p, hp, b1, b2⟩ := q
      have l : sa / 2 ^ p % 2 < 2 := Nat.mod_lt _ (by decide)
      have b3 : sa / 2 ^ p % 2 = 0 := by
        by_cases w : sa / 2 ^ p % 2 = 1
        · exact absurd ((d3 p hp w).mpr b1) b2
        · omega
      have hx : t ^^^ 2 ^ p < 2 ^ n := m_x9 ht (m_p2n hp)
      have sub : SUB D (t ^^^ 2 ^ p) := fun z h => by
        rw [xor_bit1]
        by_cases c : p = z
        · rw [c] at b2; exact absurd h b2
        · rw [if_neg c]; exact d2 z h
      refine Or.inr ⟨p, hp, ⟨b1, b3⟩, mon _ _ d1 hx sub d4, d1, sub, fun z hz a => ?_, d4⟩
      have c : ¬ p = z := fun q => by rw [q] at b3; omega
      rw [d3 z hz a, xor_bit1, if_neg c]
/-- what leastProof has tried so far -/
def LPI (E : Nat → Prop) (n sa : Nat) (Pn : Nat → Nat) (t k : Nat) (v : Int32) : Prop := MinI (fun D => D = t ∨ ∃ p, p < k ∧ (t / 2 ^ p % 2 = 1 ∧ sa / 2 ^ p % 2 = 0) ∧ E (t ^^^ 2 ^ p) ∧ VLD E n sa (t ^^^ 2 ^ p) D) (fun D => (pU Pn sa D n : Int)) v.toInt
section LPIS
variable {E : Nat → Prop} {n sa t k : Nat} {Pn : Nat → Nat} {v w : Int32}
theorem LPI.nil (hv : v.toInt = (pU Pn sa t n : Int)) : LPI E n sa Pn t 0 v := ⟨fun z hz => by
    rcases hz with e | ⟨p, hp, -⟩
    · rw [e, hv]; exact Int.le_refl _
    · exact absurd hp (by omega), t, Or.inl rfl, hv⟩
theorem LPI.skip (h : LPI E n sa Pn t k v) (hs : ¬ ((t / 2 ^ k % 2 = 1 ∧ sa / 2 ^ k % 2 = 0) ∧ E (t ^^^ 2 ^ k))) : LPI E n sa Pn t (k + 1) v := MinI.iff h (fun z => by
  constructor
  · rintro (e | ⟨p, hp, a, b, c⟩)
    · exact Or.inl e
    · exact Or.inr ⟨p, by omega, a, b, c⟩
  · rintro (e | ⟨p, hp, a, b, c⟩)
    · exact Or.inl e
    · by_cases q : p = k
      · rw [q] at a b; exact absurd ⟨a, b⟩ hs
      · exact Or.inr ⟨p, by omega, a, b, c⟩)
theorem LPI.take (h : LPI E n sa Pn t k v) (ha : t / 2 ^ k % 2 = 1 ∧ sa / 2 ^ k % 2 = 0) (hb : E (t ^^^ 2 ^ k)) (hl : LPX E n sa Pn (t ^^^ 2 ^ k) w) : LPI E n sa Pn t (k + 1) (if w < v then w else v) := by
  refine MinI.iff (MinI.or h hl ?_) (fun z => ?_)
  · by_cases c : w < v
    · rw [if_pos c]; rw [i_lt] at c; exact Or.inl ⟨c, rfl⟩
    · rw [if_neg c]; rw [i_lt] at c; exact Or.inr ⟨c, rfl⟩
  · constructor
    · rintro ((e | ⟨p, hp, a, b, c⟩) | c)
      · exact Or.inl e
      · exact Or.inr ⟨p, by omega, a, b, c⟩
      · exact Or.inr ⟨k, by omega, ha, hb, c⟩
    · rintro (e | ⟨p, hp, a, b, c⟩)
      · exact Or.inl (Or.inl e)
      · by_cases q : p = k
        · rw [q] at c; exact Or.inr c
        · exact Or.inl (Or.inr ⟨p, by omega, a, b, c⟩)
theorem LPI.fin (h : LPI E n sa Pn t n v) (mon : MON E n) (ht : t < 2 ^ n) (hE : E t) : LPX E n sa Pn t v := MinI.iff h (VLD.step mon ht hE)
end LPIS
theorem MON.stl {fw : Nat → Int64} {y n : Nat} {gb : Int32} (h : MON (isG fw y) n) : MON (stl fw y n gb) n := by
  by_cases e : gb = 0
  · refine (h.dual).cong (fun t ht => ⟨fun g => ⟨fun _ => g, fun q => absurd e q⟩, fun g => g.1 e⟩)
  · exact h.cong (fun t ht => ⟨fun g => ⟨fun q => absurd q e, fun _ => g⟩, fun g => g.2 e⟩)
