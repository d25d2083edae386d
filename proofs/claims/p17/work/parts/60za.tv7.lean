/-! sums as functions -/
noncomputable def pif (P : Prop) (a b : Int64) : Int64 := @ite Int64 P (Classical.propDecidable P) a b
theorem pif_pos {P : Prop} {a b : Int64} (h : P) : pif P a b = a := @if_pos P (Classical.propDecidable P) h Int64 a b
theorem pif_neg {P : Prop} {a b : Int64} (h : ¬ P) : pif P a b = b := @if_neg P (Classical.propDecidable P) h Int64 a b
theorem pif_cong {P Q : Prop} {a b c : Int64} (h : P ↔ Q) (g : P → a = b) : pif P a c = pif Q b c := by
  by_cases p : P
  · rw [pif_pos p, pif_pos (h.mp p), g p]
  · rw [pif_neg p, pif_neg (fun q => p (h.mpr q))]
def SF (F : Nat → Int64) : Nat → Int64
  | 0 => lN 0
  | k + 1 => SF F k + F k
theorem SF.cong {F G : Nat → Int64} : ∀ k, (∀ z, z < k → F z = G z) → SF F k = SF G k
  | 0, _ => rfl
  | k + 1, h => by
    show SF F k + F k = SF G k + G k
    rw [SF.cong k (fun z hz => h z (by omega)), h k (by omega)]
theorem i64_four (a b c d : Int64) : (a + b) + (c + d) = (a + c) + (b + d) := by
  rw [Int64.add_assoc, Int64.add_assoc, ← Int64.add_assoc b c d, Int64.add_comm b c, Int64.add_assoc]
theorem SF.add {F G : Nat → Int64} : ∀ k, SF F k + SF G k = SF (fun z => F z + G z) k
  | 0 => by
    show lN 0 + lN 0 = lN 0
    decide
  | k + 1 => by
    show (SF F k + F k) + (SF G k + G k) = SF (fun z => F z + G z) k + (F k + G k)
    rw [i64_four, SF.add k]
theorem SF.mul {F : Nat → Int64} (a : Int64) : ∀ k, SF (fun z => F z * a) k = SF F k * a
  | 0 => by
    show lN 0 = lN 0 * a
    rw [lN0, Int64.zero_mul]
  | k + 1 => by
    show SF (fun z => F z * a) k + F k * a = (SF F k + F k) * a
    rw [SF.mul a k, Int64.add_mul]
theorem SF.shift {F : Nat → Int64} (a : Nat) : ∀ b, SF F (a + b) = SF F a + SF (fun z => F (a + z)) b
  | 0 => by
    show SF F a = SF F a + lN 0
    rw [lN0, Int64.add_zero]
  | b + 1 => by
    show SF F (a + b) + F (a + b) = SF F a + (SF (fun z => F (a + z)) b + F (a + b))
    rw [SF.shift a b, Int64.add_assoc]
theorem SF.front {F : Nat → Int64} : ∀ k, SF F (k + 1) = F 0 + SF (fun z => F (z + 1)) k
  | 0 => by
    show lN 0 + F 0 = F 0 + lN 0
    rw [Int64.add_comm]
  | k + 1 => by
    show SF F (k + 1) + F (k + 1) = F 0 + (SF (fun z => F (z + 1)) k + F (k + 1))
    rw [SF.front k, Int64.add_assoc]
theorem SF.rev : ∀ (k : Nat) (F : Nat → Int64), SF (fun z => F (k - 1 - z)) k = SF F k
  | 0, _ => rfl
  | k + 1, F => by
    rw [SF.front k (F := F)]
    show SF (fun z => F (k + 1 - 1 - z)) k + F (k + 1 - 1 - k) = _
    have e : SF (fun z => F (k + 1 - 1 - z)) k = SF (fun z => (fun y => F (y + 1)) (k - 1 - z)) k := SF.cong k (fun z hz => by
      show F (k + 1 - 1 - z) = F (k - 1 - z + 1)
      congr 1
      omega)
    rw [e, SF.rev k (fun y => F (y + 1)), show k + 1 - 1 - k = 0 by omega, Int64.add_comm]
theorem SQ.sf {P : Nat → Prop} {w : Nat → Int64} : ∀ {k : Nat} {v : Int64}, SQ P w k v → v = SF (fun z => pif (P z) (w z) (lN 0)) k
  | 0, v, h => h
  | k + 1, v, h => by
    show v = SF (fun z => pif (P z) (w z) (lN 0)) k + pif (P k) (w k) (lN 0)
    rcases h with ⟨p, u, e, h⟩ | ⟨p, h⟩
    · rw [pif_pos p, e, h.sf]
    · rw [pif_neg p, lN0, Int64.add_zero, h.sf, lN0]
/-- a sum whose terms are told by a relation -/
def SR (P : Nat → Prop) (R : Nat → Int64 → Prop) : Nat → Int64 → Prop
  | 0, v => v = lN 0
  | k + 1, v => (P k ∧ ∃ u x, v = u + x ∧ R k x ∧ SR P R k u) ∨ (¬ P k ∧ SR P R k v)
theorem SR.sf {P : Nat → Prop} {R : Nat → Int64 → Prop} {F : Nat → Int64} : ∀ {k : Nat} {v : Int64}, SR P R k v → (∀ z, z < k → P z → ∀ x, R z x → x = F z) → v = SF (fun z => pif (P z) (F z) (lN 0)) k
  | 0, v, h, _ => h
  | k + 1, v, h, g => by
    show v = SF (fun z => pif (P z) (F z) (lN 0)) k + pif (P k) (F k) (lN 0)
    rcases h with ⟨p, u, x, e, r, h⟩ | ⟨p, h⟩
    · rw [pif_pos p, e, h.sf (fun z hz => g z (by omega)), g k (by omega) p x r]
    · rw [pif_neg p, lN0, Int64.add_zero, h.sf (fun z hz => g z (by omega)), lN0]
/-! the settings that are as the state (lk, gd) tells -/
def CON (lk gd n t : Nat) : Prop := ∀ z, z < n → lk / 2 ^ z % 2 = 1 → (t / 2 ^ z % 2 = 1 ↔ gd / 2 ^ z % 2 = 1)
theorem mwt_bits {fg fb : Nat → Int32} {a b : Int32} : ∀ k, (∀ z, z < k → sb a z = sb b z) → mwt fg fb a k = mwt fg fb b k
  | 0, _ => rfl
  | k + 1, h => by
    show mwt fg fb a k * _ = mwt fg fb b k * _
    rw [mwt_bits k (fun z hz => h z (by omega)), h k (by omega)]
theorem bit_lo {k z t : Nat} (hz : z < k) : (2 ^ k + t) / 2 ^ z % 2 = t / 2 ^ z % 2 := by
  have e : 2 ^ k = 2 ^ z * (2 * 2 ^ (k - z - 1)) := by
    rw [← Nat.pow_succ', ← Nat.pow_add]
    congr 1
    omega
  rw [e, Nat.add_comm, Nat.add_mul_div_left _ _ (Nat.two_pow_pos z), Nat.add_mul_mod_self_left]
theorem bit_top {k t : Nat} (ht : t < 2 ^ k) : (2 ^ k + t) / 2 ^ k % 2 = 1 := by
  rw [Nat.add_comm, Nat.add_div_right _ (Nat.two_pow_pos k), Nat.div_eq_of_lt ht]
theorem con_lo {lk gd k t : Nat} (ht : t < 2 ^ k) : CON lk gd (k + 1) t ↔ CON lk gd k t ∧ (lk / 2 ^ k % 2 = 1 → ¬ gd / 2 ^ k % 2 = 1) := by
  have b0 : t / 2 ^ k % 2 = 0 := by rw [Nat.div_eq_of_lt ht]
  constructor
  · intro h
    refine ⟨fun z hz => h z (by omega), fun a b => ?_⟩
    have := (h k (by omega) a).mpr b
    omega
  · rintro ⟨h, g⟩ z hz a
    by_cases e : z = k
    · subst e
      exact ⟨fun q => by omega, fun q => absurd q (g a)⟩
    · exact h z (by omega) a
theorem con_hi {lk gd k t : Nat} (ht : t < 2 ^ k) : CON lk gd (k + 1) (2 ^ k + t) ↔ CON lk gd k t ∧ (lk / 2 ^ k % 2 = 1 → gd / 2 ^ k % 2 = 1) := by
  have b1 := bit_top ht
  constructor
  · intro h
    refine ⟨fun z hz a => ?_, fun a => (h k (by omega) a).mp b1⟩
    have := h z (by omega) a
    rw [bit_lo hz] at this
    exact this
  · rintro ⟨h, g⟩ z hz a
    by_cases e : z = k
    · subst e
      exact ⟨fun _ => g a, fun _ => b1⟩
    · rw [bit_lo (by omega)]
      exact h z (by omega) a
theorem pif_and {P Q : Prop} {a c : Int64} : pif (P ∧ Q) (a * c) (lN 0) = pif P a (lN 0) * pif Q c (lN 0) := by
  by_cases p : P
  · by_cases q : Q
    · rw [pif_pos ⟨p, q⟩, pif_pos p, pif_pos q]
    · rw [pif_neg (fun h => q h.2), pif_pos p, pif_neg q, lN0, Int64.mul_zero]
  · rw [pif_neg (fun h => p h.1), pif_neg p, lN0, Int64.zero_mul]
/-- the weights of the settings with what was seen, together, are what is left -/
theorem SF_left {fg fb fp : Nat → Int32} {Gn Bn Pn : Nat → Nat} {lk gd : Nat} (hvb : VB fg fb fp Gn Bn Pn) (hl : lk < 512) (hg : gd < 512) : ∀ k, k ≤ 9 → SF (fun t => pif (CON lk gd k t) (mwt fg fb (nI t) k) (lN 0)) (2 ^ k) = lf fg fb (nI lk) (nI gd) k
  | 0, _ => by
    show lN 0 + pif (CON lk gd 0 0) (lN 1) (lN 0) = lN 1
    have c : CON lk gd 0 0 := fun z hz => absurd hz (by omega)
    rw [pif_pos c]
    decide
  | k + 1, hk => by
    have ih := SF_left hvb hl hg k (by omega)
    have h2 : 2 ^ k < 512 := m_p512 (by omega)
    rw [show 2 ^ (k + 1) = 2 ^ k + 2 ^ k by rw [Nat.pow_succ]; omega, SF.shift]
    have e1 : SF (fun t => pif (CON lk gd (k + 1) t) (mwt fg fb (nI t) (k + 1)) (lN 0)) (2 ^ k) = SF (fun t => pif (CON lk gd k t) (mwt fg fb (nI t) k) (lN 0) * pif (lk / 2 ^ k % 2 = 1 → ¬ gd / 2 ^ k % 2 = 1) (fb k).toInt64 (lN 0)) (2 ^ k) := SF.cong _ (fun t ht => by
      have b0 : sb (nI t) k = 0 := by rw [mb_sb (by omega) (by omega), Nat.div_eq_of_lt ht]
      rw [← pif_and]
      refine pif_cong (con_lo ht) (fun _ => ?_)
      show mwt fg fb (nI t) k * _ = _
      rw [b0, if_neg (by decide)])
    have e2 : SF (fun z => (fun t => pif (CON lk gd (k + 1) t) (mwt fg fb (nI t) (k + 1)) (lN 0)) (2 ^ k + z)) (2 ^ k) = SF (fun t => pif (CON lk gd k t) (mwt fg fb (nI t) k) (lN 0) * pif (lk / 2 ^ k % 2 = 1 → gd / 2 ^ k % 2 = 1) (fg k).toInt64 (lN 0)) (2 ^ k) := SF.cong _ (fun t ht => by
      have b1 : sb (nI (2 ^ k + t)) k = 1 := by rw [mb_sb (by omega) (by omega)]; exact bit_top ht
      show pif (CON lk gd (k + 1) (2 ^ k + t)) (mwt fg fb (nI (2 ^ k + t)) (k + 1)) (lN 0) = _
      rw [← pif_and]
      refine pif_cong (con_hi ht) (fun _ => ?_)
      show mwt fg fb (nI (2 ^ k + t)) k * _ = _
      rw [b1, if_pos rfl, mwt_bits (a := nI (2 ^ k + t)) (b := nI t) k (fun z hz => by rw [mb_sb (a := 2 ^ k + t) (by omega) (by omega), mb_sb (a := t) (by omega) (by omega), bit_lo hz])])
    rw [e1, e2, SF.mul, SF.mul, ih]
    show _ = lf fg fb (nI lk) (nI gd) k * _
    rw [← Int64.mul_add, mb_sb (a := lk) (by omega) (by omega), mb_sb (a := gd) (by omega) (by omega)]
    congr 1
    have l1 : lk / 2 ^ k % 2 < 2 := Nat.mod_lt _ (by decide)
    by_cases a : lk / 2 ^ k % 2 = 0
    · rw [if_pos a, pif_pos (fun q => by omega), pif_pos (fun q => by omega)]
      obtain ⟨g1, g2, -, g3, g4, g5, g6, -⟩ := hvb k (by omega)
      rw [g1, g2, nI_add, nI_l (by omega), nI_l (by omega), nI_l (by omega), Int64.add_comm]
      exact lN_add _ _
    · rw [if_neg a]
      by_cases b : gd / 2 ^ k % 2 = 1
      · rw [if_pos b, pif_neg (fun q => q (by omega) b), pif_pos (fun _ => b), lN0, Int64.zero_add]
      · rw [if_neg b, pif_pos (fun _ => b), pif_neg (fun q => b (q (by omega))), lN0, Int64.add_zero]
