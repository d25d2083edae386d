/-! q different numbers below n: q is at most n -/
theorem pig : ∀ (n q : Nat) (f : Nat → Nat), (∀ i j, i < q → j < q → f i = f j → i = j) → (∀ i, i < q → f i < n) → q ≤ n
  | 0, q, f, _, hl => by
    rcases Nat.eq_zero_or_pos q with h | h
    · omega
    · exact absurd (hl 0 h) (by omega)
  | n + 1, q, f, hi, hl => by
    by_cases hex : ∃ i, i < q ∧ f i = n
    · obtain ⟨i, hiq, hin⟩ := hex
      have g := pig n (q - 1) (fun j => if j = i then f (q - 1) else f j) (by
        intro a b ha hb hab
        by_cases ea : a = i
        · by_cases eb : b = i
          · omega
          · simp only [ea, eb, if_true, if_false] at hab
            have := hi (q - 1) b (by omega) (by omega) hab
            omega
        · by_cases eb : b = i
          · simp only [ea, eb, if_true, if_false] at hab
            have := hi a (q - 1) (by omega) (by omega) hab
            omega
          · simp only [ea, eb, if_false] at hab
            exact hi a b (by omega) (by omega) hab) (by
        intro a ha
        by_cases ea : a = i
        · simp only [ea, if_true]
          have h1 := hl (q - 1) (by omega)
          have h2 : f (q - 1) ≠ n := fun e => by
            have := hi (q - 1) i (by omega) hiq (e.trans hin.symm)
            omega
          omega
        · simp only [ea, if_false]
          have h1 := hl a (by omega)
          have h2 : f a ≠ n := fun e => ea (hi a i (by omega) hiq (e.trans hin.symm))
          omega)
      omega
    · have g := pig n q f hi (fun i h => by
        have h1 := hl i h
        have h2 : f i ≠ n := fun e => hex ⟨i, h, e⟩
        omega)
      omega
/-- a row's first q entries are different parts below n -/
def DQ (fr : Nat → Int32) (q n : Nat) : Prop := (∀ z, z < q → ∃ x, x < n ∧ fr z = nI x) ∧ ∀ i j, i < q → j < q → fr i = fr j → i = j
theorem DQ.le {fr : Nat → Int32} {q n : Nat} (h : DQ fr q n) (hn : n ≤ 9) : q ≤ n := by
  refine pig n q (fun z => (fr z).toInt.toNat) (fun i j hi hj e => ?_) (fun i hi => ?_)
  · obtain ⟨x, hx, ex⟩ := h.1 i hi
    obtain ⟨y, hy, ey⟩ := h.1 j hj
    refine h.2 i j hi hj ?_
    simp only [ex, ey, nI_toInt (show x < 2 ^ 31 by omega), nI_toInt (show y < 2 ^ 31 by omega), Int.toNat_natCast] at e
    rw [ex, ey, e]
  · obtain ⟨x, hx, ex⟩ := h.1 i hi
    simp only [ex, nI_toInt (show x < 2 ^ 31 by omega), Int.toNat_natCast]
    exact hx
theorem DQ.push {fr : Nat → Int32} {q n p : Nat} (h : DQ fr q n) (hp : p < n) (hno : ∀ z, z < q → ¬ fr z = nI p) : DQ (upd fr q (nI p)) (q + 1) n := by
  refine ⟨fun z hz => ?_, fun i j hi hj e => ?_⟩
  · by_cases ez : z = q
    · exact ⟨p, hp, by simp [upd, ez]⟩
    · obtain ⟨x, hx, ex⟩ := h.1 z (by omega)
      exact ⟨x, hx, by simp [upd, ez, ex]⟩
  · by_cases ei : i = q
    · by_cases ej : j = q
      · omega
      · simp only [upd, ei, ej, if_true, if_false] at e
        exact absurd e.symm (hno j (by omega))
    · by_cases ej : j = q
      · simp only [upd, ei, ej, if_true, if_false] at e
        exact absurd e (hno i (by omega))
      · simp only [upd, ei, ej, if_false] at e
        exact h.2 i j (by omega) (by omega) e
theorem DQ.room {fr : Nat → Int32} {q n p : Nat} (h : DQ fr q n) (hn : n ≤ 9) (hp : p < n) (hno : ∀ z, z < q → ¬ fr z = nI p) : q < n := by
  have := (h.push hp hno).le hn
  omega
