
theorem m_nat {x : Int32} {n : Nat} (h : 0 ≤ x.toInt ∧ x.toInt < n) : ∃ j : Nat, j < n ∧ x = nI j := by
  obtain ⟨j, hj, e⟩ := nI_of (x := x) (by rw [i_lt, i_z]; omega)
  refine ⟨j, ?_, e⟩
  have h2 := h.2
  rw [e, nI_toInt hj] at h2
  omega
theorem m_ne {x : Int32} {k : Nat} (h : x.toInt ≠ k) (hk : k < 2 ^ 31) : ¬ x = nI k := by
  intro e
  rw [e, nI_toInt hk] at h
  exact h rfl
theorem m_isn {x : Int32} {k : Nat} (h : x.toInt = k) (hk : k < 2 ^ 31) : x = nI k := by
  rw [i_eq, nI_toInt hk]; exact h
theorem m_sw_0_3 {x : Int32} (h : ¬ (x.toInt < 0 ∨ 3 < x.toInt)) : x = nI 0 ∨ x = nI 1 ∨ x = nI 2 ∨ x = nI 3 := by
  rcases (show x.toInt = (0 : Nat) ∨ x.toInt = (1 : Nat) ∨ x.toInt = (2 : Nat) ∨ x.toInt = (3 : Nat) by omega) with e | e | e | e
  · exact Or.inl (m_isn e (by decide))
  · exact Or.inr (Or.inl (m_isn e (by decide)))
  · exact Or.inr (Or.inr (Or.inl (m_isn e (by decide))))
  · exact Or.inr (Or.inr (Or.inr (m_isn e (by decide))))
theorem m_sw_0_4 {x : Int32} (h : ¬ (x.toInt < 0 ∨ 4 < x.toInt)) : x = nI 0 ∨ x = nI 1 ∨ x = nI 2 ∨ x = nI 3 ∨ x = nI 4 := by
  rcases (show x.toInt = (0 : Nat) ∨ x.toInt = (1 : Nat) ∨ x.toInt = (2 : Nat) ∨ x.toInt = (3 : Nat) ∨ x.toInt = (4 : Nat) by omega) with e | e | e | e | e
  · exact Or.inl (m_isn e (by decide))
  · exact Or.inr (Or.inl (m_isn e (by decide)))
  · exact Or.inr (Or.inr (Or.inl (m_isn e (by decide))))
  · exact Or.inr (Or.inr (Or.inr (Or.inl (m_isn e (by decide)))))
  · exact Or.inr (Or.inr (Or.inr (Or.inr (m_isn e (by decide)))))
/-- an answer v, or NONE -/
def R1 (r v : Int32) (P : Prop) : Prop := (r = v ∧ P) ∨ (r = -1 ∧ ¬ P)
def abF (a b c d e x : Int32) : Int32 := if x = nI 0 then a else if x = nI 1 then b else if x = nI 2 then c else if x = nI 3 then d else if x = nI 4 then e else -1
theorem abF_out {a b c d e x : Int32} (h : x.toInt < 0 ∨ 4 < x.toInt) : abF a b c d e x = -1 := by
  unfold abF
  rw [if_neg (m_ne (k := 0) (by omega) (by decide)), if_neg (m_ne (k := 1) (by omega) (by decide)), if_neg (m_ne (k := 2) (by omega) (by decide)), if_neg (m_ne (k := 3) (by omega) (by decide)), if_neg (m_ne (k := 4) (by omega) (by decide))]
def qO (a b c d x : Int32) : Int32 := if x = nI 0 then a else if x = nI 1 then b else if x = nI 2 then c else if x = nI 3 then d else -2
theorem qO_out {a b c d x : Int32} (h : x.toInt < 0 ∨ 3 < x.toInt) : qO a b c d x = -2 := by
  unfold qO
  rw [if_neg (m_ne (k := 0) (by omega) (by decide)), if_neg (m_ne (k := 1) (by omega) (by decide)), if_neg (m_ne (k := 2) (by omega) (by decide)), if_neg (m_ne (k := 3) (by omega) (by decide))]
def pO (fg fb fp fs : Nat → Int32) (n : Nat) (p wh : Int32) : Int32 := if 0 ≤ p.toInt ∧ p.toInt < n then qO (fg p.toInt.toNat) (fb p.toInt.toNat) (fp p.toInt.toNat) (fs p.toInt.toNat) wh else -2
theorem pO_in {fg fb fp fs : Nat → Int32} {n j : Nat} {wh : Int32} (hj : j < n) (hn : n ≤ 9) : pO fg fb fp fs n (nI j) wh = qO (fg j) (fb j) (fp j) (fs j) wh := by
  unfold pO
  rw [nI_toInt (by omega), if_pos (by omega)]
  rfl
theorem pO_no {fg fb fp fs : Nat → Int32} {n : Nat} {p wh : Int32} (h : ¬ (0 ≤ p.toInt ∧ p.toInt < n)) : pO fg fb fp fs n p wh = -2 := if_neg h
/-- what was seen of part j, as the shelf keeps it -/
def nF (sn sg : Int32) (j : Nat) : Int32 := if sb sn j = 0 then -1 else nI (sb sg j)
/-- the i-th of a row that holds q -/
def oF (fr : Nat → Int32) (q : Nat) (i : Int32) : Int32 := if 0 ≤ i.toInt ∧ i.toInt < q then fr i.toInt.toNat else -1
theorem oF_in {fr : Nat → Int32} {q j : Nat} (hj : j < q) (hq : q ≤ 9) : oF fr q (nI j) = fr j := by
  unfold oF
  rw [nI_toInt (by omega), if_pos (by omega)]
  rfl
theorem oF_no {fr : Nat → Int32} {q : Nat} {i : Int32} (h : ¬ (0 ≤ i.toInt ∧ i.toInt < q)) : oF fr q i = -1 := if_neg h
