
theorem m_sw_1_8 {x : Int32} (h : ¬ (x.toInt < 1 ∨ 8 < x.toInt)) : x = nI 1 ∨ x = nI 2 ∨ x = nI 3 ∨ x = nI 4 ∨ x = nI 5 ∨ x = nI 6 ∨ x = nI 7 ∨ x = nI 8 := by
  rcases (show x.toInt = (1 : Nat) ∨ x.toInt = (2 : Nat) ∨ x.toInt = (3 : Nat) ∨ x.toInt = (4 : Nat) ∨ x.toInt = (5 : Nat) ∨ x.toInt = (6 : Nat) ∨ x.toInt = (7 : Nat) ∨ x.toInt = (8 : Nat) by omega) with e | e | e | e | e | e | e | e
  · exact Or.inl (m_isn e (by decide))
  · exact Or.inr (Or.inl (m_isn e (by decide)))
  · exact Or.inr (Or.inr (Or.inl (m_isn e (by decide))))
  · exact Or.inr (Or.inr (Or.inr (Or.inl (m_isn e (by decide)))))
  · exact Or.inr (Or.inr (Or.inr (Or.inr (Or.inl (m_isn e (by decide))))))
  · exact Or.inr (Or.inr (Or.inr (Or.inr (Or.inr (Or.inl (m_isn e (by decide)))))))
  · exact Or.inr (Or.inr (Or.inr (Or.inr (Or.inr (Or.inr (Or.inl (m_isn e (by decide))))))))
  · exact Or.inr (Or.inr (Or.inr (Or.inr (Or.inr (Or.inr (Or.inr (m_isn e (by decide))))))))
theorem m_w02 {x : Int32} (h : 0 ≤ x.toInt ∧ x.toInt ≤ 2) : x = nI 0 ∨ x = nI 1 ∨ x = nI 2 := by
  rcases (show x.toInt = (0 : Nat) ∨ x.toInt = (1 : Nat) ∨ x.toInt = (2 : Nat) by omega) with e | e | e
  · exact Or.inl (m_isn e (by decide))
  · exact Or.inr (Or.inl (m_isn e (by decide)))
  · exact Or.inr (Or.inr (m_isn e (by decide)))
theorem FS.iff {fr uf : Int32} {len n ul : Nat} {K P : Prop} (hK : K ↔ P) (h : FS fr len n P uf ul) : FS fr len n K uf ul := by
  refine ⟨h.1, h.2.1, ?_⟩
  rcases h.2.2 with ⟨a, b, c, d⟩ | ⟨a, b⟩
  · exact Or.inl ⟨a, b, hK.mpr c, d⟩
  · exact Or.inr ⟨fun g => a ⟨g.1, g.2.1, hK.mp g.2.2⟩, b⟩
theorem FS.stay {uf : Int32} {len n ul : Nat} {K : Prop} (h : FS (nI 1) len n K uf ul) : ul = len := by
  rcases h.2.2 with ⟨a, _⟩ | ⟨_, b⟩
  · exact absurd a (by decide)
  · exact b
theorem FS.trans {fr uf : Int32} {len n ul ln : Nat} {K K' : Prop} (h : FS fr len n K (nI 1) ln) (g : FS (nI 1) ln n K' uf ul) : FS fr len n K uf ul := by
  refine ⟨g.1, g.2.1, ?_⟩
  rw [g.stay]
  exact h.2.2
theorem FS.ge {fr : Int32} {len n ul : Nat} {K : Prop} (h : FS fr len n K (nI 1) ul) : 3 ^ n ≤ ul := by
  rcases h.2.1 with a | ⟨_, b⟩
  · exact absurd a (by decide)
  · exact b
/-- what of told asks the plans -/
def KT (wh : Int32) (P : Prop) : Prop := wh = nI 2 ∨ wh = nI 4 ∨ ((wh = nI 3 ∨ wh = nI 5) ∧ P)
theorem KT.out {wh : Int32} {P : Prop} (h : wh.toInt < 2 ∨ 5 < wh.toInt) : ¬ KT wh P := by
  rintro (e | e | ⟨e | e, _⟩)
  · rw [e, nI_toInt (by decide)] at h; omega
  · rw [e, nI_toInt (by decide)] at h; omega
  · rw [e, nI_toInt (by decide)] at h; omega
  · rw [e, nI_toInt (by decide)] at h; omega
theorem KT.i3 {wh : Int32} {P : Prop} (e : wh = nI 3 ∨ wh = nI 5) : KT wh P ↔ P := by
  refine ⟨fun h => ?_, fun h => Or.inr (Or.inr ⟨e, h⟩)⟩
  rcases h with h | h | h
  · rcases e with e | e <;> rw [e] at h <;> exact absurd h (by decide)
  · rcases e with e | e <;> rw [e] at h <;> exact absurd h (by decide)
  · exact h.2
theorem nt_none {r sn sg : Int32} {j : Nat} (h : r = if sb sn j = 0 then -1 else nI (sb sg j)) (e : r = -1) : sb sn j = 0 := by
  by_cases g : sb sn j = 0
  · exact g
  · rw [if_neg g, e] at h
    have := sb_lt sg j
    exact absurd h.symm (nI_ne1 (by omega))
theorem nt_some {r sn sg : Int32} {j : Nat} (h : r = if sb sn j = 0 then -1 else nI (sb sg j)) (e : ¬ r = -1) : ¬ sb sn j = 0 := fun g => e (by rw [h, if_pos g])
def KO (n sa : Nat) (p wh : Int32) : Prop := (0 ≤ p.toInt ∧ p.toInt < n) ∧ sb (nI sa) p.toInt.toNat = 0 ∧ wh = nI 0
def KR (fw : Nat → Int64) (y n sa sv : Nat) (wh st : Int32) : Prop := (wh = nI 0 ∨ wh = nI 1) ∧ (0 ≤ st.toInt ∧ st.toInt < (2 ^ n : Nat)) ∧ st &&& nI sa = nI sv ∧ NV fw y (st.toInt.toNat &&& sa) ((2 ^ n - 1) ^^^ sa)
theorem m_tn {j : Nat} (h : j < 2 ^ 31) : (nI j).toInt.toNat = j := by rw [nI_toInt h]; rfl

theorem KR.w {fw : Nat → Int64} {y n sa sv : Nat} {wh st : Int32} (h : KR fw y n sa sv wh st) : 0 ≤ wh.toInt ∧ wh.toInt ≤ 2 := by
  rcases h.1 with e | e <;> rw [e, nI_toInt (by decide)] <;> omega
theorem KR.iff {fw : Nat → Int64} {y n sa sv j : Nat} {wh : Int32} (h : wh = nI 0 ∨ wh = nI 1) (hj : j < 2 ^ n) (hn : n ≤ 9) (hf : nI j &&& nI sa = nI sv) : KR fw y n sa sv wh (nI j) ↔ NV fw y (j &&& sa) ((2 ^ n - 1) ^^^ sa) := by
  have h2 := m_pow hn
  refine ⟨fun g => ?_, fun g => ⟨h, ?_, hf, ?_⟩⟩
  · have g4 := g.2.2.2
    rw [m_tn (by omega)] at g4
    exact g4
  · rw [nI_toInt (by omega)]; omega
  · rw [m_tn (by omega)]; exact g
