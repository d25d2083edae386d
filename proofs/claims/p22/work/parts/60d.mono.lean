/-! more good parts never spoil -/
/-- every part of t is one of u -/
def SUB (t u : Nat) : Prop := ∀ z, t / 2 ^ z % 2 = 1 → u / 2 ^ z % 2 = 1
def MON (S : Nat → Prop) (n : Nat) : Prop := ∀ t u, t < 2 ^ n → u < 2 ^ n → SUB t u → S t → S u
theorem MON.single (j n : Nat) : MON (fun t => t / 2 ^ j % 2 = 1) n := fun _ _ _ _ h g => h j g
theorem MON.and {S R : Nat → Prop} {n : Nat} (h : MON S n) (g : MON R n) : MON (fun t => S t ∧ R t) n := fun t u ht hu s k => ⟨h t u ht hu s k.1, g t u ht hu s k.2⟩
theorem MON.or {S R : Nat → Prop} {n : Nat} (h : MON S n) (g : MON R n) : MON (fun t => S t ∨ R t) n := fun t u ht hu s k => k.elim (fun a => Or.inl (h t u ht hu s a)) (fun a => Or.inr (g t u ht hu s a))
theorem SUB.xor {n t u : Nat} (ht : t < 2 ^ n) (h : SUB t u) (hu : u < 2 ^ n) : SUB ((2 ^ n - 1) ^^^ u) ((2 ^ n - 1) ^^^ t) := by
  intro z hz
  by_cases c : z < n
  · rw [xor_bit c] at hz ⊢
    have l : t / 2 ^ z % 2 < 2 := Nat.mod_lt _ (by decide)
    by_cases d : t / 2 ^ z % 2 = 1
    · have := h z d
      omega
    · omega
  · have hp : 2 ^ n ≤ 2 ^ z := Nat.pow_le_pow_right (by decide) (by omega)
    have hx : (2 ^ n - 1) ^^^ u < 2 ^ n := m_x9 (by have := m_powp n; omega) hu
    rw [Nat.div_eq_of_lt (by omega)] at hz
    exact absurd hz (by decide)
theorem MON.dual {S : Nat → Prop} {n : Nat} (h : MON S n) : MON (fun t => ¬ S ((2 ^ n - 1) ^^^ t)) n := fun t u ht hu s k g => k (h _ _ (m_x9 (by have := m_powp n; omega) hu) (m_x9 (by have := m_powp n; omega) ht) (s.xor ht hu) g)
theorem wV_nat {wo : Int64} {w a : Nat} (hw : w < 4) : ∃ m, m ≤ 7 ∧ wV wo w a = nI m := by
  unfold wV
  generalize hx : wo >>> ((nI a).toInt64 &&& 63) = x
  refine ⟨(x &&& (lN 1 <<< ((nI w).toInt64 &&& 63) - lN 1)).toBitVec.toNat, ?_, ?_⟩
  · rw [Int64.toBitVec_and, msk3 w hw, BitVec.toNat_and]
    refine Nat.le_trans Nat.and_le_right ?_
    have : 2 ^ w ≤ 2 ^ 3 := Nat.pow_le_pow_right (by decide) (by omega)
    rw [BitVec.toNat_ofNat, Nat.mod_eq_of_lt (by omega)]
    omega
  · generalize x &&& (lN 1 <<< ((nI w).toInt64 &&& 63) - lN 1) = v
    have e : v = lN v.toBitVec.toNat := by
      apply Int64.toBitVec_inj.1
      show v.toBitVec = BitVec.ofNat 64 v.toBitVec.toNat
      rw [BitVec.ofNat_toNat, BitVec.setWidth_eq]
    exact (congrArg Int64.toInt32 e).trans (lN_i _)
theorem wZ_nat {wo : Int64} {w : Nat} {se : Int32} (hw : w < 4) : ∃ W : Nat → Nat, ∀ z, W z ≤ 7 ∧ wZ wo w se z = nI (W z) := by
  have h : ∀ z, ∃ m, m ≤ 7 ∧ wZ wo w se z = nI m := fun z => by
    unfold wZ
    split
    · split
      · exact ⟨1, by omega, rfl⟩
      · exact wV_nat hw
    · exact ⟨0, by omega, rfl⟩
  exact ⟨fun z => Classical.choose (h z), fun z => Classical.choose_spec (h z)⟩
def sW (W : Nat → Nat) (t : Nat) : Nat → Nat
  | 0 => 0
  | k + 1 => sW W t k + (if t / 2 ^ k % 2 = 1 then W k else 0)
theorem sW_le {W : Nat → Nat} {t : Nat} (h : ∀ z, W z ≤ 7) : ∀ k, sW W t k ≤ 7 * k
  | 0 => Nat.le_refl _
  | k + 1 => by
    have g := sW_le (t := t) h k
    have := h k
    show sW W t k + _ ≤ _
    split <;> omega
theorem sW_mono {W : Nat → Nat} {t u : Nat} (h : SUB t u) : ∀ k, sW W t k ≤ sW W u k
  | 0 => Nat.le_refl _
  | k + 1 => by
    have g := sW_mono (W := W) h k
    show sW W t k + _ ≤ sW W u k + _
    by_cases c : t / 2 ^ k % 2 = 1
    · rw [if_pos c, if_pos (h k c)]; omega
    · rw [if_neg c]; omega
theorem pf_sum {f : Nat → Int32} {W : Nat → Nat} {t : Nat} (hf : ∀ z, f z = nI (W z)) (ht : t < 512) : ∀ k, k ≤ 9 → pf f (nI t) k = nI (sW W t k)
  | 0, _ => rfl
  | k + 1, hk => by
    simp only [pf]
    rw [pf_sum hf ht k (by omega), hf k, mb_sb (a := t) (by omega) (by omega)]
    show _ = nI (sW W t k + (if t / 2 ^ k % 2 = 1 then W k else 0))
    by_cases c : t / 2 ^ k % 2 = 1
    · rw [if_pos c, if_pos c, nI_add]
    · rw [if_neg c, if_neg c, Nat.add_zero]
theorem MON.some {wo : Int64} {w n : Nat} {se kk : Int32} (hw : w < 4) (hn : n ≤ 9) : MON (fun t => ¬ pf (wZ wo w se) (nI t) n < kk) n := by
  obtain ⟨W, hW⟩ := wZ_nat (wo := wo) (se := se) hw
  intro t u ht hu s
  have h2 := m_pow hn
  have l1 := sW_le (t := t) (fun z => (hW z).1) n
  have l2 := sW_le (t := u) (fun z => (hW z).1) n
  have l3 := sW_mono (W := W) s n
  show ¬ _ → ¬ _
  rw [pf_sum (fun z => (hW z).2) (by omega) n hn, pf_sum (fun z => (hW z).2) (by omega) n hn, i_lt, i_lt, nI_toInt (by omega), nI_toInt (by omega)]
  omega
theorem MON.cong {S S' : Nat → Prop} {n : Nat} (h : MON S n) (g : ∀ t, t < 2 ^ n → (S t ↔ S' t)) : MON S' n := fun t u ht hu s k => (g u hu).mp (h t u ht hu s ((g t ht).mpr k))
/-! the weight that is left, on both sides -/
theorem now_key {n sa sv : Nat} {vn : Nat → Int32} (hn : n ≤ 9) (ha : sa < 2 ^ n) (hv : sv < 2 ^ n) (h : ∀ z, z < n → vn z = nF (nI sa) (nI sv) z) : ∀ z, z < n → nowN vn n / 3 ^ z % 3 = if sa / 2 ^ z % 2 = 0 then 0 else if sv / 2 ^ z % 2 = 1 then 1 else 2 := fun z hz => by
  have h2 := m_pow hn
  rw [nowN_digit n z hz, h z hz]
  unfold nF
  rw [mb_sb (a := sa) (by omega) (by omega), mb_sb (a := sv) (by omega) (by omega)]
  by_cases c : sa / 2 ^ z % 2 = 0
  · rw [if_pos c, if_pos c]; decide
  · rw [if_neg c, if_neg c]
    by_cases d : sv / 2 ^ z % 2 = 1
    · rw [d]; decide
    · rw [show sv / 2 ^ z % 2 = 0 by omega]; decide
theorem dgtN {th : Nat → Int32} {cv k : Nat} (hth : ∀ z, z < 9 → th z = nI (3 ^ z)) (hk : k < 9) (hc : cv < 19683) : dgt th (nI cv) k = nI (cv / 3 ^ k % 3) := by
  have h3 := m_3n (n := k) (by omega)
  have h3p := m_p3p k
  have hd : cv / 3 ^ k ≤ cv := Nat.div_le_self _ _
  unfold dgt
  rw [hth k hk, pk_div (by omega) (by omega) (by omega)]
  exact pk_rem (by omega) (by omega) (by omega)
theorem left_eq {n sa sv : Nat} {fg fb vg vb th : Nat → Int32} {cv : Nat} (hn : n ≤ 9) (ha : sa < 2 ^ n) (hv : sv < 2 ^ n) (hth : ∀ z, z < 9 → th z = nI (3 ^ z)) (hg : ∀ z, z < 9 → fg z = vg z ∧ fb z = vb z) (hc : cv < 3 ^ n) (hd : ∀ z, z < n → cv / 3 ^ z % 3 = if sa / 2 ^ z % 2 = 0 then 0 else if sv / 2 ^ z % 2 = 1 then 1 else 2) : ∀ k, k ≤ n → lf fg fb (nI sa) (nI sv) k = mlf vg vb th (nI cv) k
  | 0, _ => rfl
  | k + 1, hk => by
    have h2 := m_pow hn
    have h3 := m_3n hn
    have e := left_eq hn ha hv hth hg hc hd k (by omega)
    obtain ⟨g1, g2⟩ := hg k (by omega)
    simp only [lf, mlf]
    rw [e, dgtN hth (by omega) (by omega), hd k (by omega), g1, g2, mb_sb (a := sa) (by omega) (by omega), mb_sb (a := sv) (by omega) (by omega)]
    congr 1
    by_cases c : sa / 2 ^ k % 2 = 0
    · rw [if_pos c, if_pos c, if_neg (by decide), if_neg (by decide)]
    · rw [if_neg c, if_neg c]
      by_cases d : sv / 2 ^ k % 2 = 1
      · rw [if_pos d, if_pos d, if_pos rfl]
      · rw [if_neg d, if_neg d, if_neg (by decide), if_pos rfl]
