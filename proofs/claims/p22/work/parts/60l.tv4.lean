/-! sums over settings -/
def SQ (P : Nat → Prop) (w : Nat → Int64) : Nat → Int64 → Prop
  | 0, v => v = lN 0
  | k + 1, v => (P k ∧ ∃ u, v = u + w k ∧ SQ P w k u) ∨ (¬ P k ∧ SQ P w k v)
theorem SQ.eq {P P' : Nat → Prop} {w w' : Nat → Int64} : ∀ {k : Nat} {v v' : Int64}, SQ P w k v → SQ P' w' k v' → (∀ z, z < k → (P z ↔ P' z)) → (∀ z, z < k → P z → w z = w' z) → v = v'
  | 0, v, v', h, h', _, _ => by
    have a : v = lN 0 := h
    have b : v' = lN 0 := h'
    rw [a, b]
  | k + 1, v, v', h, h', g, gw => by
    rcases h with ⟨p, u, e, h⟩ | ⟨p, h⟩ <;> rcases h' with ⟨p', u', e', h'⟩ | ⟨p', h'⟩
    · rw [e, e', h.eq h' (fun z hz => g z (by omega)) (fun z hz => gw z (by omega)), gw k (by omega) p]
    · exact absurd ((g k (by omega)).mp p) p'
    · exact absurd ((g k (by omega)).mpr p') p
    · exact h.eq h' (fun z hz => g z (by omega)) (fun z hz => gw z (by omega))
def mwt (fg fb : Nat → Int32) (st : Int32) : Nat → Int64
  | 0 => lN 1
  | k + 1 => mwt fg fb st k * (if sb st k = 1 then (fg k).toInt64 else (fb k).toInt64)
theorem all_bit {n z : Nat} (hz : z < n) : (2 ^ n - 1) / 2 ^ z % 2 = 1 := by
  have q := (xor_bit (n := n) (s := 0) hz).mpr (by rw [Nat.zero_div])
  rw [Nat.xor_zero] at q
  exact q
theorem lf_all {fg fb vg vb : Nat → Int32} {n : Nat} {st : Int32} (hn : n ≤ 9) (hg : ∀ z, z < n → fg z = vg z ∧ fb z = vb z) : ∀ k, k ≤ n → lf fg fb (nI (2 ^ n - 1)) st k = mwt vg vb st k
  | 0, _ => rfl
  | k + 1, hk => by
    have e := lf_all (st := st) hn hg k (by omega)
    have h2 := m_pow hn
    obtain ⟨g1, g2⟩ := hg k (by omega)
    show lf fg fb (nI (2 ^ n - 1)) st k * _ = mwt vg vb st k * _
    rw [e, mb_sb (a := 2 ^ n - 1) (by omega) (by omega), all_bit (by omega), if_neg (by decide), g1, g2]
theorem bits_eq {a b n : Nat} (ha : a < 2 ^ n) (hb : b < 2 ^ n) (h : ∀ z, z < n → (a / 2 ^ z % 2 = 1 ↔ b / 2 ^ z % 2 = 1)) : a = b := by
  apply Nat.eq_of_testBit_eq
  intro z
  rw [m_tb, m_tb]
  by_cases c : z < n
  · exact decide_eq_decide.mpr (h z c)
  · rw [decide_eq_false (fun q => c (bit_lt ha q)), decide_eq_false (fun q => c (bit_lt hb q))]
theorem and_bit (a b z : Nat) : (a &&& b) / 2 ^ z % 2 = 1 ↔ a / 2 ^ z % 2 = 1 ∧ b / 2 ^ z % 2 = 1 := by
  have g : (a &&& b).testBit z = (a.testBit z && b.testBit z) := Nat.testBit_and ..
  rw [m_tb, m_tb, m_tb] at g
  by_cases x : (a &&& b) / 2 ^ z % 2 = 1 <;> by_cases y : a / 2 ^ z % 2 = 1 <;> by_cases w : b / 2 ^ z % 2 = 1 <;> simp [x, y, w] at g ⊢
/-- the setting st is as the state cv tells -/
def SCH (cv n : Nat) (st : Int32) : Prop := ∀ z, z < n → cv / 3 ^ z % 3 = 0 ∨ (cv / 3 ^ z % 3 = 1 ↔ sb st z = 1)
theorem fits_sch {n sa sv s : Nat} {vn : Nat → Int32} (hn : n ≤ 9) (ha : sa < 2 ^ n) (hv : sv < 2 ^ n) (hs : SUBS sa sv n) (h : ∀ z, z < n → vn z = nF (nI sa) (nI sv) z) (ht : s < 2 ^ n) : nI s &&& nI sa = nI sv ↔ SCH (nowN vn n) n (nI s) := by
  have h2 := m_pow hn
  have hx : s &&& sa < 2 ^ n := Nat.lt_of_le_of_lt Nat.and_le_left ht
  rw [mb_and, nI_eq (by omega) (by omega)]
  have key := now_key hn ha hv h
  have B : ∀ z, z < n → sb (nI s) z = s / 2 ^ z % 2 := fun z hz => mb_sb (by omega) (by omega)
  constructor
  · intro e z hz
    rw [key z hz, B z hz]
    by_cases a : sa / 2 ^ z % 2 = 0
    · rw [if_pos a]; exact Or.inl rfl
    · have ab := and_bit s sa z
      rw [e] at ab
      have l1 : sa / 2 ^ z % 2 < 2 := Nat.mod_lt _ (by decide)
      have a1 : sa / 2 ^ z % 2 = 1 := by omega
      rw [if_neg a]
      refine Or.inr ?_
      by_cases b : sv / 2 ^ z % 2 = 1
      · rw [if_pos b]; exact ⟨fun _ => (ab.mp b).1, fun _ => rfl⟩
      · rw [if_neg b]; exact ⟨fun q => absurd q (by decide), fun q => absurd (ab.mpr ⟨q, a1⟩) b⟩
  · intro g
    refine bits_eq hx hv (fun z hz => ?_)
    rw [and_bit]
    have q := g z hz
    rw [key z hz, B z hz] at q
    by_cases a : sa / 2 ^ z % 2 = 0
    · have b := hs z hz a
      exact ⟨fun w => absurd w.2 (by omega), fun w => absurd w (by omega)⟩
    · have l1 : sa / 2 ^ z % 2 < 2 := Nat.mod_lt _ (by decide)
      have a1 : sa / 2 ^ z % 2 = 1 := by omega
      rw [if_neg a] at q
      by_cases b : sv / 2 ^ z % 2 = 1
      · rw [if_pos b] at q
        exact ⟨fun _ => b, fun _ => ⟨(q.resolve_left (by decide)).mp rfl, a1⟩⟩
      · rw [if_neg b] at q
        exact ⟨fun w => absurd ((q.resolve_left (by decide)).mpr w.1) (by decide), fun w => absurd w b⟩

theorem wh01 {wh : Int32} (h : wh = nI 0 ∨ wh = nI 1) : 0 ≤ wh.toInt ∧ wh.toInt ≤ 1 := by
  rcases h with e | e <;> rw [e, nI_toInt (by decide)] <;> omega
theorem wh1 {wh : Int32} (h : 0 ≤ wh.toInt ∧ wh.toInt ≤ 1) (g : ¬ wh = 0) : wh = nI 1 := by
  have g2 : ¬ wh.toInt = 0 := fun q => g (by rw [i_eq, q]; rfl)
  rw [i_eq, nI_toInt (by decide)]
  omega
