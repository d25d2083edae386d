/-! the order by ratios -/
def VB (fg fb fp : Nat → Int32) (G B P : Nat → Nat) : Prop := ∀ z, z < 9 → fg z = nI (G z) ∧ fb z = nI (B z) ∧ fp z = nI (P z) ∧ 1 ≤ G z ∧ G z ≤ 9 ∧ 1 ≤ B z ∧ B z ≤ 9 ∧ P z ≤ 1000
def upN (G B P : Nat → Nat) (z : Nat) : Nat := P z * (G z + B z)
def dnN (G B : Nat → Nat) (sd : Int32) (z : Nat) : Nat := if sd = 0 then B z else G z
/-- a comes before b -/
def bfr (G B P : Nat → Nat) (sd : Int32) (a b : Nat) : Prop := upN G B P a * dnN G B sd b < upN G B P b * dnN G B sd a ∨ (upN G B P a * dnN G B sd b = upN G B P b * dnN G B sd a ∧ a < b)
theorem bfr.irr {G B P : Nat → Nat} {sd : Int32} {a : Nat} (h : bfr G B P sd a a) : False := by
  rcases h with h | h
  · exact Nat.lt_irrefl _ h
  · exact Nat.lt_irrefl _ h.2
theorem bfr.asym {G B P : Nat → Nat} {sd : Int32} {a b : Nat} (h : bfr G B P sd a b) (g : bfr G B P sd b a) : False := by
  rcases h with h | h <;> rcases g with g | g
  · omega
  · omega
  · omega
  · omega
theorem cross {ua ub uc da db dc : Nat} (hb : 0 < db) (h : ua * db ≤ ub * da) (g : ub * dc ≤ uc * db) : ua * dc ≤ uc * da := by
  have h1 : ua * db * dc ≤ ub * da * dc := Nat.mul_le_mul_right _ h
  have h2 : ub * dc * da ≤ uc * db * da := Nat.mul_le_mul_right _ g
  have e1 : ub * da * dc = ub * dc * da := Nat.mul_right_comm ..
  have e2 : ua * db * dc = (ua * dc) * db := Nat.mul_right_comm ..
  have e3 : uc * db * da = (uc * da) * db := Nat.mul_right_comm ..
  exact Nat.le_of_mul_le_mul_right (by omega) hb
theorem crossLt {ua ub uc da db dc : Nat} (hb : 0 < db) (hc : 0 < dc) (ha : 0 < da) (h : ua * db ≤ ub * da) (g : ub * dc ≤ uc * db) (s : ua * db < ub * da ∨ ub * dc < uc * db) : ua * dc < uc * da := by
  have e1 : ub * da * dc = ub * dc * da := Nat.mul_right_comm ..
  have e2 : ua * db * dc = (ua * dc) * db := Nat.mul_right_comm ..
  have e3 : uc * db * da = (uc * da) * db := Nat.mul_right_comm ..
  have h1 : ua * db * dc ≤ ub * da * dc := Nat.mul_le_mul_right _ h
  have h2 : ub * dc * da ≤ uc * db * da := Nat.mul_le_mul_right _ g
  have k : (ua * dc) * db < (uc * da) * db := by
    rcases s with s | s
    · have := Nat.mul_lt_mul_of_pos_right s hc
      omega
    · have := Nat.mul_lt_mul_of_pos_right s ha
      omega
  exact Nat.lt_of_mul_lt_mul_right k
theorem dnN_pos {fg fb fp : Nat → Int32} {G B P : Nat → Nat} {sd : Int32} {z : Nat} (h : VB fg fb fp G B P) (hz : z < 9) : 0 < dnN G B sd z := by
  obtain ⟨-, -, -, a, -, b, -⟩ := h z hz
  unfold dnN
  split <;> omega
theorem bfr.trans {fg fb fp : Nat → Int32} {G B P : Nat → Nat} {sd : Int32} {a b c : Nat} (hv : VB fg fb fp G B P) (ha : a < 9) (hb : b < 9) (hc : c < 9) (h : bfr G B P sd a b) (g : bfr G B P sd b c) : bfr G B P sd a c := by
  have pa := dnN_pos (sd := sd) hv ha
  have pb := dnN_pos (sd := sd) hv hb
  have pc := dnN_pos (sd := sd) hv hc
  rcases h with h | ⟨h, h'⟩ <;> rcases g with g | ⟨g, g'⟩
  · exact Or.inl (crossLt pb pc pa (by omega) (by omega) (Or.inl h))
  · exact Or.inl (crossLt pb pc pa (by omega) (by omega) (Or.inl h))
  · exact Or.inl (crossLt pb pc pa (by omega) (by omega) (Or.inr g))
  · have x := cross (ua := upN G B P a) (ub := upN G B P b) (uc := upN G B P c) pb (Nat.le_of_eq h) (Nat.le_of_eq g)
    have y := cross (ua := upN G B P c) (ub := upN G B P b) (uc := upN G B P a) (da := dnN G B sd c) (db := dnN G B sd b) (dc := dnN G B sd a) pb (Nat.le_of_eq g.symm) (Nat.le_of_eq h.symm)
    exact Or.inr ⟨by omega, by omega⟩
/-- a row of n parts, each before the next ones -/
def SRT (G B P : Nat → Nat) (sd : Int32) (f : Nat → Int32) (n : Nat) : Prop := ∀ i j x y, i < j → j < n → f i = nI x → f j = nI y → x < 9 → y < 9 → bfr G B P sd x y
theorem DQ.full {f : Nat → Int32} {n p : Nat} (h : DQ f n n) (hn : n ≤ 9) (hp : p < n) : ∃ z, z < n ∧ f z = nI p := by
  by_cases c : ∃ z, z < n ∧ f z = nI p
  · exact c
  · have := h.room hn hp (fun z hz e => c ⟨z, hz, e⟩)
    omega
theorem SRT.eq {G B P : Nat → Nat} {sd : Int32} {f g : Nat → Int32} {n : Nat} (hn : n ≤ 9) (hf : DQ f n n) (hg : DQ g n n) (sf : SRT G B P sd f n) (sg : SRT G B P sd g n) : ∀ i, i < n → f i = g i := by
  intro i
  induction i using Nat.strongRecOn with
  | _ i ih =>
    intro hi
    obtain ⟨x, hx, ex⟩ := hf.1 i hi
    obtain ⟨y, hy, ey⟩ := hg.1 i hi
    by_cases e : x = y
    · rw [ex, ey, e]
    · exfalso
      obtain ⟨j, hj, ej⟩ := hf.full hn hy
      obtain ⟨k, hk, ek⟩ := hg.full hn hx
      have hij : i < j := by
        rcases Nat.lt_trichotomy i j with c | c | c
        · exact c
        · subst c
          exact absurd ((nI_eq (by omega) (by omega)).mp (ex.symm.trans ej)) e
        · have q := hg.2 j i hj hi (by rw [← ih j c hj, ej, ey])
          omega
      have hik : i < k := by
        rcases Nat.lt_trichotomy i k with c | c | c
        · exact c
        · subst c
          exact absurd ((nI_eq (by omega) (by omega)).mp (ek.symm.trans ey)) e
        · have q := hf.2 k i hk hi (by rw [ih k c hk, ek, ex])
          omega
      exact (sf i j x y hij hj ex ej (by omega) (by omega)).asym (sg i k y x hik hk ey ek (by omega) (by omega))
theorem dearN {fg fb fp : Nat → Int32} {G B P : Nat → Nat} {sd : Int32} {a b : Nat} (hv : VB fg fb fp G B P) (ha : a < 9) (hb : b < 9) : dear fg fb fp sd a b ↔ upN G B P b * dnN G B sd a < upN G B P a * dnN G B sd b := by
  obtain ⟨a1, a2, a3, a4, a5, a6, a7, a8⟩ := hv a ha
  obtain ⟨b1, b2, b3, b4, b5, b6, b7, b8⟩ := hv b hb
  have ua : upN G B P a ≤ 1000 * 18 := Nat.mul_le_mul a8 (by omega)
  have ub : upN G B P b ≤ 1000 * 18 := Nat.mul_le_mul b8 (by omega)
  have da : dnN G B sd a ≤ 9 := by unfold dnN; split <;> omega
  have db : dnN G B sd b ≤ 9 := by unfold dnN; split <;> omega
  have m1 : upN G B P a * dnN G B sd b ≤ 18000 * 9 := Nat.mul_le_mul ua db
  have m2 : upN G B P b * dnN G B sd a ≤ 18000 * 9 := Nat.mul_le_mul ub da
  have ea : (if sd = 0 then fb a else fg a) = nI (dnN G B sd a) := by unfold dnN; split <;> assumption
  have eb : (if sd = 0 then fb b else fg b) = nI (dnN G B sd b) := by unfold dnN; split <;> assumption
  unfold dear
  rw [ea, eb, a1, a2, a3, b1, b2, b3, nI_add, nI_add, pk_mul, pk_mul, pk_mul, pk_mul]
  show ¬ (nI (upN G B P a * dnN G B sd b) ≤ nI (upN G B P b * dnN G B sd a)) ↔ _
  rw [nI_leI (by omega) (by omega)]
  omega
/-- the row while part k is put in: place t is open -/
def SHR (G B P : Nat → Nat) (sd : Int32) (f : Nat → Int32) (k t : Nat) : Prop := (∀ i j x y, i < j → j ≤ k → ¬ i = t → ¬ j = t → f i = nI x → f j = nI y → x < 9 → y < 9 → bfr G B P sd x y) ∧ ∀ j x, t < j → j ≤ k → f j = nI x → x < 9 → bfr G B P sd k x
theorem SHR.of {G B P : Nat → Nat} {sd : Int32} {f : Nat → Int32} {k : Nat} (h : SRT G B P sd f k) : SHR G B P sd f k k := ⟨fun i j x y a b _ d => h i j x y a (by omega), fun j x a b => absurd a (by omega)⟩
theorem SHR.step {G B P : Nat → Nat} {sd : Int32} {f : Nat → Int32} {k t y9 : Nat} (h : SHR G B P sd f k t) (ht : ¬ t = 0) (htk : t ≤ k) (hy : y9 < 9) (e9 : f (t - 1) = nI y9) (hd : bfr G B P sd k y9) : SHR G B P sd (upd f t (f (t - 1))) k (t - 1) := by
  refine ⟨fun i j x y hij hj hi1 hj1 ei ej hx hy => ?_, fun j x hj hjk ej hx => ?_⟩
  · rw [upd_eq] at ei ej
    by_cases ci : i = t
    · rw [if_pos ci] at ei
      rw [if_neg (by omega)] at ej
      exact h.1 (t - 1) j x y (by omega) hj (by omega) (by omega) ei ej hx hy
    · rw [if_neg ci] at ei
      by_cases cj : j = t
      · rw [if_pos cj] at ej
        exact h.1 i (t - 1) x y (by omega) (by omega) ci (by omega) ei ej hx hy
      · rw [if_neg cj] at ej
        exact h.1 i j x y hij hj ci cj ei ej hx hy
  · rw [upd_eq] at ej
    by_cases cj : j = t
    · rw [if_pos cj, e9] at ej
      rw [← (nI_eq (by omega) (by omega)).mp ej]
      exact hd
    · rw [if_neg cj] at ej
      exact h.2 j x (by omega) hjk ej hx
theorem SHR.fin {fg fb fp : Nat → Int32} {G B P : Nat → Nat} {sd : Int32} {f : Nat → Int32} {k t : Nat} (hv : VB fg fb fp G B P) (hk : k < 9) (h : SHR G B P sd f k t) (htk : t ≤ k) (hx : t = 0 ∨ ∃ y9, y9 < k ∧ f (t - 1) = nI y9 ∧ ¬ dear fg fb fp sd y9 k) : SRT G B P sd (upd f t (nI k)) (k + 1) := by
  intro i j x y hij hj ei ej hx9 hy9
  rw [upd_eq] at ei ej
  by_cases ci : i = t
  · rw [if_pos ci] at ei
    rw [if_neg (by omega)] at ej
    rw [← (nI_eq (by omega) (by omega)).mp ei]
    exact h.2 j y (by omega) (by omega) ej hy9
  · rw [if_neg ci] at ei
    by_cases cj : j = t
    · rw [if_pos cj] at ej
      rw [← (nI_eq (by omega) (by omega)).mp ej]
      rcases hx with hx | ⟨y9, hy, e9, hd⟩
      · omega
      · rw [dearN hv (by omega) hk] at hd
        have hb : bfr G B P sd y9 k := by
          rcases Nat.lt_or_ge (upN G B P y9 * dnN G B sd k) (upN G B P k * dnN G B sd y9) with c | c
          · exact Or.inl c
          · exact Or.inr ⟨by omega, hy⟩
        by_cases e : i = t - 1
        · rw [e, e9] at ei
          rw [← (nI_eq (by omega) (by omega)).mp ei]
          exact hb
        · exact bfr.trans hv hx9 (by omega) hk (h.1 i (t - 1) x y9 (by omega) (by omega) ci (by omega) ei e9 hx9 (by omega)) hb
    · rw [if_neg cj] at ej
      exact h.1 i j x y hij (by omega) ci cj ei ej hx9 hy9
theorem dear_bfr {fg fb fp : Nat → Int32} {G B P : Nat → Nat} {sd : Int32} {a b : Nat} (hv : VB fg fb fp G B P) (ha : a < 9) (hb : b < 9) (h : dear fg fb fp sd a b) : bfr G B P sd b a := Or.inl ((dearN hv ha hb).mp h)
/-- the reference's comparison -/
theorem lessN {fg fb fp : Nat → Int32} {G B P : Nat → Nat} {sd : Int32} {a b : Nat} (hv : VB fg fb fp G B P) (ha : a < 9) (hb : b < 9) : ((fp b * (fg b + fb b)) * (if sd = 0 then fb a else fg a) ≤ (fp a * (fg a + fb a)) * (if sd = 0 then fb b else fg b)) ↔ ¬ (upN G B P a * dnN G B sd b < upN G B P b * dnN G B sd a) := by
  have h := dearN (sd := sd) hv hb ha
  unfold dear at h
  constructor
  · intro g q
    exact (h.mpr q) g
  · intro g
    by_cases c : (fp b * (fg b + fb b)) * (if sd = 0 then fb a else fg a) ≤ (fp a * (fg a + fb a)) * (if sd = 0 then fb b else fg b)
    · exact c
    · exact absurd (h.mp c) g
/-- what is placed comes before what is not -/
def LOW (G B P : Nat → Nat) (sd : Int32) (f : Nat → Int32) (k n : Nat) : Prop := ∀ i x p, i < k → f i = nI x → x < 9 → p < n → (∀ z, z < k → ¬ f z = nI p) → bfr G B P sd x p
theorem SRT.push {G B P : Nat → Nat} {sd : Int32} {f : Nat → Int32} {k n y : Nat} (h : SRT G B P sd f k) (hl : LOW G B P sd f k n) (hy : y < n) (hn : n ≤ 9) (hno : ∀ z, z < k → ¬ f z = nI y) : SRT G B P sd (upd f k (nI y)) (k + 1) := by
  intro i j x w hij hj ei ej hx hw
  rw [upd_eq] at ei ej
  rw [if_neg (by omega)] at ei
  by_cases cj : j = k
  · rw [if_pos cj] at ej
    rw [← (nI_eq (by omega) (by omega)).mp ej]
    exact hl i x y (by omega) ei hx hy hno
  · rw [if_neg cj] at ej
    exact h i j x w hij (by omega) ei ej hx hw
theorem LOW.push {G B P : Nat → Nat} {sd : Int32} {f : Nat → Int32} {k n y : Nat} (hl : LOW G B P sd f k n) (hy : y < n) (hn : n ≤ 9) (hm : ∀ p, p < n → (∀ z, z < k → ¬ f z = nI p) → p = y ∨ bfr G B P sd y p) : LOW G B P sd (upd f k (nI y)) (k + 1) n := by
  intro i x p hi ei hx hp hno
  have hno' : ∀ z, z < k → ¬ f z = nI p := fun z hz e => hno z (by omega) (by rw [upd_eq, if_neg (by omega)]; exact e)
  have hpy : ¬ p = y := fun e => hno k (by omega) (by rw [upd_eq, if_pos rfl, e])
  rw [upd_eq] at ei
  by_cases ci : i = k
  · rw [if_pos ci] at ei
    rw [← (nI_eq (by omega) (by omega)).mp ei]
    rcases hm p hp hno' with c | c
    · exact absurd c hpy
    · exact c
  · rw [if_neg ci] at ei
    exact hl i x p (by omega) ei hx hp hno'
/-- nx is the first of the parts below t that are not placed -/
def MNX (G B P : Nat → Nat) (sd : Int32) (f : Nat → Int32) (k t : Nat) (nx : Int32) : Prop := ∀ y, nx = nI y → y < 9 → y < t ∧ ∀ p, p < t → (∀ z, z < k → ¬ f z = nI p) → p = y ∨ bfr G B P sd y p
theorem MNX.skip {G B P : Nat → Nat} {sd nx : Int32} {f : Nat → Int32} {k t : Nat} (h : MNX G B P sd f k t nx) (hp : ∃ z, z < k ∧ f z = nI t) : MNX G B P sd f k (t + 1) nx := by
  intro y e hy
  obtain ⟨a, b⟩ := h y e hy
  refine ⟨by omega, fun p hpt hno => ?_⟩
  by_cases c : p = t
  · obtain ⟨z, hz, ez⟩ := hp
    exact absurd (by rw [c]; exact ez) (hno z hz)
  · exact b p (by omega) hno
theorem MNX.first {G B P : Nat → Nat} {sd nx : Int32} {f : Nat → Int32} {k t n : Nat} (ht : t < n) (hn : n ≤ 9) (hx : (nx = -1 ∧ ∀ p, p < t → ∃ z, z < k ∧ f z = nI p) ∨ ∃ y, y < n ∧ nx = nI y ∧ ∀ z, z < k → ¬ f z = nI y) (c : nx = -1) : MNX G B P sd f k (t + 1) (nI t) := by
  intro y e hy
  have ey : t = y := (nI_eq (by omega) (by omega)).mp e
  refine ⟨by omega, fun p hpt hno => ?_⟩
  rcases hx with ⟨_, h⟩ | ⟨y, hy, e2, _⟩
  · by_cases d : p = t
    · exact Or.inl (by omega)
    · obtain ⟨z, hz, ez⟩ := h p (by omega)
      exact absurd ez (hno z hz)
  · rw [c] at e2
    exact absurd e2.symm (nI_ne1 (by omega))
theorem MNX.take {fg fb fp : Nat → Int32} {G B P : Nat → Nat} {sd : Int32} {f : Nat → Int32} {k t n y9 : Nat} (hv : VB fg fb fp G B P) (hn : n ≤ 9) (ht : t < n) (hy : y9 < n) (h : MNX G B P sd f k t (nI y9)) (hlt : upN G B P t * dnN G B sd y9 < upN G B P y9 * dnN G B sd t) : MNX G B P sd f k (t + 1) (nI t) := by
  intro y e hy0
  have ey : t = y := (nI_eq (by omega) (by omega)).mp e
  subst ey
  obtain ⟨a, b⟩ := h y9 rfl (by omega)
  refine ⟨by omega, fun p hpt hno => ?_⟩
  by_cases d : p = t
  · exact Or.inl d
  · rcases b p (by omega) hno with c | c
    · rw [c]; exact Or.inr (Or.inl hlt)
    · exact Or.inr (bfr.trans hv (by omega) (by omega) (by omega) (Or.inl hlt) c)
theorem MNX.keep {fg fb fp : Nat → Int32} {G B P : Nat → Nat} {sd : Int32} {f : Nat → Int32} {k t n y9 : Nat} (_ : VB fg fb fp G B P) (hn : n ≤ 9) (ht : t < n) (hy : y9 < n) (h : MNX G B P sd f k t (nI y9)) (hle : ¬ (upN G B P t * dnN G B sd y9 < upN G B P y9 * dnN G B sd t)) : MNX G B P sd f k (t + 1) (nI y9) := by
  intro y e hy0
  have ey : y9 = y := (nI_eq (by omega) (by omega)).mp e
  subst ey
  obtain ⟨a, b⟩ := h y9 rfl (by omega)
  refine ⟨by omega, fun p hpt hno => ?_⟩
  by_cases d : p = t
  · subst d
    rcases Nat.lt_or_ge (upN G B P y9 * dnN G B sd p) (upN G B P p * dnN G B sd y9) with c | c
    · exact Or.inr (Or.inl c)
    · exact Or.inr (Or.inr ⟨by omega, a⟩)
  · exact b p (by omega) hno
