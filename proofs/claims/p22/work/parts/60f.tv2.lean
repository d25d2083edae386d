/-! the class fills its tables from the greatest state down -/
theorem bit_lt {t n z : Nat} (ht : t < 2 ^ n) (hb : t / 2 ^ z % 2 = 1) : z < n := by
  rcases Nat.lt_or_ge z n with g | g
  · exact g
  · have hp : 2 ^ n ≤ 2 ^ z := Nat.pow_le_pow_right (by decide) g
    rw [Nat.div_eq_of_lt (by omega)] at hb
    exact absurd hb (by decide)
theorem setN_bit {c h : Nat} : ∀ (n z : Nat), z < n → (setN c h n / 2 ^ z % 2 = 1 ↔ c / 3 ^ z % 3 = h)
  | 0, z, hz => absurd hz (by omega)
  | k + 1, z, hz => by
    show (setN c h k + (if c / 3 ^ k % 3 = h then 2 ^ k else 0)) / 2 ^ z % 2 = 1 ↔ c / 3 ^ z % 3 = h
    rcases Nat.lt_or_ge z k with g | g
    · rw [← setN_bit k z g]
      by_cases d : c / 3 ^ k % 3 = h
      · have e : 2 ^ k = 2 ^ z * (2 * 2 ^ (k - z - 1)) := by
          rw [← Nat.pow_succ', ← Nat.pow_add]
          congr 1
          omega
        rw [if_pos d, e, Nat.add_mul_div_left _ _ (Nat.two_pow_pos z), Nat.add_mul_mod_self_left]
      · rw [if_neg d, Nat.add_zero]
    · have e : z = k := by omega
      subst e
      have l := setN_lt c h z
      by_cases d : c / 3 ^ z % 3 = h
      · have q : (setN c h z + 2 ^ z) / 2 ^ z = 0 + 1 := by rw [Nat.add_div_right _ (Nat.two_pow_pos z), Nat.div_eq_of_lt l]
        rw [if_pos d, q]
        exact ⟨fun _ => d, fun _ => rfl⟩
      · rw [if_neg d, Nat.add_zero, Nat.div_eq_of_lt l]
        exact ⟨fun q => absurd q (by decide), fun q => absurd q d⟩
theorem setN_zero {h : Nat} (hh : h ≠ 0) : ∀ k, setN 0 h k = 0
  | 0 => rfl
  | k + 1 => by
    show setN 0 h k + (if 0 / 3 ^ k % 3 = h then 2 ^ k else 0) = 0
    have e : (if 0 / 3 ^ k % 3 = h then 2 ^ k else 0) = 0 := if_neg (fun q => hh (by rw [Nat.zero_div] at q; exact q.symm))
    rw [e, Nat.add_zero]
    exact setN_zero hh k
theorem low0 {c : Nat} : ∀ k, (∀ z, z < k → c / 3 ^ z % 3 = 0) → c % 3 ^ k = 0
  | 0, _ => Nat.mod_one c
  | k + 1, h => by
    have e1 := low0 k (fun z hz => h z (by omega))
    have e4 : 3 ^ k * (c / 3 ^ k % 3) = 0 := by rw [h k (by omega), Nat.mul_zero]
    have e3 : c % (3 ^ k * 3) = c % 3 ^ k + 3 ^ k * (c / 3 ^ k % 3) := Nat.mod_mul
    rw [Nat.pow_succ]
    rw [e1, e4] at e3
    exact e3
theorem agr {c r k z : Nat} (h : ∀ z, z < k → c / 3 ^ z % 3 = 0) (hr : r < 3 ^ k) (hz : k ≤ z) : (c + r) / 3 ^ z = c / 3 ^ z := by
  have h0 := low0 k h
  have e : 3 ^ k * (c / 3 ^ k) = c := by
    have q := Nat.div_add_mod c (3 ^ k)
    rw [h0, Nat.add_zero] at q
    exact q
  have e2 : (c + r) / 3 ^ k = c / 3 ^ k := by
    have q : c + r = r + 3 ^ k * (c / 3 ^ k) := by rw [e]; exact Nat.add_comm c r
    rw [q, Nat.add_mul_div_left _ _ (m_p3p k), Nat.div_eq_of_lt hr, Nat.zero_add]
  have e3 : 3 ^ z = 3 ^ k * 3 ^ (z - k) := by
    rw [← Nat.pow_add]
    congr 1
    omega
  rw [e3, ← Nat.div_div_eq_div_mul, ← Nat.div_div_eq_div_mul, e2]
theorem sureG {S : Nat → Prop} {n c r k : Nat} (mon : MON S n) (hz : ∀ z, z < k → c / 3 ^ z % 3 = 0) (hr : r < 3 ^ k) (hS : S (setN c 2 n)) : ¬ US S n 2 1 (c + r) := by
  intro g
  refine g.1 (mon _ _ (setN_lt c 2 n) (setN_lt (c + r) 2 n) (fun z hb => ?_) hS)
  have hzn := bit_lt (setN_lt c 2 n) hb
  rw [setN_bit n z hzn] at hb ⊢
  rcases Nat.lt_or_ge z k with q | q
  · rw [hz z q] at hb; exact absurd hb (by decide)
  · rw [agr hz hr q]; exact hb
theorem sureB {S : Nat → Prop} {n c r k : Nat} (mon : MON S n) (hz : ∀ z, z < k → c / 3 ^ z % 3 = 0) (hr : r < 3 ^ k) (hS : ¬ S (2 ^ n - 1 - setN c 1 n)) : ¬ US S n 2 1 (c + r) := by
  intro g
  have h2p := m_powp n
  refine hS (mon _ _ (by omega) (by omega) (fun z hb => ?_) g.2)
  have hzn := bit_lt (n := n) (by omega) hb
  rw [← xor_all (setN_lt _ 1 n), xor_bit hzn] at hb ⊢
  have l : setN c 1 n / 2 ^ z % 2 < 2 := Nat.mod_lt _ (by decide)
  by_cases d : setN c 1 n / 2 ^ z % 2 = 1
  · have d2 := (setN_bit n z hzn).mp d
    rcases Nat.lt_or_ge z k with q | q
    · rw [hz z q] at d2; exact absurd d2 (by decide)
    · rw [← agr hz hr q] at d2
      have d3 := (setN_bit n z hzn).mpr d2
      omega
  · omega
theorem sure_all {S : Nat → Prop} {n : Nat} (mon : MON S n) (h : ¬ (¬ S 0 ∧ S (2 ^ n - 1))) (s : Nat) : ¬ US S n 2 1 s := by
  intro g
  have h2p := m_powp n
  by_cases a : S 0
  · exact g.1 (mon 0 _ h2p (setN_lt s 2 n) (fun z hb => by rw [Nat.zero_div] at hb; exact absurd hb (by decide)) a)
  · refine h ⟨a, mon _ _ (by omega) (by omega) (fun z hb => ?_) g.2⟩
    have hzn := bit_lt (n := n) (by omega) hb
    have q := (xor_bit (n := n) (s := 0) hzn).mpr (by rw [Nat.zero_div])
    rw [Nat.xor_zero] at q
    exact q
theorem uns_ex {S : Nat → Prop} {n c : Nat} (h : US S n 2 1 c) : ∃ z, z < n ∧ c / 3 ^ z % 3 = 0 := by
  by_cases q : ∃ z, z < n ∧ c / 3 ^ z % 3 = 0
  · exact q
  · have e := setN_full n (fun z hz d => q ⟨z, hz, d⟩)
    have h2 := h.2
    rw [show 2 ^ n - 1 - setN c 1 n = setN c 2 n by omega] at h2
    exact absurd h2 h.1
/-- all rows from the state a on stand -/
def OKT (S : Nat → Prop) (n : Nat) (fg fb fp : Nat → Int32) (e : Nat → Int64) (u : Nat → Int32) (a : Nat) : Prop := ∀ s, a ≤ s → s < 3 ^ n → BR S n 2 1 (fun t => wd fg fb 2 t n) fp e u s
theorem OKT.keep {S : Nat → Prop} {n a : Nat} {fg fb fp : Nat → Int32} {e e' : Nat → Int64} {u u' : Nat → Int32} (h : OKT S n fg fb fp e u a) (hk : ∀ z, a ≤ z → e' z = e z ∧ u' z = u z) : OKT S n fg fb fp e' u' a := fun s hs hs2 => (h s hs hs2).keep (hk s hs) (fun z _ _ => by
  have p := m_p3p z
  exact ⟨hk _ (by omega), hk _ (by omega)⟩)
/-- where fill stands: the parts from k on are told by the state sx -/
def FI (S : Nat → Prop) (n k sx lo hi op : Nat) (fg fb : Nat → Int32) (le : Int64) (gx : Nat → Nat) : Prop :=
  (k ≤ n ∧ op + k ≤ n ∧ sx + 3 ^ k ≤ 3 ^ n) ∧ (∀ z, z < k → sx / 3 ^ z % 3 = 0) ∧ (lo = setN sx 2 n ∧ hi = 2 ^ n - 1 - setN sx 1 n ∧ ¬ S lo ∧ S hi) ∧ (∀ s, (∀ z, k ≤ z → z < n → s / 3 ^ z % 3 = sx / 3 ^ z % 3) → le * wd fg fb 2 s k = wd fg fb 2 s n) ∧
  (∀ i, i < op → k ≤ gx i ∧ gx i < n ∧ sx / 3 ^ gx i % 3 = 0) ∧ (∀ x, k ≤ x → x < n → sx / 3 ^ x % 3 = 0 → ∃ i, i < op ∧ gx i = x)
section FIS
variable {S : Nat → Prop} {n k sx lo hi op len : Nat} {fg fb fp : Nat → Int32} {le : Int64} {gx : Nat → Nat}
theorem FI.bnd (h : FI S n k sx lo hi op fg fb le gx) (hn : n ≤ 9) (h3 : 3 ^ n ≤ len) : k ≤ 9 ∧ lo < 512 ∧ hi < 512 ∧ op + k ≤ 9 ∧ sx + 3 ^ k ≤ len := by
  obtain ⟨⟨a1, a2, a3⟩, b, ⟨c1, c2, -⟩, -⟩ := h
  have l := setN_lt sx 2 n
  have p := m_pow hn
  have q := m_powp n
  refine ⟨by omega, by omega, by omega, by omega, by omega⟩
theorem FI.p3 (h : FI S n (k + 1) sx lo hi op fg fb le gx) : sx + 3 * 3 ^ k ≤ 3 ^ n := by
  have a := h.1.2.2
  rw [Nat.pow_succ] at a
  omega
theorem mid2 {sx k : Nat} (h : sx / 3 ^ k % 3 = 0) (z : Nat) : (sx + 2 * 3 ^ k) / 3 ^ z % 3 = if z = k then 2 else sx / 3 ^ z % 3 := by
  have g := dig_up (d := 2) h (by omega) z
  rw [Nat.mul_comm (3 ^ k) 2] at g
  exact g
theorem FI.loG (h : FI S n (k + 1) sx lo hi op fg fb le gx) : lo ||| 2 ^ k = setN (sx + 2 * 3 ^ k) 2 n ∧ hi = 2 ^ n - 1 - setN (sx + 2 * 3 ^ k) 1 n := by
  obtain ⟨⟨a1, a2, a3⟩, b, ⟨c1, c2, -⟩, -⟩ := h
  have hk := b k (by omega)
  have l := setN_lt sx 2 n
  have lt : lo ||| 2 ^ k < 2 ^ n := m_or9 (by omega) (m_p2n (by omega))
  constructor
  · rw [setN_is (s := lo ||| 2 ^ k) n (fun z hz => ?_), Nat.mod_eq_of_lt lt]
    rw [mid2 hk z, or_bit1]
    by_cases e : z = k
    · rw [if_pos e, if_pos e.symm]; decide
    · rw [if_neg e, if_neg (fun q => e q.symm), c1, setN_bit n z hz]
  · rw [c2]
    congr 1
    refine setN_cong n (fun z hz => ?_)
    rw [mid2 hk z]
    by_cases e : z = k
    · rw [if_pos e, e, hk]; decide
    · rw [if_neg e]
theorem FI.hiB (h : FI S n (k + 1) sx lo hi op fg fb le gx) (hn : n ≤ 9) : lo = setN (sx + 3 ^ k) 2 n ∧ hi &&& ((2 ^ 9 - 1) ^^^ 2 ^ k) = 2 ^ n - 1 - setN (sx + 3 ^ k) 1 n := by
  obtain ⟨⟨a1, a2, a3⟩, b, ⟨c1, c2, -⟩, -⟩ := h
  have hk := b k (by omega)
  have l := setN_lt sx 1 n
  have h2p := m_powp n
  have lt : hi &&& ((2 ^ 9 - 1) ^^^ 2 ^ k) < 2 ^ n := Nat.lt_of_le_of_lt Nat.and_le_left (by omega)
  constructor
  · rw [c1]
    refine setN_cong n (fun z hz => ?_)
    rw [dig1 hk z]
    by_cases e : z = k
    · rw [if_pos e, e, hk]; decide
    · rw [if_neg e]
  · have q : setN (sx + 3 ^ k) 1 n = (2 ^ n - 1) ^^^ (hi &&& ((2 ^ 9 - 1) ^^^ 2 ^ k)) := by
      rw [setN_is (s := (2 ^ n - 1) ^^^ (hi &&& ((2 ^ 9 - 1) ^^^ 2 ^ k))) n (fun z hz => ?_), Nat.mod_eq_of_lt (m_x9 (by omega) lt)]
      rw [dig1 hk z, xor_bit hz, clr_bit hi k z (by omega) (by omega)]
      by_cases e : z = k
      · rw [if_pos e, if_pos e.symm]; decide
      · rw [if_neg e, if_neg (fun q => e q.symm), c2, ← xor_all l]
        have x := xor_bit (n := n) (s := setN sx 1 n) hz
        have y := setN_bit (c := sx) (h := 1) n z hz
        have l1 : ((2 ^ n - 1) ^^^ setN sx 1 n) / 2 ^ z % 2 < 2 := Nat.mod_lt _ (by decide)
        have l2 : setN sx 1 n / 2 ^ z % 2 < 2 := Nat.mod_lt _ (by decide)
        rw [← y]
        generalize ((2 ^ n - 1) ^^^ setN sx 1 n) / 2 ^ z % 2 = A at x l1 ⊢
        generalize setN sx 1 n / 2 ^ z % 2 = B at x l2 ⊢
        omega
    rw [q, xor_all lt]
    generalize hi &&& ((2 ^ 9 - 1) ^^^ 2 ^ k) = t at lt ⊢
    omega
theorem FI.good (h : FI S n (k + 1) sx lo hi op fg fb le gx) (hg : ¬ S (lo ||| 2 ^ k)) : FI S n k (sx + 2 * 3 ^ k) (lo ||| 2 ^ k) hi op fg fb (le * (fg k).toInt64) gx := by
  have p := h.p3
  have q := h.loG
  obtain ⟨⟨a1, a2, a3⟩, b, ⟨c1, c2, c3, c4⟩, d, e, f⟩ := h
  have hk := b k (by omega)
  have dg := mid2 hk
  refine ⟨⟨by omega, by omega, by omega⟩, fun z hz => ?_, ⟨q.1, q.2, hg, c4⟩, fun s hs => ?_, fun i hi => ?_, fun x h1 h2 h3 => ?_⟩
  · rw [dg z, if_neg (by omega)]; exact b z (by omega)
  · have g := d s (fun z h1 h2 => by rw [hs z (by omega) h2, dg z, if_neg (by omega)])
    have sk : s / 3 ^ k % 3 = 2 := by rw [hs k (Nat.le_refl k) (by omega), dg k, if_pos rfl]
    have w : wd fg fb 2 s (k + 1) = wd fg fb 2 s k * (fg k).toInt64 := by
      show wd fg fb 2 s k * _ = _
      rw [sk, if_neg (by decide), if_pos rfl]
    rw [w] at g
    rw [← g, Int64.mul_assoc, Int64.mul_comm (fg k).toInt64]
  · obtain ⟨x1, x2, x3⟩ := e i hi
    exact ⟨by omega, x2, by rw [dg, if_neg (by omega)]; exact x3⟩
  · rw [dg x] at h3
    by_cases g : x = k
    · rw [if_pos g] at h3; exact absurd h3 (by decide)
    · rw [if_neg g] at h3; exact f x (by omega) h2 h3
theorem FI.bad (h : FI S n (k + 1) sx lo hi op fg fb le gx) (hn : n ≤ 9) (hb : S (hi &&& ((2 ^ 9 - 1) ^^^ 2 ^ k))) : FI S n k (sx + 3 ^ k) lo (hi &&& ((2 ^ 9 - 1) ^^^ 2 ^ k)) op fg fb (le * (fb k).toInt64) gx := by
  have p := h.p3
  have q := h.hiB hn
  obtain ⟨⟨a1, a2, a3⟩, b, ⟨c1, c2, c3, c4⟩, d, e, f⟩ := h
  have hk := b k (by omega)
  have dg := dig1 hk
  refine ⟨⟨by omega, by omega, by omega⟩, fun z hz => ?_, ⟨q.1, q.2, c3, hb⟩, fun s hs => ?_, fun i hi => ?_, fun x h1 h2 h3 => ?_⟩
  · rw [dg z, if_neg (by omega)]; exact b z (by omega)
  · have g := d s (fun z h1 h2 => by rw [hs z (by omega) h2, dg z, if_neg (by omega)])
    have sk : s / 3 ^ k % 3 = 1 := by rw [hs k (Nat.le_refl k) (by omega), dg k, if_pos rfl]
    have w : wd fg fb 2 s (k + 1) = wd fg fb 2 s k * (fb k).toInt64 := by
      show wd fg fb 2 s k * _ = _
      rw [sk, if_neg (by decide), if_neg (by decide)]
    rw [w] at g
    rw [← g, Int64.mul_assoc, Int64.mul_comm (fb k).toInt64]
  · obtain ⟨x1, x2, x3⟩ := e i hi
    exact ⟨by omega, x2, by rw [dg, if_neg (by omega)]; exact x3⟩
  · rw [dg x] at h3
    by_cases g : x = k
    · rw [if_pos g] at h3; exact absurd h3 (by decide)
    · rw [if_neg g] at h3; exact f x (by omega) h2 h3
theorem FI.skip (h : FI S n (k + 1) sx lo hi op fg fb le gx) : FI S n k sx lo hi (op + 1) fg fb (le * (fg k + fb k).toInt64) (fun z => if z = op then k else gx z) := by
  have p := h.p3
  obtain ⟨⟨a1, a2, a3⟩, b, c, d, e, f⟩ := h
  have hk := b k (by omega)
  refine ⟨⟨by omega, by omega, by omega⟩, fun z hz => b z (by omega), c, fun s hs => ?_, fun i hi => ?_, fun x h1 h2 h3 => ?_⟩
  · have g := d s (fun z h1 h2 => hs z (by omega) h2)
    have sk : s / 3 ^ k % 3 = 0 := by rw [hs k (Nat.le_refl k) (by omega)]; exact hk
    have w : wd fg fb 2 s (k + 1) = wd fg fb 2 s k * (fg k + fb k).toInt64 := by
      show wd fg fb 2 s k * _ = _
      rw [sk, if_pos rfl]
    rw [w] at g
    rw [← g, Int64.mul_assoc, Int64.mul_comm (fg k + fb k).toInt64]
  · by_cases g : i = op
    · simp only [if_pos g]
      exact ⟨Nat.le_refl k, by omega, hk⟩
    · simp only [if_neg g]
      obtain ⟨x1, x2, x3⟩ := e i (by omega)
      exact ⟨by omega, x2, x3⟩
  · by_cases g : x = k
    · exact ⟨op, by omega, by simp only [if_pos]; exact g.symm⟩
    · obtain ⟨i, i1, i2⟩ := f x (by omega) h2 h3
      exact ⟨i, by omega, by simp only [if_neg (show ¬ i = op by omega)]; exact i2⟩
theorem FI.start (h0 : ¬ S 0) (h1 : S (2 ^ n - 1)) : FI S n n 0 0 (2 ^ n - 1) 0 fg fb (lN 1) gx := by
  refine ⟨⟨Nat.le_refl n, by omega, by omega⟩, fun z _ => by rw [Nat.zero_div], ⟨(setN_zero (by decide) n).symm, by rw [setN_zero (by decide) n] <;> rfl, h0, h1⟩, fun s _ => by rw [lN1]; exact Int64.one_mul _, fun i hi => absurd hi (by omega), fun x h2 h3 => absurd h3 (by omega)⟩
theorem FI.open0 {fq : Nat → Int32} (h : FI S n 0 sx lo hi op fg fb le gx) (hn : n ≤ 9) (h3 : 3 ^ n ≤ len) (hfq : ∀ z, z < op → fq z = nI (gx z)) : ∀ z, z < op → gx z < 9 ∧ fq z = nI (gx z) ∧ sx + 2 * 3 ^ gx z < len := fun z hz => by
  obtain ⟨x1, x2, x3⟩ := h.2.2.2.2.1 z hz
  have a := h.1.2.2
  rw [Nat.pow_zero] at a
  have u := m_up (n := n) (cv := sx) (by omega) x2 x3
  exact ⟨by omega, hfq z hz, by omega⟩
/-- what settle leaves -/
def STL (op sx : Nat) (gx : Nat → Nat) (fp : Nat → Int32) (le : Int64) (eb : Nat → Int64) (ew : Nat → Int32) (ub : Nat → Int64) (uw : Nat → Int32) : Prop := ∃ a b, ub = vp_updL eb sx a ∧ uw = upd ew sx b ∧ MK (fun i => (mE fp eb le sx (gx i)).toInt) 9223372036854775807 op a.toInt ∧ MK (fun i => (mW fp ew sx (gx i)).toInt) 2147483647 op b.toInt
theorem FI.settle {eb ub : Nat → Int64} {ew uw : Nat → Int32} (h : FI S n 0 sx lo hi op fg fb le gx) (hok : OKT S n fg fb fp eb ew (sx + 3 ^ 0)) (hs : STL op sx gx fp le eb ew ub uw) : OKT S n fg fb fp ub uw sx := by
  obtain ⟨a, b, rfl, rfl, ma, mb⟩ := hs
  obtain ⟨⟨a1, a2, a3⟩, -, ⟨c1, c2, c3, c4⟩, d, e, f⟩ := h
  rw [Nat.pow_zero] at hok a3
  have us : US S n 2 1 sx := ⟨by rw [← c1]; exact c3, by rw [← c2]; exact c4⟩
  have hle : le = wd fg fb 2 sx n := by
    have g := d sx (fun _ _ _ => rfl)
    rw [← g]
    show le = le * lN 1
    rw [lN1, Int64.mul_one]
  obtain ⟨z0, hz0, hd0⟩ := uns_ex us
  obtain ⟨i0, hi0, -⟩ := f z0 (by omega) hz0 hd0
  have hT : ∀ z, (z < n ∧ sx / 3 ^ z % 3 = 0) ↔ ∃ i, i < op ∧ gx i = z := fun z => ⟨fun q => f z (by omega) q.1 q.2, fun ⟨i, hi, q⟩ => by
    obtain ⟨-, x2, x3⟩ := e i hi
    rw [← q]
    exact ⟨x2, x3⟩⟩
  have hup : ∀ z, ¬ z = sx → vp_updL eb sx a z = eb z ∧ upd ew sx b z = ew z := fun z hz => ⟨if_neg hz, if_neg hz⟩
  intro s h1 h2
  by_cases q : s = sx
  · subst q
    refine ⟨fun g => absurd us g, fun _ => ?_⟩
    have m1 := MK.min (F := fun z => (mE fp eb le s z).toInt) ma (by omega) (fun z => by have := Int64.toInt_lt (mE fp eb le s z); omega) hT
    have m2 := MK.min (F := fun z => (mW fp ew s z).toInt) mb (by omega) (fun z => by have := Int32.toInt_lt (mW fp ew s z); omega) hT
    have e1 : vp_updL eb s a s = a := if_pos rfl
    have e2 : upd ew s b s = b := if_pos rfl
    rw [e1, e2]
    refine ⟨m1.cong (fun z _ => ?_), m2.cong (fun z _ => ?_)⟩
    · have p3 := m_p3p z
      show (mE fp eb le s z).toInt = (mE fp (vp_updL eb s a) (wd fg fb 2 s n) s z).toInt
      unfold mE
      rw [(hup (s + 3 ^ z) (by omega)).1, (hup (s + 3 ^ z + 3 ^ z) (by omega)).1, hle]
    · have p3 := m_p3p z
      show (mW fp ew s z).toInt = (mW fp (upd ew s b) s z).toInt
      unfold mW
      rw [(hup (s + 3 ^ z) (by omega)).2, (hup (s + 3 ^ z + 3 ^ z) (by omega)).2]
  · exact (hok s (by omega) h2).keep (hup s q) (fun z _ _ => by
      have p3 := m_p3p z
      exact ⟨hup _ (by omega), hup _ (by omega)⟩)
/-- what fillSure leaves -/
def ZER (fa tb : Nat) (eb : Nat → Int64) (ew : Nat → Int32) (ub : Nat → Int64) (uw : Nat → Int32) : Prop := (∀ z, ub z = if fa ≤ z ∧ z < tb then lN 0 else eb z) ∧ (∀ z, uw z = if fa ≤ z ∧ z < tb then nI 0 else ew z)
theorem OKT.zer {eb ub : Nat → Int64} {ew uw : Nat → Int32} {fa tb : Nat} (hok : OKT S n fg fb fp eb ew tb) (hz : ZER fa tb eb ew ub uw) (hs : ∀ s, fa ≤ s → s < tb → ¬ US S n 2 1 s) : OKT S n fg fb fp ub uw fa := by
  intro s h1 h2
  by_cases q : s < tb
  · refine ⟨fun _ => ⟨?_, ?_⟩, fun g => absurd g (hs s h1 q)⟩
    · rw [hz.1 s, if_pos ⟨h1, q⟩]
    · rw [hz.2 s, if_pos ⟨h1, q⟩]
  · have k : ∀ z, tb ≤ z → ub z = eb z ∧ uw z = ew z := fun z hz2 => ⟨by rw [hz.1 z, if_neg (by omega)], by rw [hz.2 z, if_neg (by omega)]⟩
    exact (hok.keep k) s (by omega) h2
theorem FI.fillG {eb ub : Nat → Int64} {ew uw : Nat → Int32} (h : FI S n (k + 1) sx lo hi op fg fb le gx) (mon : MON S n) (hg : S (lo ||| 2 ^ k)) (hok : OKT S n fg fb fp eb ew (sx + 3 ^ (k + 1))) (hz : ZER (sx + 2 * 3 ^ k) (sx + 3 * 3 ^ k) eb ew ub uw) : OKT S n fg fb fp ub uw (sx + 2 * 3 ^ k) := by
  have q := h.loG
  rw [Nat.pow_succ, Nat.mul_comm] at hok
  have hk := h.2.1 k (by omega)
  refine hok.zer hz (fun s h1 h2 => ?_)
  have r := sureG (c := sx + 2 * 3 ^ k) (r := s - (sx + 2 * 3 ^ k)) (k := k) mon (fun z hz => by rw [mid2 hk z, if_neg (by omega)]; exact h.2.1 z (by omega)) (by omega) (by rw [← q.1]; exact hg)
  rw [show sx + 2 * 3 ^ k + (s - (sx + 2 * 3 ^ k)) = s by omega] at r
  exact r
theorem FI.fillB {eb ub : Nat → Int64} {ew uw : Nat → Int32} (h : FI S n (k + 1) sx lo hi op fg fb le gx) (hn : n ≤ 9) (mon : MON S n) (hb : ¬ S (hi &&& ((2 ^ 9 - 1) ^^^ 2 ^ k))) (hok : OKT S n fg fb fp eb ew (sx + 2 * 3 ^ k)) (hz : ZER (sx + 3 ^ k) (sx + 2 * 3 ^ k) eb ew ub uw) : OKT S n fg fb fp ub uw (sx + 3 ^ k) := by
  have q := h.hiB hn
  have hk := h.2.1 k (by omega)
  refine hok.zer hz (fun s h1 h2 => ?_)
  have r := sureB (c := sx + 3 ^ k) (r := s - (sx + 3 ^ k)) (k := k) mon (fun z hz => by rw [dig1 hk z, if_neg (by omega)]; exact h.2.1 z (by omega)) (by omega) (by rw [← q.2]; exact hb)
  rw [show sx + 3 ^ k + (s - (sx + 3 ^ k)) = s by omega] at r
  exact r
theorem OKT.nil {eb : Nat → Int64} {ew : Nat → Int32} {a : Nat} (ha : 3 ^ n ≤ a) : OKT S n fg fb fp eb ew a := fun s h1 h2 => absurd h2 (by omega)
end FIS
