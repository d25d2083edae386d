/-! the reference's tables -/
theorem upd_same {f : Nat → Int32} {k : Nat} {x : Int32} : upd f k x k = x := if_pos rfl
theorem updL_same {f : Nat → Int64} {k : Nat} {x : Int64} : vp_updL f k x k = x := if_pos rfl
/-- nx is the first of the least among the first k, v what it has -/
def AM (T : Nat → Prop) (f : Nat → Int) (k : Nat) (nx : Int32) (v : Int) : Prop := (nx = -1 ∧ ∀ z, z < k → ¬ T z) ∨ (∃ x, x < k ∧ nx = nI x ∧ T x ∧ v = f x ∧ (∀ z, z < k → T z → v ≤ f z) ∧ (∀ z, z < x → T z → ¬ f z = v))
section AMS
variable {T : Nat → Prop} {f : Nat → Int} {k : Nat} {nx : Int32} {v : Int}
theorem AM.nil : AM T f 0 (-1) v := Or.inl ⟨rfl, fun z hz => absurd hz (by omega)⟩
theorem AM.skip (h : AM T f k nx v) (hT : ¬ T k) : AM T f (k + 1) nx v := by
  rcases h with ⟨a, b⟩ | ⟨x, a, b, c, d, e, g⟩
  · refine Or.inl ⟨a, fun z hz => ?_⟩
    by_cases q : z = k
    · rw [q]; exact hT
    · exact b z (by omega)
  · refine Or.inr ⟨x, by omega, b, c, d, fun z hz hz2 => ?_, g⟩
    by_cases q : z = k
    · rw [q] at hz2; exact absurd hz2 hT
    · exact e z (by omega) hz2
theorem AM.first (h : AM T f k nx v) (hT : T k) (hk : k < 2 ^ 31) (c : nx = -1) : AM T f (k + 1) (nI k) (f k) := by
  rcases h with ⟨a, b⟩ | ⟨x, a, b, -⟩
  · refine Or.inr ⟨k, by omega, rfl, hT, rfl, fun z hz hz2 => ?_, fun z hz hz2 => absurd hz2 (b z hz)⟩
    by_cases q : z = k
    · rw [q]; exact Int.le_refl _
    · exact absurd hz2 (b z (by omega))
  · rw [b] at c
    exact absurd c (nI_ne1 (by omega))
theorem AM.take (h : AM T f k nx v) (hT : T k) (c : ¬ nx = -1) (d : ¬ v ≤ f k) : AM T f (k + 1) (nI k) (f k) := by
  rcases h with ⟨a, b⟩ | ⟨x, a, b, c2, d2, e, g⟩
  · exact absurd a c
  · refine Or.inr ⟨k, by omega, rfl, hT, rfl, fun z hz hz2 => ?_, fun z hz hz2 => ?_⟩
    · by_cases q : z = k
      · rw [q]; exact Int.le_refl _
      · have := e z (by omega) hz2
        omega
    · have := e z hz hz2
      omega
theorem AM.leave (h : AM T f k nx v) (c : ¬ nx = -1) (d : v ≤ f k) : AM T f (k + 1) nx v := by
  rcases h with ⟨a, b⟩ | ⟨x, a, b, c2, d2, e, g⟩
  · exact absurd a c
  · refine Or.inr ⟨x, by omega, b, c2, d2, fun z hz hz2 => ?_, g⟩
    by_cases q : z = k
    · rw [q]; exact d
    · exact e z (by omega) hz2
theorem AM.fin (h : AM T f k nx v) (he : ∃ z, z < k ∧ T z) : MinI (fun z => z < k ∧ T z) f v ∧ ∃ x, nx = nI x ∧ FRS k T (fun z => f z = v) x := by
  obtain ⟨z0, h0, h1⟩ := he
  rcases h with ⟨a, b⟩ | ⟨x, a, b, c, d, e, g⟩
  · exact absurd h1 (b z0 h0)
  · exact ⟨⟨fun z hz => e z hz.1 hz.2, x, ⟨a, c⟩, d⟩, x, b, a, c, d.symm, g⟩
end AMS
theorem FRS.cong {n x : Nat} {T P P' : Nat → Prop} (h : FRS n T P x) (g : ∀ z, z < n → T z → (P z ↔ P' z)) : FRS n T P' x := by
  obtain ⟨a, b, c, d⟩ := h
  exact ⟨a, b, (g x a b).mp c, fun z hz hz2 q => d z hz hz2 ((g z (by omega) hz2).mpr q)⟩
/-- the next parts of a row -/
def NR (S : Nat → Prop) (n : Nat) (W : Nat → Int64) (fp : Nat → Int32) (e : Nat → Int64) (u nb nw : Nat → Int32) (c : Nat) : Prop :=
  (¬ US S n 1 2 c → nb c = -1 ∧ nw c = -1) ∧ (US S n 1 2 c → (∃ x, nb c = nI x ∧ FRS n (fun z => c / 3 ^ z % 3 = 0) (fun z => (mE fp e (W c) c z).toInt = (e c).toInt) x) ∧ (∃ x, nw c = nI x ∧ FRS n (fun z => c / 3 ^ z % 3 = 0) (fun z => (mW fp u c z).toInt = (u c).toInt) x))
def RM (S : Nat → Prop) (n : Nat) (W : Nat → Int64) (fp : Nat → Int32) (e : Nat → Int64) (nb u nw : Nat → Int32) (c : Nat) : Prop := BR S n 1 2 W fp e u c ∧ NR S n W fp e u nb nw c
section RMS
variable {S : Nat → Prop} {n c k : Nat} {W : Nat → Int64} {fp : Nat → Int32} {e e' : Nat → Int64} {u u' nb nb' nw nw' : Nat → Int32}
theorem RM.sure (h : ¬ US S n 1 2 c) (he : e c = lN 0) (h1 : nb c = -1) (hu : u c = nI 0) (h2 : nw c = -1) : RM S n W fp e nb u nw c := ⟨⟨fun _ => ⟨he, hu⟩, fun g => absurd g h⟩, fun _ => ⟨h1, h2⟩, fun g => absurd g h⟩
theorem RM.uns (hu : US S n 1 2 c) (hex : ∃ z, z < n ∧ c / 3 ^ z % 3 = 0) (hs : ∀ z, ¬ z = c → e' z = e z ∧ u' z = u z) (hb : AM (fun z => c / 3 ^ z % 3 = 0) (fun z => (mE fp e (W c) c z).toInt) n (nb c) (e' c).toInt) (hw : AM (fun z => c / 3 ^ z % 3 = 0) (fun z => (mW fp u c z).toInt) n (nw c) (u' c).toInt) : RM S n W fp e' nb u' nw c := by
  obtain ⟨m1, x1, y1, z1⟩ := hb.fin hex
  obtain ⟨m2, x2, y2, z2⟩ := hw.fin hex
  have q1 : ∀ z, (mE fp e (W c) c z).toInt = (mE fp e' (W c) c z).toInt := fun z => by
    have p := m_p3p z
    unfold mE
    rw [(hs (c + 3 ^ z) (by omega)).1, (hs (c + 3 ^ z + 3 ^ z) (by omega)).1]
  have q2 : ∀ z, (mW fp u c z).toInt = (mW fp u' c z).toInt := fun z => by
    have p := m_p3p z
    unfold mW
    rw [(hs (c + 3 ^ z) (by omega)).2, (hs (c + 3 ^ z + 3 ^ z) (by omega)).2]
  refine ⟨⟨fun g => absurd hu g, fun _ => ⟨m1.cong (fun z _ => q1 z), m2.cong (fun z _ => q2 z)⟩⟩, fun g => absurd hu g, fun _ => ⟨⟨x1, y1, z1.cong (fun z _ _ => ?_)⟩, ⟨x2, y2, z2.cong (fun z _ _ => ?_)⟩⟩⟩
  · show (mE fp e (W c) c z).toInt = _ ↔ (mE fp e' (W c) c z).toInt = _
    rw [q1 z]
  · show (mW fp u c z).toInt = _ ↔ (mW fp u' c z).toInt = _
    rw [q2 z]
theorem seen1 {x : Nat} (hd : c / 3 ^ x % 3 = 0) (hx : x < n) : seenN (c + 3 ^ x) n = seenN c n + 1 ∧ seenN (c + 3 ^ x + 3 ^ x) n = seenN c n + 1 := by
  have a := seenN_up (d := 1) hd (by omega) (by omega) n
  have b := seenN_up (d := 2) hd (by omega) (by omega) n
  rw [if_pos hx, Nat.mul_one] at a
  rw [if_pos hx, show c + 3 ^ x * 2 = c + 3 ^ x + 3 ^ x by omega] at b
  exact ⟨a, b⟩
theorem RM.keep (h : RM S n W fp e nb u nw c) (hk : ∀ t, ¬ t = k → e' t = e t ∧ nb' t = nb t ∧ u' t = u t ∧ nw' t = nw t) (hc : ¬ c = k) (hs : seenN k n ≤ seenN c n) : RM S n W fp e' nb' u' nw' c := by
  obtain ⟨k1, k2, k3, k4⟩ := hk c hc
  have su : ∀ z, z < n → c / 3 ^ z % 3 = 0 → (e' (c + 3 ^ z) = e (c + 3 ^ z) ∧ u' (c + 3 ^ z) = u (c + 3 ^ z)) ∧ (e' (c + 3 ^ z + 3 ^ z) = e (c + 3 ^ z + 3 ^ z) ∧ u' (c + 3 ^ z + 3 ^ z) = u (c + 3 ^ z + 3 ^ z)) := fun z hz hd => by
    obtain ⟨a, b⟩ := seen1 (n := n) hd hz
    obtain ⟨p1, -, p3, -⟩ := hk (c + 3 ^ z) (fun q => by rw [q] at a; omega)
    obtain ⟨q1, -, q3, -⟩ := hk (c + 3 ^ z + 3 ^ z) (fun q => by rw [q] at b; omega)
    exact ⟨⟨p1, p3⟩, q1, q3⟩
  refine ⟨h.1.keep ⟨k1, k3⟩ su, fun g => ⟨k2.trans (h.2.1 g).1, k4.trans (h.2.1 g).2⟩, fun g => ?_⟩
  obtain ⟨⟨x, a, b⟩, y, a2, b2⟩ := h.2.2 g
  refine ⟨⟨x, k2.trans a, b.cong (fun z hz hd => ?_)⟩, y, k4.trans a2, b2.cong (fun z hz hd => ?_)⟩
  · obtain ⟨⟨p1, p2⟩, q1, q2⟩ := su z hz hd
    show (mE fp e (W c) c z).toInt = (e c).toInt ↔ (mE fp e' (W c) c z).toInt = (e' c).toInt
    unfold mE
    rw [p1, q1, k1]
  · obtain ⟨⟨p1, p2⟩, q1, q2⟩ := su z hz hd
    show (mW fp u c z).toInt = (u c).toInt ↔ (mW fp u' c z).toInt = (u' c).toInt
    unfold mW
    rw [p2, q2, k3]
theorem RM.vv {fs : Nat → Int32} {y : Nat} (h : RM (Sg fs y) n W fp e nb u nw c) : VV fs y n nb nw c := fun g => by
  obtain ⟨⟨x, a, b⟩, x2, a2, b2⟩ := h.2.2 g
  exact ⟨⟨x, b.1, a, b.2.1⟩, ⟨x2, b2.1, a2, b2.2.1⟩⟩
theorem mE_of {w a b : Int64} {z : Nat} (ha : a = e (c + 3 ^ z)) (hb : b = e (c + 3 ^ z + 3 ^ z)) : w * (fp z).toInt64 + a + b = mE fp e w c z := by
  unfold mE
  rw [ha, hb, Int64.mul_comm]
theorem mW_of {a b x : Int32} {z : Nat} (ha : a = u (c + 3 ^ z)) (hb : b = u (c + 3 ^ z + 3 ^ z)) (m : mxw a b = x) : fp z + x = mW fp u c z := by
  unfold mW
  rw [← ha, ← hb, m]
end RMS
theorem uns_exM {fs : Nat → Int32} {y n c : Nat} (h : US (Sg fs y) n 1 2 c) : ∃ z, z < n ∧ c / 3 ^ z % 3 = 0 := by
  by_cases q : ∃ z, z < n ∧ c / 3 ^ z % 3 = 0
  · exact q
  · exact absurd (fun z hz d => q ⟨z, hz, d⟩) (uns_no h)
/-- a next part of the class and of the reference -/
theorem nx_eq {n : Nat} {W W' : Nat → Int64} {fp fp' : Nat → Int32} {e e' : Nat → Int64} {u u' : Nat → Int32} (hE : ∀ s c, s < 3 ^ n → c < 3 ^ n → SW n s c → e s = e' c ∧ u s = u' c) (hp : ∀ z, z < n → fp z = fp' z) (hW : ∀ s c, s < 3 ^ n → c < 3 ^ n → SW n s c → W s = W' c) {s c : Nat} (hs : s < 3 ^ n) (hc : c < 3 ^ n) (h : SW n s c) :
    (∀ x x', FRS n (fun z => s / 3 ^ z % 3 = 0) (fun z => (mE fp e (W s) s z).toInt = (e s).toInt) x → FRS n (fun z => c / 3 ^ z % 3 = 0) (fun z => (mE fp' e' (W' c) c z).toInt = (e' c).toInt) x' → x = x') ∧ (∀ x x', FRS n (fun z => s / 3 ^ z % 3 = 0) (fun z => (mW fp u s z).toInt = (u s).toInt) x → FRS n (fun z => c / 3 ^ z % 3 = 0) (fun z => (mW fp' u' c z).toInt = (u' c).toInt) x' → x = x') := by
  have up : ∀ z, z < n → s / 3 ^ z % 3 = 0 → mE fp e (W s) s z = mE fp' e' (W' c) c z ∧ mW fp u s z = mW fp' u' c z := fun z hz hd => by
    have hd2 := (h z hz).1.mp hd
    have b1 := m_up hc hz hd2
    have b2 := m_up hs hz hd
    have p3 := m_p3p z
    obtain ⟨g1, g2⟩ := h.up hd2 hz
    exact tab_up (hp z hz) (hW s c hs hc h) (hE (s + 3 ^ z) (c + 3 ^ z + 3 ^ z) (by omega) (by omega) g1) (hE (s + 3 ^ z + 3 ^ z) (c + 3 ^ z) (by omega) (by omega) g2)
  obtain ⟨e0, u0⟩ := hE s c hs hc h
  refine ⟨fun x x' a b => a.eq b (fun z hz => (h z hz).1) (fun z hz hd => ?_), fun x x' a b => a.eq b (fun z hz => (h z hz).1) (fun z hz hd => ?_)⟩
  · show (mE fp e (W s) s z).toInt = (e s).toInt ↔ (mE fp' e' (W' c) c z).toInt = (e' c).toInt
    rw [(up z hz hd).1, e0]
  · show (mW fp u s z).toInt = (u s).toInt ↔ (mW fp' u' c z).toInt = (u' c).toInt
    rw [(up z hz hd).2, u0]

theorem ZER.nil (fa : Nat) (eb : Nat → Int64) (ew : Nat → Int32) : ZER fa fa eb ew eb ew := ⟨fun z => by rw [if_neg (by omega)], fun z => by rw [if_neg (by omega)]⟩
theorem ZER.next {fa k : Nat} {eb ub : Nat → Int64} {ew uw : Nat → Int32} (h : ZER fa k eb ew ub uw) (hk : fa ≤ k) : ZER fa (k + 1) eb ew (vp_updL ub k (lN 0)) (upd uw k (nI 0)) := by
  refine ⟨fun z => ?_, fun z => ?_⟩
  · by_cases e : z = k
    · rw [e, updL_same, if_pos (by omega)]
    · have g : vp_updL ub k (lN 0) z = ub z := if_neg e
      rw [g, h.1 z]
      by_cases q : fa ≤ z ∧ z < k
      · rw [if_pos q, if_pos (by omega)]
      · rw [if_neg q, if_neg (by omega)]
  · by_cases e : z = k
    · rw [e, upd_same, if_pos (by omega)]
    · have g : upd uw k (nI 0) z = uw z := if_neg e
      rw [g, h.2 z]
      by_cases q : fa ≤ z ∧ z < k
      · rw [if_pos q, if_pos (by omega)]
      · rw [if_neg q, if_neg (by omega)]
