/-! rows of the plans' tables: what they must be, and that they are the same on both sides -/
def mxw (a b : Int32) : Int32 := if a < b then b else a
theorem mxw_r {a b : Int32} (h : a ≤ b) : mxw a b = b := by
  unfold mxw
  by_cases c : a < b
  · rw [if_pos c]
  · rw [if_neg c, i_eq]
    rw [i_le] at h
    rw [i_lt] at c
    omega
theorem mxw_l {a b : Int32} (h : ¬ a ≤ b) : mxw a b = a := if_neg (fun c => h (by rw [i_lt] at c; rw [i_le]; omega))
theorem mxw_comm (a b : Int32) : mxw a b = mxw b a := by
  by_cases h : a ≤ b
  · rw [mxw_r h]
    by_cases g : b ≤ a
    · rw [mxw_r g, i_eq]
      rw [i_le] at h g
      omega
    · rw [mxw_l g]
  · rw [mxw_l h]
    by_cases g : b ≤ a
    · rw [mxw_r g]
    · rw [i_le] at h g
      omega
theorem i64_swap (x a b : Int64) : x + a + b = x + b + a := by rw [Int64.add_assoc, Int64.add_comm a b, ← Int64.add_assoc]
theorem lN1 : lN 1 = 1 := by decide
theorem lN0 : lN 0 = 0 := by decide
/-- v is the least of M and the first k of f -/
def MK (f : Nat → Int) (M : Int) (k : Nat) (v : Int) : Prop := (∀ i, i < k → v ≤ f i) ∧ (v = M ∨ ∃ i, i < k ∧ v = f i)
theorem MK.nil (f : Nat → Int) (M : Int) : MK f M 0 M := ⟨fun i hi => absurd hi (by omega), Or.inl rfl⟩
theorem MK.leave {f : Nat → Int} {M v : Int} {k : Nat} (h : MK f M k v) (c : v ≤ f k) : MK f M (k + 1) v := by
  refine ⟨fun i hi => ?_, ?_⟩
  · by_cases e : i = k
    · rw [e]; exact c
    · exact h.1 i (by omega)
  · rcases h.2 with g | ⟨i, hi, e⟩
    · exact Or.inl g
    · exact Or.inr ⟨i, by omega, e⟩
theorem MK.take {f : Nat → Int} {M v : Int} {k : Nat} (h : MK f M k v) (c : ¬ v ≤ f k) : MK f M (k + 1) (f k) := by
  refine ⟨fun i hi => ?_, Or.inr ⟨k, by omega, rfl⟩⟩
  by_cases e : i = k
  · rw [e]; exact Int.le_refl _
  · have := h.1 i (by omega)
    omega
theorem MK.leaveE {f : Nat → Int} {M v y : Int} {k : Nat} (h : MK f M k v) (e : f k = y) (c : v ≤ y) : MK f M (k + 1) v := h.leave (by rw [e]; exact c)
theorem MK.takeE {f : Nat → Int} {M v y : Int} {k : Nat} (h : MK f M k v) (e : f k = y) (c : ¬ v ≤ y) : MK f M (k + 1) y := by
  subst e
  exact h.take c
theorem MK.fin {f : Nat → Int} {M v : Int} {k : Nat} (h : MK f M k v) (hk : 0 < k) (hM : ∀ i, i < k → f i ≤ M) : ∃ i, i < k ∧ v = f i := by
  rcases h.2 with e | e
  · refine ⟨0, hk, ?_⟩
    have a := h.1 0 hk
    have b := hM 0 hk
    omega
  · exact e
def MinI (T : Nat → Prop) (f : Nat → Int) (v : Int) : Prop := (∀ z, T z → v ≤ f z) ∧ ∃ z, T z ∧ v = f z
theorem MinI.eq {T T' : Nat → Prop} {f f' : Nat → Int} {v v' : Int} (h : MinI T f v) (h' : MinI T' f' v') (hT : ∀ z, T z ↔ T' z) (hf : ∀ z, T z → f z = f' z) : v = v' := by
  obtain ⟨a, z, hz, e⟩ := h
  obtain ⟨a', z', hz', e'⟩ := h'
  have h1 := a z' ((hT z').mpr hz')
  have h2 := a' z ((hT z).mp hz)
  have f1 := hf z hz
  have f2 := hf z' ((hT z').mpr hz')
  omega
theorem MinI.cong {T : Nat → Prop} {f f' : Nat → Int} {v : Int} (h : MinI T f v) (g : ∀ z, T z → f z = f' z) : MinI T f' v := by
  refine ⟨fun z hz => ?_, ?_⟩
  · rw [← g z hz]; exact h.1 z hz
  · obtain ⟨z, hz, e⟩ := h.2
    exact ⟨z, hz, by rw [← g z hz]; exact e⟩
theorem MK.min {F : Nat → Int} {M v : Int} {k : Nat} {g : Nat → Nat} {T : Nat → Prop} (h : MK (fun i => F (g i)) M k v) (hk : 0 < k) (hM : ∀ z, F z ≤ M) (hT : ∀ z, T z ↔ ∃ i, i < k ∧ g i = z) : MinI T F v := by
  refine ⟨fun z hz => ?_, ?_⟩
  · obtain ⟨i, hi, e⟩ := (hT z).mp hz
    have q : v ≤ F (g i) := h.1 i hi
    rw [e] at q
    exact q
  · obtain ⟨i, hi, e⟩ := h.fin hk (fun i _ => hM (g i))
    exact ⟨g i, (hT _).mpr ⟨i, hi, rfl⟩, e⟩
/-- the first part that is T and P -/
def FRS (n : Nat) (T P : Nat → Prop) (x : Nat) : Prop := x < n ∧ T x ∧ P x ∧ ∀ z, z < x → T z → ¬ P z
theorem FRS.eq {n x x' : Nat} {T P T' P' : Nat → Prop} (h : FRS n T P x) (h' : FRS n T' P' x') (hT : ∀ z, z < n → (T z ↔ T' z)) (hP : ∀ z, z < n → T z → (P z ↔ P' z)) : x = x' := by
  obtain ⟨a, b, c, d⟩ := h
  obtain ⟨a', b', c', d'⟩ := h'
  rcases Nat.lt_trichotomy x x' with g | g | g
  · exact absurd ((hP x a b).mp c) (d' x g ((hT x a).mp b))
  · exact g
  · exact absurd ((hP x' a' ((hT x' a').mpr b')).mpr c') (d x' g ((hT x' a').mpr b'))
/-- unsure: hg is the digit of a good part, hb of a bad one -/
def US (S : Nat → Prop) (n hg hb c : Nat) : Prop := ¬ S (setN c hg n) ∧ S (2 ^ n - 1 - setN c hb n)
def mE (fp : Nat → Int32) (e : Nat → Int64) (w : Int64) (c z : Nat) : Int64 := (fp z).toInt64 * w + e (c + 3 ^ z) + e (c + 3 ^ z + 3 ^ z)
def mW (fp : Nat → Int32) (u : Nat → Int32) (c z : Nat) : Int32 := fp z + mxw (u (c + 3 ^ z)) (u (c + 3 ^ z + 3 ^ z))
/-- a row of the tables: e the means, u the worst -/
def BR (S : Nat → Prop) (n hg hb : Nat) (W : Nat → Int64) (fp : Nat → Int32) (e : Nat → Int64) (u : Nat → Int32) (c : Nat) : Prop :=
  (¬ US S n hg hb c → e c = lN 0 ∧ u c = nI 0) ∧ (US S n hg hb c → MinI (fun z => z < n ∧ c / 3 ^ z % 3 = 0) (fun z => (mE fp e (W c) c z).toInt) (e c).toInt ∧ MinI (fun z => z < n ∧ c / 3 ^ z % 3 = 0) (fun z => (mW fp u c z).toInt) (u c).toInt)
theorem BR.keep {S : Nat → Prop} {n hg hb c : Nat} {W : Nat → Int64} {fp : Nat → Int32} {e e' : Nat → Int64} {u u' : Nat → Int32} (h : BR S n hg hb W fp e u c) (h0 : e' c = e c ∧ u' c = u c)
    (hs : ∀ z, z < n → c / 3 ^ z % 3 = 0 → (e' (c + 3 ^ z) = e (c + 3 ^ z) ∧ u' (c + 3 ^ z) = u (c + 3 ^ z)) ∧ (e' (c + 3 ^ z + 3 ^ z) = e (c + 3 ^ z + 3 ^ z) ∧ u' (c + 3 ^ z + 3 ^ z) = u (c + 3 ^ z + 3 ^ z))) : BR S n hg hb W fp e' u' c := by
  refine ⟨fun g => ⟨h0.1.trans (h.1 g).1, h0.2.trans (h.1 g).2⟩, fun g => ?_⟩
  obtain ⟨a, b⟩ := h.2 g
  rw [h0.1, h0.2]
  refine ⟨a.cong (fun z hz => ?_), b.cong (fun z hz => ?_)⟩
  · obtain ⟨⟨x1, x2⟩, y1, y2⟩ := hs z hz.1 hz.2
    show (mE fp e (W c) c z).toInt = (mE fp e' (W c) c z).toInt
    unfold mE
    rw [x1, y1]
  · obtain ⟨⟨x1, x2⟩, y1, y2⟩ := hs z hz.1 hz.2
    show (mW fp u c z).toInt = (mW fp u' c z).toInt
    unfold mW
    rw [x2, y2]
theorem dig1 {c x : Nat} (hc : c / 3 ^ x % 3 = 0) (z : Nat) : (c + 3 ^ x) / 3 ^ z % 3 = if z = x then 1 else c / 3 ^ z % 3 := by
  have g := dig_up (d := 1) hc (by omega) z
  rw [Nat.mul_one] at g
  exact g
theorem dig2 {c x : Nat} (hc : c / 3 ^ x % 3 = 0) (z : Nat) : (c + 3 ^ x + 3 ^ x) / 3 ^ z % 3 = if z = x then 2 else c / 3 ^ z % 3 := by
  have g := dig_up (d := 2) hc (by omega) z
  rw [show c + 3 ^ x * 2 = c + 3 ^ x + 3 ^ x by omega] at g
  exact g
theorem setN_cong {c c' h h' : Nat} : ∀ k, (∀ z, z < k → (c / 3 ^ z % 3 = h ↔ c' / 3 ^ z % 3 = h')) → setN c h k = setN c' h' k
  | 0, _ => rfl
  | k + 1, g => by
    have e := setN_cong k (fun z hz => g z (by omega))
    show setN c h k + (if c / 3 ^ k % 3 = h then 2 ^ k else 0) = setN c' h' k + (if c' / 3 ^ k % 3 = h' then 2 ^ k else 0)
    rw [e]
    by_cases d : c / 3 ^ k % 3 = h
    · rw [if_pos d, if_pos ((g k (by omega)).mp d)]
    · rw [if_neg d, if_neg (fun q => d ((g k (by omega)).mpr q))]
/-- the same state, in the class's digits and in the reference's -/
def SW (n sx cv : Nat) : Prop := ∀ z, z < n → (sx / 3 ^ z % 3 = 0 ↔ cv / 3 ^ z % 3 = 0) ∧ (sx / 3 ^ z % 3 = 2 ↔ cv / 3 ^ z % 3 = 1)
theorem SW.dig {n sx cv z : Nat} (h : SW n sx cv) (hz : z < n) : sx / 3 ^ z % 3 = 1 ↔ cv / 3 ^ z % 3 = 2 := by
  have a := h z hz
  have l1 : sx / 3 ^ z % 3 < 3 := Nat.mod_lt _ (by decide)
  have l2 : cv / 3 ^ z % 3 < 3 := Nat.mod_lt _ (by decide)
  generalize sx / 3 ^ z % 3 = p at a l1 ⊢
  generalize cv / 3 ^ z % 3 = q at a l2 ⊢
  omega
theorem SW.n1 {n sx cv : Nat} (h : SW n sx cv) : setN sx 2 n = setN cv 1 n := setN_cong n (fun z hz => (h z hz).2)
theorem SW.n2 {n sx cv : Nat} (h : SW n sx cv) : setN sx 1 n = setN cv 2 n := setN_cong n (fun _ hz => h.dig hz)
theorem SW.up {n sx cv x : Nat} (h : SW n sx cv) (hd : cv / 3 ^ x % 3 = 0) (hx : x < n) : SW n (sx + 3 ^ x) (cv + 3 ^ x + 3 ^ x) ∧ SW n (sx + 3 ^ x + 3 ^ x) (cv + 3 ^ x) := by
  have hs : sx / 3 ^ x % 3 = 0 := (h x hx).1.mpr hd
  refine ⟨fun z hz => ?_, fun z hz => ?_⟩
  · rw [dig1 hs z, dig2 hd z]
    by_cases e : z = x
    · rw [if_pos e, if_pos e]; decide
    · rw [if_neg e, if_neg e]; exact h z hz
  · rw [dig2 hs z, dig1 hd z]
    by_cases e : z = x
    · rw [if_pos e, if_pos e]; decide
    · rw [if_neg e, if_neg e]; exact h z hz
theorem tab_up {fp fp' : Nat → Int32} {e e' : Nat → Int64} {u u' : Nat → Int32} {w w' : Int64} {s c z : Nat} (hp : fp z = fp' z) (hW : w = w') (x : e (s + 3 ^ z) = e' (c + 3 ^ z + 3 ^ z) ∧ u (s + 3 ^ z) = u' (c + 3 ^ z + 3 ^ z)) (y : e (s + 3 ^ z + 3 ^ z) = e' (c + 3 ^ z) ∧ u (s + 3 ^ z + 3 ^ z) = u' (c + 3 ^ z)) :
    mE fp e w s z = mE fp' e' w' c z ∧ mW fp u s z = mW fp' u' c z := by
  unfold mE mW
  rw [hp, hW, x.1, x.2, y.1, y.2, mxw_comm]
  exact ⟨i64_swap _ _ _, rfl⟩
theorem tab_eq {S S' : Nat → Prop} {n : Nat} {W W' : Nat → Int64} {fp fp' : Nat → Int32} {e e' : Nat → Int64} {u u' : Nat → Int32} (hS : ∀ t, t < 2 ^ n → (S t ↔ S' t)) (hp : ∀ z, z < n → fp z = fp' z) (hW : ∀ s c, s < 3 ^ n → c < 3 ^ n → SW n s c → W s = W' c)
    (hX : ∀ s, s < 3 ^ n → BR S n 2 1 W fp e u s) (hM : ∀ c, c < 3 ^ n → BR S' n 1 2 W' fp' e' u' c) : ∀ (k s c : Nat), 3 ^ n ≤ c + k → s < 3 ^ n → c < 3 ^ n → SW n s c → e s = e' c ∧ u s = u' c
  | 0, s, c, hk, hs, hc, h => absurd hk (by omega)
  | k + 1, s, c, hk, hs, hc, h => by
    have ih := tab_eq hS hp hW hX hM k
    have l1 := setN_lt c 1 n
    have h2p := m_powp n
    have us : US S n 2 1 s ↔ US S' n 1 2 c := by
      unfold US
      rw [h.n1, h.n2, hS _ l1, hS _ (by omega)]
    have T : ∀ z, (z < n ∧ s / 3 ^ z % 3 = 0) ↔ (z < n ∧ c / 3 ^ z % 3 = 0) := fun z => ⟨fun q => ⟨q.1, (h z q.1).1.mp q.2⟩, fun q => ⟨q.1, (h z q.1).1.mpr q.2⟩⟩
    have up : ∀ z, (z < n ∧ s / 3 ^ z % 3 = 0) → mE fp e (W s) s z = mE fp' e' (W' c) c z ∧ mW fp u s z = mW fp' u' c z := by
      intro z hz
      have hd := ((T z).mp hz).2
      have b1 := m_up hc hz.1 hd
      have b2 := m_up hs hz.1 hz.2
      have p3 := m_p3p z
      obtain ⟨g1, g2⟩ := h.up hd hz.1
      exact tab_up (hp z hz.1) (hW s c hs hc h) (ih (s + 3 ^ z) (c + 3 ^ z + 3 ^ z) (by omega) (by omega) (by omega) g1) (ih (s + 3 ^ z + 3 ^ z) (c + 3 ^ z) (by omega) (by omega) (by omega) g2)
    by_cases g : US S n 2 1 s
    · obtain ⟨a, b⟩ := (hX s hs).2 g
      obtain ⟨a', b'⟩ := (hM c hc).2 (us.mp g)
      exact ⟨j_eq.mpr (a.eq a' T (fun z hz => congrArg Int64.toInt (up z hz).1)), i_eq.mpr (b.eq b' T (fun z hz => congrArg Int32.toInt (up z hz).2))⟩
    · obtain ⟨a, b⟩ := (hX s hs).1 g
      obtain ⟨a', b'⟩ := (hM c hc).1 (fun q => g (us.mpr q))
      exact ⟨a.trans a'.symm, b.trans b'.symm⟩
/-- the weight that is left in a state -/
def wd (fg fb : Nat → Int32) (hg c : Nat) : Nat → Int64
  | 0 => lN 1
  | k + 1 => wd fg fb hg c k * (if c / 3 ^ k % 3 = 0 then (fg k + fb k).toInt64 else if c / 3 ^ k % 3 = hg then (fg k).toInt64 else (fb k).toInt64)
theorem wd_sw {n s c : Nat} {fg fb vg vb : Nat → Int32} (h : SW n s c) (hg : ∀ z, z < n → fg z = vg z ∧ fb z = vb z) : ∀ k, k ≤ n → wd fg fb 2 s k = wd vg vb 1 c k
  | 0, _ => rfl
  | k + 1, hk => by
    have e := wd_sw h hg k (by omega)
    obtain ⟨g1, g2⟩ := hg k (by omega)
    obtain ⟨d0, d1⟩ := h k (by omega)
    show wd fg fb 2 s k * _ = wd vg vb 1 c k * _
    rw [e, g1, g2]
    congr 1
    by_cases a : c / 3 ^ k % 3 = 0
    · rw [if_pos a, if_pos (d0.mpr a)]
    · rw [if_neg a, if_neg (fun q => a (d0.mp q))]
      by_cases b : c / 3 ^ k % 3 = 1
      · rw [if_pos b, if_pos (d1.mpr b)]
      · rw [if_neg b, if_neg (fun q => b (d1.mp q))]
theorem mlf_wd {vg vb th : Nat → Int32} {c : Nat} (hth : ∀ z, z < 9 → th z = nI (3 ^ z)) (hc : c < 19683) : ∀ k, k ≤ 9 → mlf vg vb th (nI c) k = wd vg vb 1 c k
  | 0, _ => rfl
  | k + 1, hk => by
    have e := mlf_wd (vg := vg) (vb := vb) hth hc k (by omega)
    show mlf vg vb th (nI c) k * _ = wd vg vb 1 c k * _
    rw [e, dgtN hth (by omega) hc]
    congr 1
    have l : c / 3 ^ k % 3 < 3 := Nat.mod_lt _ (by decide)
    generalize c / 3 ^ k % 3 = d at l ⊢
    rcases (show d = 0 ∨ d = 1 ∨ d = 2 by omega) with rfl | rfl | rfl
    · rw [if_neg (by decide), if_neg (by decide), if_pos rfl]
    · rw [if_pos rfl, if_neg (by decide), if_pos rfl]
    · rw [if_neg (by decide), if_pos rfl, if_neg (by decide), if_neg (by decide)]
theorem stN_step (lk gd k : Nat) : stN lk gd (k + 1) = stN lk gd k + 3 ^ k * (if lk / 2 ^ k % 2 = 1 then (if gd / 2 ^ k % 2 = 1 then 2 else 1) else 0) := by
  show stN lk gd k + (if lk / 2 ^ k % 2 = 1 then (if gd / 2 ^ k % 2 = 1 then 2 * 3 ^ k else 3 ^ k) else 0) = _
  congr 1
  by_cases a : lk / 2 ^ k % 2 = 1
  · rw [if_pos a, if_pos a]
    by_cases b : gd / 2 ^ k % 2 = 1
    · rw [if_pos b, if_pos b]; exact Nat.mul_comm _ _
    · rw [if_neg b, if_neg b]; exact (Nat.mul_one _).symm
  · rw [if_neg a, if_neg a]; exact (Nat.mul_zero _).symm
theorem stN_dig {lk gd : Nat} : ∀ (n j : Nat), j < n → stN lk gd n / 3 ^ j % 3 = (if lk / 2 ^ j % 2 = 1 then (if gd / 2 ^ j % 2 = 1 then 2 else 1) else 0)
  | 0, j, h => absurd h (by omega)
  | k + 1, j, h => by
    rw [stN_step]
    rcases Nat.lt_or_ge j k with g | g
    · rw [dig_low g]; exact stN_dig k j g
    · have e : j = k := by omega
      subst e
      rw [Nat.add_mul_div_left _ _ (m_p3p j), Nat.div_eq_of_lt (stN_lt lk gd j), Nat.zero_add]
      apply Nat.mod_eq_of_lt
      split <;> (try split) <;> omega
theorem lf_wd {fg fb : Nat → Int32} {lk gd n : Nat} (hl : lk < 512) (hg : gd < 512) : ∀ k, k ≤ n → k ≤ 9 → lf fg fb (nI lk) (nI gd) k = wd fg fb 2 (stN lk gd n) k
  | 0, _, _ => rfl
  | k + 1, hk, h9 => by
    have e := lf_wd (fg := fg) (fb := fb) (n := n) hl hg k (by omega) (by omega)
    show lf fg fb (nI lk) (nI gd) k * _ = wd fg fb 2 (stN lk gd n) k * _
    rw [e, stN_dig n k (by omega), mb_sb (a := lk) (by omega) (by omega), mb_sb (a := gd) (by omega) (by omega)]
    congr 1
    have l1 : lk / 2 ^ k % 2 < 2 := Nat.mod_lt _ (by decide)
    by_cases a : lk / 2 ^ k % 2 = 1
    · rw [if_neg (by omega), if_pos a]
      by_cases b : gd / 2 ^ k % 2 = 1
      · rw [if_pos b, if_pos b, if_neg (by decide), if_pos rfl]
      · rw [if_neg b, if_neg b, if_neg (by decide), if_neg (by decide)]
    · rw [if_pos (by omega), if_neg a, if_pos rfl]
/-- what was seen is the same state on both sides -/
theorem now_sw {n sa sv : Nat} {vn : Nat → Int32} (hn : n ≤ 9) (ha : sa < 2 ^ n) (hv : sv < 2 ^ n) (h : ∀ z, z < n → vn z = nF (nI sa) (nI sv) z) : SW n (stN sa sv n) (nowN vn n) := fun z hz => by
  rw [stN_dig n z hz, now_key hn ha hv h z hz]
  have l1 : sa / 2 ^ z % 2 < 2 := Nat.mod_lt _ (by decide)
  by_cases a : sa / 2 ^ z % 2 = 1
  · rw [if_pos a, if_neg (show ¬ sa / 2 ^ z % 2 = 0 by omega)]
    by_cases b : sv / 2 ^ z % 2 = 1
    · rw [if_pos b, if_pos b]; decide
    · rw [if_neg b, if_neg b]; decide
  · rw [if_neg a, if_pos (show sa / 2 ^ z % 2 = 0 by omega)]; decide
