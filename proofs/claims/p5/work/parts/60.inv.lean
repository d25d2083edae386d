/-! the class and the reference side by side: what holds at every turn of the law's loop -/
def INV (n sa sv c0 q len gg tc ml : Nat) (ry fr : Int32) (fg fb fp qr vg vb vr vs vn vo th : Nat → Int32) : Prop :=
  (1 ≤ n ∧ n ≤ 9 ∧ sa < 2 ^ n ∧ sv < 2 ^ n ∧ c0 ≤ 40 ∧ len ≤ 19683 ∧ tc ≤ 9 ∧ ml ≤ 9 ∧ gg ≤ 9) ∧ (ry = -1 ∨ ∃ y, y < c0 ∧ ry = nI y) ∧ (DQ qr q n ∧ DQ vo q n ∧ ((∀ z, z < q → qr z = vo z) ∨ q = n)) ∧ (fr = 0 ∨ fr = nI 1 ∧ 3 ^ n ≤ len) ∧ (gg = 0 ∨ 3 ^ gg ≤ len) ∧
  (∀ z, z < 9 → fg z = vg z ∧ fb z = vb z ∧ fp z = vr z) ∧ (∀ z, z < n → vn z = nF (nI sa) (nI sv) z) ∧ (∀ z, z < 9 → th z = nI (3 ^ z)) ∧ T01 vs
section INVS
variable {n sa sv c0 q len gg tc ml : Nat} {ry fr : Int32} {fg fb fp qr vg vb vr vs vn vo th : Nat → Int32}
theorem DQ.nil (f : Nat → Int32) (n : Nat) : DQ f 0 n := ⟨fun z hz => absurd hz (by omega), fun i j hi => absurd hi (by omega)⟩
theorem INV.parts {j : Nat} {ug ub ur wg wb wr wn : Nat → Int32} (h : INV n sa sv c0 q len gg tc ml ry fr fg fb fp qr vg vb vr vs vn vo th) (h1 : 1 ≤ j ∧ j ≤ 9) (hX : ∀ z, z < 9 → ug z = nI 1 ∧ ub z = nI 1 ∧ ur z = nI 1) (hM : ∀ z, z < 9 → wg z = nI 1 ∧ wb z = nI 1 ∧ wr z = nI 1 ∧ wn z = -1) : INV j 0 0 0 0 len gg tc 0 (-1) (nI 0) ug ub ur qr wg wb wr vs wn vo th := by
  obtain ⟨⟨a1, a2, a3, a4, a5, a6, a7, a8, a9⟩, b, d, e, f, g, k, t, w⟩ := h
  refine ⟨⟨h1.1, h1.2, Nat.two_pow_pos j, Nat.two_pow_pos j, by omega, a6, a7, by omega, a9⟩, Or.inl rfl, ⟨DQ.nil _ _, DQ.nil _ _, Or.inl (fun z hz => absurd hz (by omega))⟩, Or.inl (by decide), f, fun z hz => ?_, fun z hz => ?_, t, w⟩
  · obtain ⟨x1, x2, x3⟩ := hX z hz
    obtain ⟨y1, y2, y3, -⟩ := hM z hz
    exact ⟨x1.trans y1.symm, x2.trans y2.symm, x3.trans y3.symm⟩
  · rw [(hM z (by omega)).2.2.2]
    unfold nF
    rw [mb_sb (a := 0) (by omega) (by omega), Nat.zero_div, if_pos rfl]
theorem INV.part {j : Nat} {g0 f0 r0 : Int32} (h : INV n sa sv c0 q len gg tc ml ry fr fg fb fp qr vg vb vr vs vn vo th) : INV n sa sv c0 q len gg tc ml ry (nI 0) (upd fg j g0) (upd fb j f0) (upd fp j r0) qr (upd vg j g0) (upd vb j f0) (upd vr j r0) vs vn vo th := by
  obtain ⟨a, b, d, e, f, g, k, t, w⟩ := h
  refine ⟨a, b, d, Or.inl (by decide), f, fun z hz => ?_, k, t, w⟩
  obtain ⟨g1, g2, g3⟩ := g z hz
  by_cases ez : z = j
  · simp [upd, ez]
  · simp only [upd, ez, if_false]
    exact ⟨g1, g2, g3⟩
theorem INV.add {us : Nat → Int32} (h : INV n sa sv c0 q len gg tc ml ry fr fg fb fp qr vg vb vr vs vn vo th) (hc : c0 < 40) (hu : T01 us) : INV n sa sv (c0 + 1) q len gg tc ml ry fr fg fb fp qr vg vb vr us vn vo th := by
  obtain ⟨⟨a1, a2, a3, a4, a5, a6, a7, a8, a9⟩, b, d, e, f, g, k, t, w⟩ := h
  refine ⟨⟨a1, a2, a3, a4, by omega, a6, a7, a8, a9⟩, ?_, d, e, f, g, k, t, hu⟩
  rcases b with b | ⟨y, b1, b2⟩
  · exact Or.inl b
  · exact Or.inr ⟨y, by omega, b2⟩
theorem INV.sys {v uf : Int32} (h : INV n sa sv c0 q len gg tc ml ry fr fg fb fp qr vg vb vr vs vn vo th) (hv : 0 ≤ v.toInt ∧ v.toInt < c0) (hu : uf = nI 0 ∨ (uf = fr ∧ ry = v)) : INV n sa sv c0 q len gg tc ml v uf fg fb fp qr vg vb vr vs vn vo th := by
  obtain ⟨a, b, d, e, f, g, k, t, w⟩ := h
  refine ⟨a, ?_, d, ?_, f, g, k, t, w⟩
  · obtain ⟨j, hj, rfl⟩ := m_nat hv
    exact Or.inr ⟨j, hj, rfl⟩
  · rcases hu with rfl | ⟨rfl, _⟩
    · exact Or.inl (by decide)
    · exact e
theorem INV.plan {uf : Int32} {ul : Nat} {K : Prop} (h : INV n sa sv c0 q len gg tc ml ry fr fg fb fp qr vg vb vr vs vn vo th) (hK : ¬ (fr = 0 ∧ len < 3 ^ n ∧ K)) (hF : FS fr len n K uf ul) : INV n sa sv c0 q ul gg tc ml ry uf fg fb fp qr vg vb vr vs vn vo th := by
  obtain ⟨⟨a1, a2, a3, a4, a5, a6, a7, a8, a9⟩, b, d, e, f, g, k, t, w⟩ := h
  have hul : ul = len := by
    rcases hF.2.2 with ⟨x, y, z, _⟩ | ⟨_, x⟩
    · exact absurd ⟨x, y, z⟩ hK
    · exact x
  exact ⟨⟨a1, a2, a3, a4, a5, hF.1, a7, a8, a9⟩, b, d, hF.2.1, by rw [hul]; exact f, g, k, t, w⟩
theorem INV.made {uf : Int32} {ul : Nat} {K : Prop} (h : INV n sa sv c0 q len gg tc ml ry fr fg fb fp qr vg vb vr vs vn vo th) (hK : fr = 0 ∧ len < 3 ^ n ∧ K) (hF : FS fr len n K uf ul) : INV n sa sv c0 q ul n tc ml ry uf fg fb fp qr vg vb vr vs vn vo th := by
  obtain ⟨⟨a1, a2, a3, a4, a5, a6, a7, a8, a9⟩, b, d, e, f, g, k, t, w⟩ := h
  have hul : ul = 3 ^ n := by
    rcases hF.2.2 with ⟨_, _, _, x⟩ | ⟨x, _⟩
    · exact x
    · exact absurd hK x
  exact ⟨⟨a1, a2, a3, a4, a5, hF.1, a7, a8, a2⟩, b, d, hF.2.1, Or.inr (by omega), g, k, t, w⟩
theorem INV.lt (h : INV n sa sv c0 q len gg tc ml ry fr fg fb fp qr vg vb vr vs vn vo th) (hl : len < 3 ^ n) : gg < n := by
  obtain ⟨⟨a1, a2, a3, a4, a5, a6, a7, a8, a9⟩, b, d, e, f, g, k, t, w⟩ := h
  rcases f with f | f
  · omega
  · by_cases hg : gg < n
    · exact hg
    · have := Nat.pow_le_pow_right (n := 3) (by decide) (Nat.le_of_not_lt hg)
      omega
theorem INV.trail {tc' : Nat} (h : INV n sa sv c0 q len gg tc ml ry fr fg fb fp qr vg vb vr vs vn vo th) (ht : tc' ≤ 9) : INV n sa sv c0 q len gg tc' ml ry fr fg fb fp qr vg vb vr vs vn vo th := by
  obtain ⟨⟨a1, a2, a3, a4, a5, a6, a7, a8, a9⟩, b⟩ := h
  exact ⟨⟨a1, a2, a3, a4, a5, a6, ht, a8, a9⟩, b⟩
theorem INV.looks {ml' : Nat} (h : INV n sa sv c0 q len gg tc ml ry fr fg fb fp qr vg vb vr vs vn vo th) (ht : ml' ≤ n) : INV n sa sv c0 q len gg tc ml' ry fr fg fb fp qr vg vb vr vs vn vo th := by
  obtain ⟨⟨a1, a2, a3, a4, a5, a6, a7, a8, a9⟩, b⟩ := h
  exact ⟨⟨a1, a2, a3, a4, a5, a6, a7, by omega, a9⟩, b⟩
theorem INV.ratios {uo wo : Nat → Int32} (h : INV n sa sv c0 q len gg tc ml ry fr fg fb fp qr vg vb vr vs vn vo th) (hX : DQ uo n n) (hM : DQ wo n n) : INV n sa sv c0 n len gg tc ml ry fr fg fb fp uo vg vb vr vs vn wo th := by
  obtain ⟨a, b, d, e⟩ := h
  exact ⟨a, b, ⟨hX, hM, Or.inr rfl⟩, e⟩
theorem INV.empty (h : INV n sa sv c0 q len gg tc ml ry fr fg fb fp qr vg vb vr vs vn vo th) : INV n sa sv c0 0 len gg tc ml ry fr fg fb fp qr vg vb vr vs vn vo th := by
  obtain ⟨a, b, d, e⟩ := h
  exact ⟨a, b, ⟨DQ.nil _ _, DQ.nil _ _, Or.inl (fun z hz => absurd hz (by omega))⟩, e⟩
theorem INV.ordEq {v : Int32} (h : INV n sa sv c0 q len gg tc ml ry fr fg fb fp qr vg vb vr vs vn vo th) (hv : 0 ≤ v.toInt ∧ v.toInt < n) : (∀ z, z < q → ¬ qr z = v) ↔ (∀ z, z < q → ¬ vo z = v) := by
  obtain ⟨⟨a1, a2, -⟩, b, ⟨d1, d2, d3⟩, -⟩ := h
  obtain ⟨j, hj, rfl⟩ := m_nat hv
  rcases d3 with d3 | d3
  · exact ⟨fun g z hz => by rw [← d3 z hz]; exact g z hz, fun g z hz => by rw [d3 z hz]; exact g z hz⟩
  · refine ⟨fun g => ?_, fun g => ?_⟩
    · have := d1.room a2 hj g
      omega
    · have := d2.room a2 hj g
      omega
theorem INV.order {v : Int32} (h : INV n sa sv c0 q len gg tc ml ry fr fg fb fp qr vg vb vr vs vn vo th) (hX : (0 ≤ v.toInt ∧ v.toInt < n) ∧ ∀ z, z < q → ¬ qr z = v) (hM : (0 ≤ v.toInt ∧ v.toInt < n) ∧ ∀ z, z < q → ¬ vo z = v) : INV n sa sv c0 (q + 1) len gg tc ml ry fr fg fb fp (upd qr q v) vg vb vr vs vn (upd vo q v) th := by
  obtain ⟨⟨a1, a2, ar⟩, b, ⟨d1, d2, d3⟩, e⟩ := h
  obtain ⟨j, hj, rfl⟩ := m_nat hX.1
  refine ⟨⟨a1, a2, ar⟩, b, ⟨d1.push hj hX.2, d2.push hj hM.2, Or.inl (fun z hz => ?_)⟩, e⟩
  have hlt := d1.room a2 hj hX.2
  rcases d3 with d3 | d3
  · by_cases ez : z = q
    · simp [upd, ez]
    · simp only [upd, ez, if_false]
      exact d3 z (by omega)
  · omega
theorem INV.hqr {v : Int32} (h : INV n sa sv c0 q len gg tc ml ry fr fg fb fp qr vg vb vr vs vn vo th) : (0 ≤ v.toInt ∧ v.toInt < n) → (∀ z, z < q → ¬ qr z = v) → q < 9 := fun hv g => by
  obtain ⟨⟨a1, a2, -⟩, b, ⟨d1, d2, d3⟩, -⟩ := h
  obtain ⟨j, hj, rfl⟩ := m_nat hv
  have := d1.room a2 hj g
  omega
theorem INV.hqm {v : Int32} (h : INV n sa sv c0 q len gg tc ml ry fr fg fb fp qr vg vb vr vs vn vo th) : (0 ≤ v.toInt ∧ v.toInt < n) → (∀ z, z < q → ¬ vo z = v) → q < 9 := fun hv g => by
  obtain ⟨⟨a1, a2, -⟩, b, ⟨d1, d2, d3⟩, -⟩ := h
  obtain ⟨j, hj, rfl⟩ := m_nat hv
  have := d2.room a2 hj g
  omega
/-! what was seen -/
theorem clr_bit (a j z : Nat) (hz : z < 9) (hj : j < 9) : (a &&& ((2 ^ 9 - 1) ^^^ 2 ^ j)) / 2 ^ z % 2 = if j = z then 0 else a / 2 ^ z % 2 := by
  have g : (a &&& ((2 ^ 9 - 1) ^^^ 2 ^ j)).testBit z = (a.testBit z && (decide (z < 9) ^^ decide (j = z))) := by rw [Nat.testBit_and, Nat.testBit_xor, Nat.testBit_two_pow_sub_one, Nat.testBit_two_pow]
  rw [m_tb, m_tb, decide_eq_true hz] at g
  by_cases c : j = z
  · subst c
    rw [if_pos rfl]
    simp only [decide_true, Bool.xor_self, Bool.and_false, decide_eq_false_iff_not] at g
    omega
  · rw [if_neg c]
    simp only [c, decide_false, Bool.xor_false, Bool.and_true, decide_eq_decide] at g
    omega
theorem or_bit1 (a j z : Nat) : (a ||| 2 ^ j) / 2 ^ z % 2 = if j = z then 1 else a / 2 ^ z % 2 := by
  have g : (a ||| 2 ^ j).testBit z = (a.testBit z || decide (j = z)) := by rw [Nat.testBit_or, Nat.testBit_two_pow]
  rw [m_tb, m_tb] at g
  by_cases c : j = z
  · subst c
    rw [if_pos rfl]
    simp only [decide_true, Bool.or_true, decide_eq_true_eq] at g
    exact g
  · rw [if_neg c]
    simp only [c, decide_false, Bool.or_false, decide_eq_decide] at g
    omega
def ntS (sa : Nat) (ho : Int32) (j : Nat) : Nat := if ho = -1 then sa &&& ((2 ^ 9 - 1) ^^^ 2 ^ j) else sa ||| 2 ^ j
def ntG (sv : Nat) (ho : Int32) (j : Nat) : Nat := if ho = nI 1 then sv ||| 2 ^ j else sv &&& ((2 ^ 9 - 1) ^^^ 2 ^ j)
theorem nt_sN {sa j : Nat} {ho : Int32} (ha : sa < 512) (hj : j < 9) : nt_s (nI sa) ho j = nI (ntS sa ho j) := by
  unfold nt_s ntS
  split
  · exact mb_clr ha hj
  · exact mb_or sa (2 ^ j)
theorem nt_gN {sv j : Nat} {ho : Int32} (ha : sv < 512) (hj : j < 9) : nt_g (nI sv) ho j = nI (ntG sv ho j) := by
  unfold nt_g ntG
  split
  · exact mb_or sv (2 ^ j)
  · exact mb_clr ha hj
theorem ntS_lt {sa j n : Nat} {ho : Int32} (ha : sa < 2 ^ n) (hj : j < n) : ntS sa ho j < 2 ^ n := by
  unfold ntS
  split
  · exact Nat.lt_of_le_of_lt Nat.and_le_left ha
  · exact m_or9 ha (m_p2n hj)
theorem ntG_lt {sv j n : Nat} {ho : Int32} (ha : sv < 2 ^ n) (hj : j < n) : ntG sv ho j < 2 ^ n := by
  unfold ntG
  split
  · exact m_or9 ha (m_p2n hj)
  · exact Nat.lt_of_le_of_lt Nat.and_le_left ha
theorem nt_rel {sa sv j z : Nat} {ho : Int32} (h1 : sa < 512) (h2 : sv < 512) (hj : j < 9) (hz : z < 9) (hs : ntS sa ho j < 512) (hg : ntG sv ho j < 512) (hh : ho = -1 ∨ ho = nI 0 ∨ ho = nI 1) (w : Int32) (hw : w = nF (nI sa) (nI sv) z) : (if z = j then ho else w) = nF (nI (ntS sa ho j)) (nI (ntG sv ho j)) z := by
  rw [hw]
  unfold nF
  rw [mb_sb (a := sa) (by omega) (by omega), mb_sb (a := sv) (by omega) (by omega), mb_sb (a := ntS sa ho j) (by omega) (by omega), mb_sb (a := ntG sv ho j) (by omega) (by omega)]
  rcases hh with rfl | rfl | rfl
  · have e1 : ntS sa (-1) j = sa &&& ((2 ^ 9 - 1) ^^^ 2 ^ j) := if_pos rfl
    have e2 : ntG sv (-1) j = sv &&& ((2 ^ 9 - 1) ^^^ 2 ^ j) := if_neg (by decide)
    rw [e1, e2, clr_bit sa j z hz hj, clr_bit sv j z hz hj]
    by_cases e : j = z
    · simp [e]
    · have e' : ¬ z = j := fun q => e q.symm
      simp [e, e']
  · have e1 : ntS sa (nI 0) j = sa ||| 2 ^ j := if_neg (by decide)
    have e2 : ntG sv (nI 0) j = sv &&& ((2 ^ 9 - 1) ^^^ 2 ^ j) := if_neg (by decide)
    rw [e1, e2, or_bit1 sa j z, clr_bit sv j z hz hj]
    by_cases e : j = z
    · simp [e]
    · have e' : ¬ z = j := fun q => e q.symm
      simp [e, e']
  · have e1 : ntS sa (nI 1) j = sa ||| 2 ^ j := if_neg (by decide)
    have e2 : ntG sv (nI 1) j = sv ||| 2 ^ j := if_pos rfl
    rw [e1, e2, or_bit1 sa j z, or_bit1 sv j z]
    by_cases e : j = z
    · simp [e]
    · have e' : ¬ z = j := fun q => e q.symm
      simp [e, e']
theorem m_how {x : Int32} (h : -1 ≤ x.toInt ∧ x.toInt ≤ 1) : x = -1 ∨ x = nI 0 ∨ x = nI 1 := by
  rcases (show x.toInt = -1 ∨ x.toInt = (0 : Nat) ∨ x.toInt = (1 : Nat) by omega) with e | e | e
  · exact Or.inl (by rw [i_eq, e]; decide)
  · exact Or.inr (Or.inl (m_isn e (by decide)))
  · exact Or.inr (Or.inr (m_isn e (by decide)))
theorem INV.see {j : Nat} {ho : Int32} (h : INV n sa sv c0 q len gg tc ml ry fr fg fb fp qr vg vb vr vs vn vo th) (hj : j < n) (hh : ho = -1 ∨ ho = nI 0 ∨ ho = nI 1) : INV n (ntS sa ho j) (ntG sv ho j) c0 q len gg tc ml ry fr fg fb fp qr vg vb vr vs (upd vn j ho) vo th := by
  obtain ⟨⟨a1, a2, a3, a4, a5, a6, a7, a8, a9⟩, b, d, e, f, g, k, t, w⟩ := h
  have h2n := m_pow a2
  have s1 := ntS_lt (ho := ho) a3 hj
  have s2 := ntG_lt (ho := ho) a4 hj
  refine ⟨⟨a1, a2, s1, s2, a5, a6, a7, a8, a9⟩, b, d, e, f, g, fun z hz => ?_, t, w⟩
  show (if z = j then ho else vn z) = _
  exact nt_rel (by omega) (by omega) (by omega) (by omega) (by omega) (by omega) hh (vn z) (k z hz)
theorem INV.partEq {p wh : Int32} (h : INV n sa sv c0 q len gg tc ml ry fr fg fb fp qr vg vb vr vs vn vo th) : pO fg fb fp (nF (nI sa) (nI sv)) n p wh = pO vg vb vr vn n p wh := by
  obtain ⟨⟨a1, a2, ar⟩, b, d, e, f, g, k, t⟩ := h
  unfold pO
  by_cases hp : 0 ≤ p.toInt ∧ p.toInt < n
  · have hj : p.toInt.toNat < n := by omega
    obtain ⟨g1, g2, g3⟩ := g p.toInt.toNat (by omega)
    rw [if_pos hp, if_pos hp, g1, g2, g3, ← k p.toInt.toNat hj]
  · rw [if_neg hp, if_neg hp]
end INVS
theorem T3.start {args : Array Value} {s : State} (hl : (Cond.laysStatic RX1 "THREES" "[I").before args s = true) (hini : (Cond.initialized RX1).before args s = true) (harr : (Cond.arrayOf (.static RX1 "THREES" "[I") .int).before args s = true) (hlen : (Cond.eq (.length (.static RX1 "THREES" "[I")) (.int 10)).before args s = true)
    (hel : ∀ j : Nat, j < 10 → (Term.elem (.static RX1 "THREES" "[I") (.int (Int32.ofNat j))).eval args s none [] s = some (.int (nI (3 ^ j)))) : ∃ z3 t3, T3 z3 t3 s s.heap := by
  have hA : ∀ a : Nat, a < s.heap.size → ¬ (fun q : Nat => s.heap.size ≤ q) a := fun a h => Nat.not_le.mpr h
  obtain ⟨t, ht, hT⟩ := va_Tof (N := 10) (f := fun j => .int (nI (3 ^ j))) (by decide) harr (va_eqt hlen) hel hA
  obtain ⟨cf, kf, fi, f, a, cell, x1, x2, x3, x4, x5, x6, x7, x8⟩ := va_Zref hl hini ht hA
  obtain ⟨c2, y1, y2, y3, y4, y5, y6, y7⟩ := hT
  exact ⟨a, t, ⟨cf, kf, fi, f, a, cell, x1, x2, x3, x4, x5, x6, x7, fun g => g rfl⟩, ⟨c2, y1, y2, y3, y4, y5, y6, fun g => g rfl⟩, (Array.getElem?_eq_some_iff.mp x5).1, (Array.getElem?_eq_some_iff.mp y1).1⟩
theorem INV.start {ug ub ur wg wb wr wn th : Nat → Int32} (hX : ∀ z, z < 9 → ug z = nI 1 ∧ ub z = nI 1 ∧ ur z = nI 1) (hM : (∀ z, z < 9 → wg z = nI 1 ∧ wb z = nI 1 ∧ wr z = nI 1 ∧ wn z = -1) ∧ (∀ z, z < 9 → th z = nI (3 ^ z))) : INV 1 0 0 0 0 0 0 0 0 (-1) (nI 0) ug ub ur (fun _ => 0) wg wb wr (fun _ => 0) wn (fun _ => 0) th := by
  refine ⟨⟨by omega, by omega, by decide, by decide, by omega, by omega, by omega, by omega, by omega⟩, Or.inl rfl, ⟨DQ.nil _ _, DQ.nil _ _, Or.inl (fun z hz => absurd hz (by omega))⟩, Or.inl (by decide), Or.inl rfl, fun z hz => ?_, fun z hz => ?_, hM.2, fun z => Or.inl nI_0.symm⟩
  · obtain ⟨x1, x2, x3⟩ := hX z hz
    obtain ⟨y1, y2, y3, -⟩ := hM.1 z hz
    exact ⟨x1.trans y1.symm, x2.trans y2.symm, x3.trans y3.symm⟩
  · rw [(hM.1 z (by omega)).2.2.2]
    unfold nF
    rw [mb_sb (a := 0) (by omega) (by omega), Nat.zero_div, if_pos rfl]
