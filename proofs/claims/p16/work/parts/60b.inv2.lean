/-! with the tables of the rules, and what was seen to be good was seen -/
def SUBS (sa sv n : Nat) : Prop := ∀ z, z < n → sa / 2 ^ z % 2 = 0 → sv / 2 ^ z % 2 = 0
def INV2 (n sa sv c0 q len gg tc ml : Nat) (ry fr : Int32) (fg fb fp qr vg vb vr vs vn vo th : Nat → Int32) (fw : Nat → Int64) : Prop := INV n sa sv c0 q len gg tc ml ry fr fg fb fp qr vg vb vr vs vn vo th ∧ TB fw vs c0 n ∧ SUBS sa sv n
section INVS2
variable {n sa sv c0 q len gg tc ml : Nat} {ry fr : Int32} {fg fb fp qr vg vb vr vs vn vo th : Nat → Int32} {fw : Nat → Int64}
theorem INV2.parts {j : Nat} {ug ub ur wg wb wr wn : Nat → Int32} (h : INV2 n sa sv c0 q len gg tc ml ry fr fg fb fp qr vg vb vr vs vn vo th fw) (h1 : 1 ≤ j ∧ j ≤ 9) (hX : ∀ z, z < 9 → ug z = nI 1 ∧ ub z = nI 1 ∧ ur z = nI 1) (hM : ∀ z, z < 9 → wg z = nI 1 ∧ wb z = nI 1 ∧ wr z = nI 1 ∧ wn z = -1) : INV2 j 0 0 0 0 len gg tc 0 (-1) (nI 0) ug ub ur qr wg wb wr vs wn vo th fw := ⟨h.1.parts h1 hX hM, fun a t ha => absurd ha (by omega), fun z _ _ => by rw [Nat.zero_div]⟩
theorem INV2.part {j : Nat} {g0 f0 r0 : Int32} (h : INV2 n sa sv c0 q len gg tc ml ry fr fg fb fp qr vg vb vr vs vn vo th fw) : INV2 n sa sv c0 q len gg tc ml ry (nI 0) (upd fg j g0) (upd fb j f0) (upd fp j r0) qr (upd vg j g0) (upd vb j f0) (upd vr j r0) vs vn vo th fw := ⟨h.1.part, h.2⟩
theorem INV2.add {us : Nat → Int32} {uw : Nat → Int64} {P Q : Nat → Prop} (h : INV2 n sa sv c0 q len gg tc ml ry fr fg fb fp qr vg vb vr vs vn vo th fw) (hc : c0 < 40) (hu : T01 us) (hX : RW fw uw c0 P) (hM : RK vs us c0 (2 ^ n) Q) (hpq : ∀ t, t < 2 ^ n → (P t ↔ Q t)) : INV2 n sa sv (c0 + 1) q len gg tc ml ry fr fg fb fp qr vg vb vr us vn vo th uw := ⟨h.1.add hc hu, h.2.1.add h.1.1.2.1 hX hM hpq, h.2.2⟩
theorem INV2.sys {v uf : Int32} (h : INV2 n sa sv c0 q len gg tc ml ry fr fg fb fp qr vg vb vr vs vn vo th fw) (hv : 0 ≤ v.toInt ∧ v.toInt < c0) (hu : uf = nI 0 ∨ (uf = fr ∧ ry = v)) : INV2 n sa sv c0 q len gg tc ml v uf fg fb fp qr vg vb vr vs vn vo th fw := ⟨h.1.sys hv hu, h.2⟩
theorem INV2.plan {uf : Int32} {ul : Nat} {K : Prop} (h : INV2 n sa sv c0 q len gg tc ml ry fr fg fb fp qr vg vb vr vs vn vo th fw) (hK : ¬ (fr = 0 ∧ len < 3 ^ n ∧ K)) (hF : FS fr len n K uf ul) : INV2 n sa sv c0 q ul gg tc ml ry uf fg fb fp qr vg vb vr vs vn vo th fw := ⟨h.1.plan hK hF, h.2⟩
theorem INV2.made {uf : Int32} {ul : Nat} {K : Prop} (h : INV2 n sa sv c0 q len gg tc ml ry fr fg fb fp qr vg vb vr vs vn vo th fw) (hK : fr = 0 ∧ len < 3 ^ n ∧ K) (hF : FS fr len n K uf ul) : INV2 n sa sv c0 q ul n tc ml ry uf fg fb fp qr vg vb vr vs vn vo th fw := ⟨h.1.made hK hF, h.2⟩
theorem INV2.trail {tc' : Nat} (h : INV2 n sa sv c0 q len gg tc ml ry fr fg fb fp qr vg vb vr vs vn vo th fw) (ht : tc' ≤ 9) : INV2 n sa sv c0 q len gg tc' ml ry fr fg fb fp qr vg vb vr vs vn vo th fw := ⟨h.1.trail ht, h.2⟩
theorem INV2.looks {ml' : Nat} (h : INV2 n sa sv c0 q len gg tc ml ry fr fg fb fp qr vg vb vr vs vn vo th fw) (ht : ml' ≤ n) : INV2 n sa sv c0 q len gg tc ml' ry fr fg fb fp qr vg vb vr vs vn vo th fw := ⟨h.1.looks ht, h.2⟩
theorem INV2.ratios {uo wo : Nat → Int32} (h : INV2 n sa sv c0 q len gg tc ml ry fr fg fb fp qr vg vb vr vs vn vo th fw) (hX : DQ uo n n) (hM : DQ wo n n) : INV2 n sa sv c0 n len gg tc ml ry fr fg fb fp uo vg vb vr vs vn wo th fw := ⟨h.1.ratios hX hM, h.2⟩
theorem INV2.empty (h : INV2 n sa sv c0 q len gg tc ml ry fr fg fb fp qr vg vb vr vs vn vo th fw) : INV2 n sa sv c0 0 len gg tc ml ry fr fg fb fp qr vg vb vr vs vn vo th fw := ⟨h.1.empty, h.2⟩
theorem INV2.order {v : Int32} (h : INV2 n sa sv c0 q len gg tc ml ry fr fg fb fp qr vg vb vr vs vn vo th fw) (hX : (0 ≤ v.toInt ∧ v.toInt < n) ∧ ∀ z, z < q → ¬ qr z = v) (hM : (0 ≤ v.toInt ∧ v.toInt < n) ∧ ∀ z, z < q → ¬ vo z = v) : INV2 n sa sv c0 (q + 1) len gg tc ml ry fr fg fb fp (upd qr q v) vg vb vr vs vn (upd vo q v) th fw := ⟨h.1.order hX hM, h.2⟩
theorem SUBS.see {j : Nat} {ho : Int32} (h : SUBS sa sv n) (hj : j < n) (hn : n ≤ 9) (hh : ho = -1 ∨ ho = nI 0 ∨ ho = nI 1) : SUBS (ntS sa ho j) (ntG sv ho j) n := by
  intro z hz g
  rcases hh with rfl | rfl | rfl
  · have e1 : ntS sa (-1) j = sa &&& ((2 ^ 9 - 1) ^^^ 2 ^ j) := if_pos rfl
    have e2 : ntG sv (-1) j = sv &&& ((2 ^ 9 - 1) ^^^ 2 ^ j) := if_neg (by decide)
    rw [e1, clr_bit sa j z (by omega) (by omega)] at g
    rw [e2, clr_bit sv j z (by omega) (by omega)]
    by_cases e : j = z
    · rw [if_pos e]
    · rw [if_neg e] at g ⊢
      exact h z hz g
  · have e1 : ntS sa (nI 0) j = sa ||| 2 ^ j := if_neg (by decide)
    have e2 : ntG sv (nI 0) j = sv &&& ((2 ^ 9 - 1) ^^^ 2 ^ j) := if_neg (by decide)
    rw [e1, or_bit1 sa j z] at g
    rw [e2, clr_bit sv j z (by omega) (by omega)]
    by_cases e : j = z
    · rw [if_pos e]
    · rw [if_neg e] at g ⊢
      exact h z hz g
  · have e1 : ntS sa (nI 1) j = sa ||| 2 ^ j := if_neg (by decide)
    have e2 : ntG sv (nI 1) j = sv ||| 2 ^ j := if_pos rfl
    rw [e1, or_bit1 sa j z] at g
    rw [e2, or_bit1 sv j z]
    by_cases e : j = z
    · rw [if_pos e] at g; exact absurd g (by decide)
    · rw [if_neg e] at g ⊢
      exact h z hz g
theorem INV2.see {j : Nat} {ho : Int32} (h : INV2 n sa sv c0 q len gg tc ml ry fr fg fb fp qr vg vb vr vs vn vo th fw) (hj : j < n) (hh : ho = -1 ∨ ho = nI 0 ∨ ho = nI 1) : INV2 n (ntS sa ho j) (ntG sv ho j) c0 q len gg tc ml ry fr fg fb fp qr vg vb vr vs (upd vn j ho) vo th fw := ⟨h.1.see hj hh, h.2.1, h.2.2.see hj h.1.1.2.1 hh⟩
end INVS2
theorem INV2.start {ug ub ur wg wb wr wn th : Nat → Int32} {fw : Nat → Int64} (hX : ∀ z, z < 9 → ug z = nI 1 ∧ ub z = nI 1 ∧ ur z = nI 1) (hM : (∀ z, z < 9 → wg z = nI 1 ∧ wb z = nI 1 ∧ wr z = nI 1 ∧ wn z = -1) ∧ (∀ z, z < 9 → th z = nI (3 ^ z))) : INV2 1 0 0 0 0 0 0 0 0 (-1) (nI 0) ug ub ur (fun _ => 0) wg wb wr (fun _ => 0) wn (fun _ => 0) th fw := ⟨INV.start hX hM, fun a t ha => absurd ha (by omega), fun z _ _ => by rw [Nat.zero_div]⟩
/-! what was seen, in numbers of three and of two -/
theorem setN_is {cv h s : Nat} : ∀ k, (∀ z, z < k → (cv / 3 ^ z % 3 = h ↔ s / 2 ^ z % 2 = 1)) → setN cv h k = s % 2 ^ k
  | 0, _ => by
    show 0 = s % 1
    omega
  | k + 1, g => by
    have e := setN_is k (fun z hz => g z (by omega))
    have gk := g k (by omega)
    have b : s / 2 ^ k % 2 < 2 := Nat.mod_lt _ (by decide)
    show setN cv h k + (if cv / 3 ^ k % 3 = h then 2 ^ k else 0) = s % 2 ^ (k + 1)
    rw [Nat.mod_pow_succ, e]
    by_cases c : s / 2 ^ k % 2 = 1
    · rw [if_pos (gk.mpr c), c, Nat.mul_one]
    · rw [if_neg (fun q => c (gk.mp q)), show s / 2 ^ k % 2 = 0 by omega, Nat.mul_zero]
theorem xor_bit {n s z : Nat} (hz : z < n) : ((2 ^ n - 1) ^^^ s) / 2 ^ z % 2 = 1 ↔ s / 2 ^ z % 2 = 0 := by
  have g : ((2 ^ n - 1) ^^^ s).testBit z = !s.testBit z := by rw [Nat.testBit_xor, Nat.testBit_two_pow_sub_one, decide_eq_true hz, Bool.true_xor]
  rw [m_tb, m_tb] at g
  by_cases a : ((2 ^ n - 1) ^^^ s) / 2 ^ z % 2 = 1 <;> by_cases b : s / 2 ^ z % 2 = 1 <;> simp [a, b] at g ⊢ <;> omega
theorem or_bit2 (a b z : Nat) : (a ||| b) / 2 ^ z % 2 = 1 ↔ a / 2 ^ z % 2 = 1 ∨ b / 2 ^ z % 2 = 1 := by
  have g : (a ||| b).testBit z = (a.testBit z || b.testBit z) := Nat.testBit_or ..
  rw [m_tb, m_tb, m_tb] at g
  by_cases x : (a ||| b) / 2 ^ z % 2 = 1 <;> by_cases y : a / 2 ^ z % 2 = 1 <;> by_cases w : b / 2 ^ z % 2 = 1 <;> simp [x, y, w] at g ⊢
theorem now_sets {n sa sv : Nat} {vn : Nat → Int32} (hn : n ≤ 9) (ha : sa < 2 ^ n) (hv : sv < 2 ^ n) (hs : SUBS sa sv n) (h : ∀ z, z < n → vn z = nF (nI sa) (nI sv) z) : setN (nowN vn n) 1 n = sv ∧ 2 ^ n - 1 - setN (nowN vn n) 2 n = sv ||| ((2 ^ n - 1) ^^^ sa) := by
  have h2 := m_pow hn
  have key : ∀ z, z < n → nowN vn n / 3 ^ z % 3 = if sa / 2 ^ z % 2 = 0 then 0 else if sv / 2 ^ z % 2 = 1 then 1 else 2 := fun z hz => by
    rw [nowN_digit n z hz, h z hz]
    unfold nF
    rw [mb_sb (a := sa) (by omega) (by omega), mb_sb (a := sv) (by omega) (by omega)]
    by_cases c : sa / 2 ^ z % 2 = 0
    · rw [if_pos c, if_pos c]; decide
    · rw [if_neg c, if_neg c]
      by_cases d : sv / 2 ^ z % 2 = 1
      · rw [d]; decide
      · rw [show sv / 2 ^ z % 2 = 0 by omega]; decide
  constructor
  · rw [setN_is (s := sv) n (fun z hz => ?_), Nat.mod_eq_of_lt hv]
    rw [key z hz]
    by_cases c : sa / 2 ^ z % 2 = 0
    · have := hs z hz c
      rw [if_pos c]; omega
    · rw [if_neg c]
      by_cases d : sv / 2 ^ z % 2 = 1
      · rw [if_pos d]; omega
      · rw [if_neg d]; omega
  · have hx : (2 ^ n - 1) ^^^ sa < 2 ^ n := m_x9 (by have := m_powp n; omega) ha
    have ho : sv ||| ((2 ^ n - 1) ^^^ sa) < 2 ^ n := m_or9 hv hx
    have hb : setN (nowN vn n) 2 n = (2 ^ n - 1) ^^^ (sv ||| ((2 ^ n - 1) ^^^ sa)) := by
      rw [setN_is (s := (2 ^ n - 1) ^^^ (sv ||| ((2 ^ n - 1) ^^^ sa))) n (fun z hz => ?_), Nat.mod_eq_of_lt (m_x9 (by have := m_powp n; omega) ho)]
      rw [key z hz, xor_bit hz]
      have ob := or_bit2 sv ((2 ^ n - 1) ^^^ sa) z
      rw [xor_bit hz] at ob
      have l1 : (sv ||| ((2 ^ n - 1) ^^^ sa)) / 2 ^ z % 2 < 2 := Nat.mod_lt _ (by decide)
      by_cases c : sa / 2 ^ z % 2 = 0
      · rw [if_pos c]
        have := ob.mpr (Or.inr c)
        omega
      · rw [if_neg c]
        by_cases d : sv / 2 ^ z % 2 = 1
        · rw [if_pos d]
          have := ob.mpr (Or.inl d)
          omega
        · rw [if_neg d]
          have : ¬ (sv ||| ((2 ^ n - 1) ^^^ sa)) / 2 ^ z % 2 = 1 := fun q => (ob.mp q).elim d c
          omega
    rw [hb, xor_all ho]
    omega
theorem sure_eq {r r' : Int32} {fw : Nat → Int64} {y gd un : Nat} {A B : Prop} (h : VD r fw y gd un) (h' : (r' = nI 1 ∧ A) ∨ (r' = -1 ∧ ¬ A ∧ B) ∨ (r' = nI 0 ∧ ¬ A ∧ ¬ B)) (ha : isG fw y gd ↔ A) (hb : isG fw y (gd ||| un) ↔ B) : r = r' := by
  rcases h with ⟨e, g⟩ | ⟨e, g, k⟩ | ⟨e, g, k⟩ <;> rcases h' with ⟨e', g'⟩ | ⟨e', g', k'⟩ | ⟨e', g', k'⟩
  · rw [e, e']
  · exact absurd (ha.mp g) g'
  · exact absurd (ha.mp g) g'
  · exact absurd (ha.mpr g') g
  · rw [e, e']
  · exact absurd (hb.mp k) k'
  · exact absurd (ha.mpr g') g
  · exact absurd (hb.mpr k') k
  · rw [e, e']
theorem or_eq {r r' : Int32} {P Q Q' : Prop} (h : (P ∧ Q) ∨ (r = -1 ∧ ¬ P)) (h' : (P ∧ Q') ∨ (r' = -1 ∧ ¬ P)) (g : Q → Q' → r = r') : r = r' := by
  rcases h with ⟨p, q⟩ | ⟨e, p⟩ <;> rcases h' with ⟨p', q'⟩ | ⟨e', p'⟩
  · exact g q q'
  · exact absurd p p'
  · exact absurd p' p
  · rw [e, e']
theorem or_eq2 {r r' : Int32} {P Q Q' : Prop} (h : (P ∧ Q) ∨ (r = -1 ∧ ¬ P)) (h' : (P ∧ Q') ∨ (r' = -1 ∧ ¬ P)) (g : P → Q → Q' → r = r') : r = r' := by
  rcases h with ⟨p, q⟩ | ⟨e, p⟩ <;> rcases h' with ⟨p', q'⟩ | ⟨e', p'⟩
  · exact g p q q'
  · exact absurd p p'
  · exact absurd p' p
  · rw [e, e']
