/-! with the rows of the order equal, and the parts' numbers in their limits -/
def INV3 (n sa sv c0 q len gg tc ml : Nat) (ry fr : Int32) (fg fb fp qr vg vb vr vs vn vo th : Nat → Int32) : Prop := INV n sa sv c0 q len gg tc ml ry fr fg fb fp qr vg vb vr vs vn vo th ∧ (∃ Gn Bn Pn, VB fg fb fp Gn Bn Pn) ∧ ∀ z, z < q → qr z = vo z
section INVS3
variable {n sa sv c0 q len gg tc ml : Nat} {ry fr : Int32} {fg fb fp qr vg vb vr vs vn vo th : Nat → Int32}
theorem VB.one {ug ub ur : Nat → Int32} (h : ∀ z, z < 9 → ug z = nI 1 ∧ ub z = nI 1 ∧ ur z = nI 1) : ∃ Gn Bn Pn, VB ug ub ur Gn Bn Pn := ⟨fun _ => 1, fun _ => 1, fun _ => 1, fun z hz => ⟨(h z hz).1, (h z hz).2.1, (h z hz).2.2, Nat.le_refl 1, (by decide : (1 : Nat) ≤ 9), Nat.le_refl 1, (by decide : (1 : Nat) ≤ 9), (by decide : (1 : Nat) ≤ 1000)⟩⟩
theorem VB.upd {g0 f0 r0 : Int32} {j : Nat} (h : ∃ Gn Bn Pn, VB fg fb fp Gn Bn Pn) (hg : 1 ≤ g0.toInt ∧ g0.toInt ≤ 9) (hf : 1 ≤ f0.toInt ∧ f0.toInt ≤ 9) (hr : 0 ≤ r0.toInt ∧ r0.toInt ≤ 1000) : ∃ Gn Bn Pn, VB (upd fg j g0) (upd fb j f0) (upd fp j r0) Gn Bn Pn := by
  obtain ⟨Gn, Bn, Pn, h⟩ := h
  obtain ⟨a, ha, rfl⟩ := m_nat (x := g0) (n := 10) (by omega)
  obtain ⟨b, hb, rfl⟩ := m_nat (x := f0) (n := 10) (by omega)
  obtain ⟨c, hc, rfl⟩ := m_nat (x := r0) (n := 1001) (by omega)
  rw [nI_toInt (by omega)] at hg hf hr
  refine ⟨fun z => if z = j then a else Gn z, fun z => if z = j then b else Bn z, fun z => if z = j then c else Pn z, fun z hz => ?_⟩
  by_cases e : z = j
  · simp only [upd_eq, e, if_true]
    exact ⟨trivial, trivial, trivial, by omega, by omega, by omega, by omega, by omega⟩
  · simp only [upd_eq, e, if_false]
    exact h z hz
theorem VB.m {Gn Bn Pn : Nat → Nat} (h : VB fg fb fp Gn Bn Pn) (g : ∀ z, z < 9 → fg z = vg z ∧ fb z = vb z ∧ fp z = vr z) : VB vg vb vr Gn Bn Pn := fun z hz => by
  obtain ⟨a, b, c⟩ := g z hz
  obtain ⟨x, y, w, t⟩ := h z hz
  exact ⟨a.symm.trans x, b.symm.trans y, c.symm.trans w, t⟩
theorem INV3.parts {j : Nat} {ug ub ur wg wb wr wn : Nat → Int32} (h : INV3 n sa sv c0 q len gg tc ml ry fr fg fb fp qr vg vb vr vs vn vo th) (h1 : 1 ≤ j ∧ j ≤ 9) (hX : ∀ z, z < 9 → ug z = nI 1 ∧ ub z = nI 1 ∧ ur z = nI 1) (hM : ∀ z, z < 9 → wg z = nI 1 ∧ wb z = nI 1 ∧ wr z = nI 1 ∧ wn z = -1) : INV3 j 0 0 0 0 len gg tc 0 (-1) (nI 0) ug ub ur qr wg wb wr vs wn vo th := ⟨h.1.parts h1 hX hM, VB.one hX, fun z hz => absurd hz (by omega)⟩
theorem INV3.part {j : Nat} {g0 f0 r0 : Int32} (h : INV3 n sa sv c0 q len gg tc ml ry fr fg fb fp qr vg vb vr vs vn vo th) (hg : 1 ≤ g0.toInt ∧ g0.toInt ≤ 9) (hf : 1 ≤ f0.toInt ∧ f0.toInt ≤ 9) (hr : 0 ≤ r0.toInt ∧ r0.toInt ≤ 1000) : INV3 n sa sv c0 q len gg tc ml ry (nI 0) (upd fg j g0) (upd fb j f0) (upd fp j r0) qr (upd vg j g0) (upd vb j f0) (upd vr j r0) vs vn vo th := ⟨h.1.part, VB.upd h.2.1 hg hf hr, h.2.2⟩
theorem INV3.add {us : Nat → Int32} (h : INV3 n sa sv c0 q len gg tc ml ry fr fg fb fp qr vg vb vr vs vn vo th) (hc : c0 < 40) (hu : T01 us) : INV3 n sa sv (c0 + 1) q len gg tc ml ry fr fg fb fp qr vg vb vr us vn vo th := ⟨h.1.add hc hu, h.2⟩
theorem INV3.sys {v uf : Int32} (h : INV3 n sa sv c0 q len gg tc ml ry fr fg fb fp qr vg vb vr vs vn vo th) (hv : 0 ≤ v.toInt ∧ v.toInt < c0) (hu : uf = nI 0 ∨ (uf = fr ∧ ry = v)) : INV3 n sa sv c0 q len gg tc ml v uf fg fb fp qr vg vb vr vs vn vo th := ⟨h.1.sys hv hu, h.2⟩
theorem INV3.plan {uf : Int32} {ul : Nat} {K : Prop} (h : INV3 n sa sv c0 q len gg tc ml ry fr fg fb fp qr vg vb vr vs vn vo th) (hK : ¬ (fr = 0 ∧ len < 3 ^ n ∧ K)) (hF : FS fr len n K uf ul) : INV3 n sa sv c0 q ul gg tc ml ry uf fg fb fp qr vg vb vr vs vn vo th := ⟨h.1.plan hK hF, h.2⟩
theorem INV3.made {uf : Int32} {ul : Nat} {K : Prop} (h : INV3 n sa sv c0 q len gg tc ml ry fr fg fb fp qr vg vb vr vs vn vo th) (hK : fr = 0 ∧ len < 3 ^ n ∧ K) (hF : FS fr len n K uf ul) : INV3 n sa sv c0 q ul n tc ml ry uf fg fb fp qr vg vb vr vs vn vo th := ⟨h.1.made hK hF, h.2⟩
theorem INV3.trail {tc' : Nat} (h : INV3 n sa sv c0 q len gg tc ml ry fr fg fb fp qr vg vb vr vs vn vo th) (ht : tc' ≤ 9) : INV3 n sa sv c0 q len gg tc' ml ry fr fg fb fp qr vg vb vr vs vn vo th := ⟨h.1.trail ht, h.2⟩
theorem INV3.looks {ml' : Nat} (h : INV3 n sa sv c0 q len gg tc ml ry fr fg fb fp qr vg vb vr vs vn vo th) (ht : ml' ≤ n) : INV3 n sa sv c0 q len gg tc ml' ry fr fg fb fp qr vg vb vr vs vn vo th := ⟨h.1.looks ht, h.2⟩
theorem INV3.ratios {uo wo : Nat → Int32} {Gn Bn Pn : Nat → Nat} {sd : Int32} (h : INV3 n sa sv c0 q len gg tc ml ry fr fg fb fp qr vg vb vr vs vn vo th) (hX : DQ uo n n ∧ SRT Gn Bn Pn sd uo n) (hM : DQ wo n n ∧ SRT Gn Bn Pn sd wo n) : INV3 n sa sv c0 n len gg tc ml ry fr fg fb fp uo vg vb vr vs vn wo th := ⟨h.1.ratios hX.1 hM.1, h.2.1, SRT.eq h.1.1.2.1 hX.1 hM.1 hX.2 hM.2⟩
theorem INV3.empty (h : INV3 n sa sv c0 q len gg tc ml ry fr fg fb fp qr vg vb vr vs vn vo th) : INV3 n sa sv c0 0 len gg tc ml ry fr fg fb fp qr vg vb vr vs vn vo th := ⟨h.1.empty, h.2.1, fun z hz => absurd hz (by omega)⟩
theorem INV3.order {v : Int32} (h : INV3 n sa sv c0 q len gg tc ml ry fr fg fb fp qr vg vb vr vs vn vo th) (hX : (0 ≤ v.toInt ∧ v.toInt < n) ∧ ∀ z, z < q → ¬ qr z = v) (hM : (0 ≤ v.toInt ∧ v.toInt < n) ∧ ∀ z, z < q → ¬ vo z = v) : INV3 n sa sv c0 (q + 1) len gg tc ml ry fr fg fb fp (upd qr q v) vg vb vr vs vn (upd vo q v) th := ⟨h.1.order hX hM, h.2.1, fun z hz => by
  rw [upd_eq, upd_eq]
  by_cases e : z = q
  · rw [if_pos e, if_pos e]
  · rw [if_neg e, if_neg e]
    exact h.2.2 z (by omega)⟩
theorem INV3.see {j : Nat} {ho : Int32} (h : INV3 n sa sv c0 q len gg tc ml ry fr fg fb fp qr vg vb vr vs vn vo th) (hj : j < n) (hh : ho = -1 ∨ ho = nI 0 ∨ ho = nI 1) : INV3 n (ntS sa ho j) (ntG sv ho j) c0 q len gg tc ml ry fr fg fb fp qr vg vb vr vs (upd vn j ho) vo th := ⟨h.1.see hj hh, h.2⟩
theorem INV3.ordEq {i : Int32} (h : INV3 n sa sv c0 q len gg tc ml ry fr fg fb fp qr vg vb vr vs vn vo th) : oF qr q i = oF vo q i := by
  unfold oF
  by_cases c : 0 ≤ i.toInt ∧ i.toInt < q
  · rw [if_pos c, if_pos c]
    exact h.2.2 _ (by omega)
  · rw [if_neg c, if_neg c]
end INVS3
theorem INV3.start {ug ub ur wg wb wr wn th : Nat → Int32} (hX : ∀ z, z < 9 → ug z = nI 1 ∧ ub z = nI 1 ∧ ur z = nI 1) (hM : (∀ z, z < 9 → wg z = nI 1 ∧ wb z = nI 1 ∧ wr z = nI 1 ∧ wn z = -1) ∧ (∀ z, z < 9 → th z = nI (3 ^ z))) : INV3 1 0 0 0 0 0 0 0 0 (-1) (nI 0) ug ub ur (fun _ => 0) wg wb wr (fun _ => 0) wn (fun _ => 0) th := ⟨INV.start hX hM, VB.one hX, fun z hz => absurd hz (by omega)⟩
