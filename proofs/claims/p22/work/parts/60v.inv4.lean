/-! with the tables of the plans as well -/
theorem OKT.cong {S S' : Nat → Prop} {n a : Nat} {fg fb fp : Nat → Int32} {e : Nat → Int64} {u : Nat → Int32} (h : OKT S n fg fb fp e u a) (g : ∀ t, t < 2 ^ n → (S t ↔ S' t)) : OKT S' n fg fb fp e u a := fun s h1 h2 => by
  have us : US S n 2 1 s ↔ US S' n 2 1 s := by
    unfold US
    rw [g _ (setN_lt s 2 n), g _ (by have := m_powp n; omega)]
  exact ⟨fun q => (h s h1 h2).1 (fun w => q (us.mp w)), fun q => (h s h1 h2).2 (us.mpr q)⟩
def INV4 (n sa sv c0 q len gg tc ml : Nat) (ry fr : Int32) (fg fb fp qr vg vb vr vs vn vo th : Nat → Int32) (fw eb : Nat → Int64) (ew : Nat → Int32) : Prop := INV2 n sa sv c0 q len gg tc ml ry fr fg fb fp qr vg vb vr vs vn vo th fw ∧ ((∃ Gn Bn Pn, VB fg fb fp Gn Bn Pn) ∧ ∀ z, z < q → qr z = vo z) ∧ (∀ a, a < c0 → MON (isG fw a) n) ∧ (∀ y, y < c0 → ry = nI y → fr = nI 1 → OKT (isG fw y) n fg fb fp eb ew 0)
section INVS4
variable {n sa sv c0 q len gg tc ml : Nat} {ry fr : Int32} {fg fb fp qr vg vb vr vs vn vo th : Nat → Int32} {fw eb : Nat → Int64} {ew : Nat → Int32}
theorem INV4.parts {j : Nat} {ug ub ur wg wb wr wn : Nat → Int32} (h : INV4 n sa sv c0 q len gg tc ml ry fr fg fb fp qr vg vb vr vs vn vo th fw eb ew) (h1 : 1 ≤ j ∧ j ≤ 9) (hX : ∀ z, z < 9 → ug z = nI 1 ∧ ub z = nI 1 ∧ ur z = nI 1) (hM : ∀ z, z < 9 → wg z = nI 1 ∧ wb z = nI 1 ∧ wr z = nI 1 ∧ wn z = -1) : INV4 j 0 0 0 0 len gg tc 0 (-1) (nI 0) ug ub ur qr wg wb wr vs wn vo th fw eb ew := ⟨h.1.parts h1 hX hM, ⟨VB.one hX, fun z hz => absurd hz (by omega)⟩, fun a ha => absurd ha (by omega), fun y hy => absurd hy (by omega)⟩
theorem INV4.part {j : Nat} {g0 f0 r0 : Int32} (h : INV4 n sa sv c0 q len gg tc ml ry fr fg fb fp qr vg vb vr vs vn vo th fw eb ew) (hg : 1 ≤ g0.toInt ∧ g0.toInt ≤ 9) (hf : 1 ≤ f0.toInt ∧ f0.toInt ≤ 9) (hr : 0 ≤ r0.toInt ∧ r0.toInt ≤ 1000) : INV4 n sa sv c0 q len gg tc ml ry (nI 0) (upd fg j g0) (upd fb j f0) (upd fp j r0) qr (upd vg j g0) (upd vb j f0) (upd vr j r0) vs vn vo th fw eb ew := ⟨h.1.part, ⟨VB.upd h.2.1.1 hg hf hr, h.2.1.2⟩, h.2.2.1, fun _ _ _ e => absurd e (by decide)⟩
theorem INV4.add {us : Nat → Int32} {uw : Nat → Int64} {P Q : Nat → Prop} (h : INV4 n sa sv c0 q len gg tc ml ry fr fg fb fp qr vg vb vr vs vn vo th fw eb ew) (hc : c0 < 40) (hu : T01 us) (hX : RW fw uw c0 P) (hM : RK vs us c0 (2 ^ n) Q) (hpq : ∀ t, t < 2 ^ n → (P t ↔ Q t)) (hmo : MON P n) : INV4 n sa sv (c0 + 1) q len gg tc ml ry fr fg fb fp qr vg vb vr us vn vo th uw eb ew := by
  have h2 := m_pow h.1.1.1.2.1
  refine ⟨h.1.add hc hu hX hM hpq, h.2.1, fun a ha => ?_, fun y hy e f => ?_⟩
  · by_cases q : a = c0
    · subst q
      exact hmo.cong (fun t ht => (hX.1 t (by omega)).symm)
    · exact (h.2.2.1 a (by omega)).cong (fun t ht => (hX.2 a t q (by omega)).symm)
  · have hyc : y < c0 := by
      rcases h.1.1.2.1 with b | ⟨y0, b1, b2⟩
      · rw [b] at e
        exact absurd e.symm (nI_ne1 (by omega))
      · have := (nI_eq (by omega) (by omega)).mp (b2.symm.trans e)
        omega
    exact (h.2.2.2 y hyc e f).cong (fun t ht => (hX.2 y t (by omega) (by omega)).symm)
theorem INV4.sys {v uf : Int32} (h : INV4 n sa sv c0 q len gg tc ml ry fr fg fb fp qr vg vb vr vs vn vo th fw eb ew) (hv : 0 ≤ v.toInt ∧ v.toInt < c0) (hu : uf = nI 0 ∨ (uf = fr ∧ ry = v)) : INV4 n sa sv c0 q len gg tc ml v uf fg fb fp qr vg vb vr vs vn vo th fw eb ew := by
  refine ⟨h.1.sys hv hu, h.2.1, h.2.2.1, fun y hy e f => ?_⟩
  rcases hu with g | ⟨g, g2⟩
  · rw [g] at f; exact absurd f (by decide)
  · exact h.2.2.2 y hy (g2.trans e) (g.symm.trans f)
theorem INV4.plan {uf : Int32} {ul y : Nat} {K : Prop} {ub : Nat → Int64} {uw : Nat → Int32} (h : INV4 n sa sv c0 q len gg tc ml (nI y) fr fg fb fp qr vg vb vr vs vn vo th fw eb ew) (hyc : y < c0) (hK : ¬ (fr = 0 ∧ len < 3 ^ n ∧ K)) (hF : FS fr len n K uf ul) (hO : uf = nI 1 → OKT (isG fw y) n fg fb fp ub uw 0) : INV4 n sa sv c0 q ul gg tc ml (nI y) uf fg fb fp qr vg vb vr vs vn vo th fw ub uw := by
  have hc := h.1.1.1.2.2.2.2.1
  refine ⟨h.1.plan hK hF, h.2.1, h.2.2.1, fun y2 hy e f => ?_⟩
  have e2 : y = y2 := (nI_eq (by omega) (by omega)).mp e
  rw [← e2]
  exact hO f
theorem INV4.made {uf : Int32} {ul y : Nat} {K : Prop} {ub : Nat → Int64} {uw : Nat → Int32} (h : INV4 n sa sv c0 q len gg tc ml (nI y) fr fg fb fp qr vg vb vr vs vn vo th fw eb ew) (hyc : y < c0) (hK : fr = 0 ∧ len < 3 ^ n ∧ K) (hF : FS fr len n K uf ul) (hO : uf = nI 1 → OKT (isG fw y) n fg fb fp ub uw 0) : INV4 n sa sv c0 q ul n tc ml (nI y) uf fg fb fp qr vg vb vr vs vn vo th fw ub uw := by
  have hc := h.1.1.1.2.2.2.2.1
  refine ⟨h.1.made hK hF, h.2.1, h.2.2.1, fun y2 hy e f => ?_⟩
  have e2 : y = y2 := (nI_eq (by omega) (by omega)).mp e
  rw [← e2]
  exact hO f
theorem INV4.trail {tc' : Nat} (h : INV4 n sa sv c0 q len gg tc ml ry fr fg fb fp qr vg vb vr vs vn vo th fw eb ew) (ht : tc' ≤ 9) : INV4 n sa sv c0 q len gg tc' ml ry fr fg fb fp qr vg vb vr vs vn vo th fw eb ew := ⟨h.1.trail ht, h.2⟩
theorem INV4.looks {ml' : Nat} (h : INV4 n sa sv c0 q len gg tc ml ry fr fg fb fp qr vg vb vr vs vn vo th fw eb ew) (ht : ml' ≤ n) : INV4 n sa sv c0 q len gg tc ml' ry fr fg fb fp qr vg vb vr vs vn vo th fw eb ew := ⟨h.1.looks ht, h.2⟩
theorem INV4.ratios {uo wo : Nat → Int32} {Gn Bn Pn : Nat → Nat} {sd : Int32} (h : INV4 n sa sv c0 q len gg tc ml ry fr fg fb fp qr vg vb vr vs vn vo th fw eb ew) (hX : DQ uo n n ∧ SRT Gn Bn Pn sd uo n) (hM : DQ wo n n ∧ SRT Gn Bn Pn sd wo n) : INV4 n sa sv c0 n len gg tc ml ry fr fg fb fp uo vg vb vr vs vn wo th fw eb ew := ⟨h.1.ratios hX.1 hM.1, ⟨h.2.1.1, SRT.eq h.1.1.1.2.1 hX.1 hM.1 hX.2 hM.2⟩, h.2.2⟩
theorem INV4.empty (h : INV4 n sa sv c0 q len gg tc ml ry fr fg fb fp qr vg vb vr vs vn vo th fw eb ew) : INV4 n sa sv c0 0 len gg tc ml ry fr fg fb fp qr vg vb vr vs vn vo th fw eb ew := ⟨h.1.empty, ⟨h.2.1.1, fun z hz => absurd hz (by omega)⟩, h.2.2⟩
theorem INV4.order {v : Int32} (h : INV4 n sa sv c0 q len gg tc ml ry fr fg fb fp qr vg vb vr vs vn vo th fw eb ew) (hX : (0 ≤ v.toInt ∧ v.toInt < n) ∧ ∀ z, z < q → ¬ qr z = v) (hM : (0 ≤ v.toInt ∧ v.toInt < n) ∧ ∀ z, z < q → ¬ vo z = v) : INV4 n sa sv c0 (q + 1) len gg tc ml ry fr fg fb fp (upd qr q v) vg vb vr vs vn (upd vo q v) th fw eb ew := ⟨h.1.order hX hM, ⟨h.2.1.1, fun z hz => by
  rw [upd_eq, upd_eq]
  by_cases e : z = q
  · rw [if_pos e, if_pos e]
  · rw [if_neg e, if_neg e]
    exact h.2.1.2 z (by omega)⟩, h.2.2⟩
theorem INV4.see {j : Nat} {ho : Int32} (h : INV4 n sa sv c0 q len gg tc ml ry fr fg fb fp qr vg vb vr vs vn vo th fw eb ew) (hj : j < n) (hh : ho = -1 ∨ ho = nI 0 ∨ ho = nI 1) : INV4 n (ntS sa ho j) (ntG sv ho j) c0 q len gg tc ml ry fr fg fb fp qr vg vb vr vs (upd vn j ho) vo th fw eb ew := ⟨h.1.see hj hh, h.2⟩
end INVS4
theorem INV4.start {ug ub ur wg wb wr wn th : Nat → Int32} {fw eb : Nat → Int64} {ew : Nat → Int32} (hX : ∀ z, z < 9 → ug z = nI 1 ∧ ub z = nI 1 ∧ ur z = nI 1) (hM : (∀ z, z < 9 → wg z = nI 1 ∧ wb z = nI 1 ∧ wr z = nI 1 ∧ wn z = -1) ∧ (∀ z, z < 9 → th z = nI (3 ^ z))) : INV4 1 0 0 0 0 0 0 0 0 (-1) (nI 0) ug ub ur (fun _ => 0) wg wb wr (fun _ => 0) wn (fun _ => 0) th fw eb ew := ⟨INV2.start hX hM, ⟨VB.one hX, fun z hz => absurd hz (by omega)⟩, fun a ha => absurd ha (by omega), fun y hy => absurd hy (by omega)⟩
/-- the tables of both sides are the same -/
theorem tabs {n : Nat} {fw : Nat → Int64} {vs fg fb fp vg vb vr th : Nat → Int32} {c0 y : Nat} {e ve : Nat → Int64} {u vx vw vy : Nat → Int32} (hn : n ≤ 9) (hTB : TB fw vs c0 n) (hy : y < c0) (hfg : ∀ z, z < 9 → fg z = vg z ∧ fb z = vb z ∧ fp z = vr z) (hth : ∀ z, z < 9 → th z = nI (3 ^ z)) (hX : OKT (isG fw y) n fg fb fp e u 0) (hM : ∀ z, z < 3 ^ n → RM (Sg vs y) n (fun c9 => mlf vg vb th (nI c9) n) vr ve vx vw vy z) : ∀ s c, s < 3 ^ n → c < 3 ^ n → SW n s c → e s = ve c ∧ u s = vw c := fun s c hs hc h =>
  tab_eq (fun t ht => hTB y t hy ht) (fun z hz => (hfg z (by omega)).2.2) (W := fun t => wd fg fb 2 t n) (W' := fun c9 => mlf vg vb th (nI c9) n) (fun s c _ hc h => by
    have h3 := m_3n hn
    show wd fg fb 2 s n = mlf vg vb th (nI c) n
    rw [mlf_wd hth (by omega) n hn]
    exact wd_sw h (fun z hz => ⟨(hfg z (by omega)).1, (hfg z (by omega)).2.1⟩) n (Nat.le_refl n)) (fun s hs => hX s (Nat.zero_le s) hs) (fun c hc => (hM c hc).1) (3 ^ n) s c (by omega) hs hc h
theorem nF_free {sa sv j : Nat} : nF (nI sa) (nI sv) j = -1 ↔ sb (nI sa) j = 0 := by
  unfold nF
  by_cases a : sb (nI sa) j = 0
  · rw [if_pos a]; exact ⟨fun _ => a, fun _ => rfl⟩
  · rw [if_neg a]
    have l := sb_lt (nI sv) j
    exact ⟨fun q => absurd q (nI_ne1 (by omega)), fun q => absurd q a⟩
