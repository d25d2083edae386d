
theorem m_sw_1_8 {x : Int32} (h : ¬ (x.toInt < 1 ∨ 8 < x.toInt)) : x = nI 1 ∨ x = nI 2 ∨ x = nI 3 ∨ x = nI 4 ∨ x = nI 5 ∨ x = nI 6 ∨ x = nI 7 ∨ x = nI 8 := by
  rcases (show x.toInt = (1 : Nat) ∨ x.toInt = (2 : Nat) ∨ x.toInt = (3 : Nat) ∨ x.toInt = (4 : Nat) ∨ x.toInt = (5 : Nat) ∨ x.toInt = (6 : Nat) ∨ x.toInt = (7 : Nat) ∨ x.toInt = (8 : Nat) by omega) with e | e | e | e | e | e | e | e
  · exact Or.inl (m_isn e (by decide))
  · exact Or.inr (Or.inl (m_isn e (by decide)))
  · exact Or.inr (Or.inr (Or.inl (m_isn e (by decide))))
  · exact Or.inr (Or.inr (Or.inr (Or.inl (m_isn e (by decide)))))
  · exact Or.inr (Or.inr (Or.inr (Or.inr (Or.inl (m_isn e (by decide))))))
  · exact Or.inr (Or.inr (Or.inr (Or.inr (Or.inr (Or.inl (m_isn e (by decide)))))))
  · exact Or.inr (Or.inr (Or.inr (Or.inr (Or.inr (Or.inr (Or.inl (m_isn e (by decide))))))))
  · exact Or.inr (Or.inr (Or.inr (Or.inr (Or.inr (Or.inr (Or.inr (m_isn e (by decide))))))))
theorem m_w02 {x : Int32} (h : 0 ≤ x.toInt ∧ x.toInt ≤ 2) : x = nI 0 ∨ x = nI 1 ∨ x = nI 2 := by
  rcases (show x.toInt = (0 : Nat) ∨ x.toInt = (1 : Nat) ∨ x.toInt = (2 : Nat) by omega) with e | e | e
  · exact Or.inl (m_isn e (by decide))
  · exact Or.inr (Or.inl (m_isn e (by decide)))
  · exact Or.inr (Or.inr (m_isn e (by decide)))
theorem FS.iff {fr uf : Int32} {len n ul : Nat} {K P : Prop} (hK : K ↔ P) (h : FS fr len n P uf ul) : FS fr len n K uf ul := by
  refine ⟨h.1, h.2.1, ?_⟩
  rcases h.2.2 with ⟨a, b, c, d⟩ | ⟨a, b⟩
  · exact Or.inl ⟨a, b, hK.mpr c, d⟩
  · exact Or.inr ⟨fun g => a ⟨g.1, g.2.1, hK.mp g.2.2⟩, b⟩
theorem FS.stay {uf : Int32} {len n ul : Nat} {K : Prop} (h : FS (nI 1) len n K uf ul) : ul = len := by
  rcases h.2.2 with ⟨a, _⟩ | ⟨_, b⟩
  · exact absurd a (by decide)
  · exact b
theorem FS.trans {fr uf : Int32} {len n ul ln : Nat} {K K' : Prop} (h : FS fr len n K (nI 1) ln) (g : FS (nI 1) ln n K' uf ul) : FS fr len n K uf ul := by
  refine ⟨g.1, g.2.1, ?_⟩
  rw [g.stay]
  exact h.2.2
theorem FS.ge {fr : Int32} {len n ul : Nat} {K : Prop} (h : FS fr len n K (nI 1) ul) : 3 ^ n ≤ ul := by
  rcases h.2.1 with a | ⟨_, b⟩
  · exact absurd a (by decide)
  · exact b
/-- what of told asks the plans -/
def KT (wh : Int32) (P : Prop) : Prop := wh = nI 2 ∨ wh = nI 4 ∨ ((wh = nI 3 ∨ wh = nI 5) ∧ P)
theorem KT.out {wh : Int32} {P : Prop} (h : wh.toInt < 2 ∨ 5 < wh.toInt) : ¬ KT wh P := by
  rintro (e | e | ⟨e | e, _⟩)
  · rw [e, nI_toInt (by decide)] at h; omega
  · rw [e, nI_toInt (by decide)] at h; omega
  · rw [e, nI_toInt (by decide)] at h; omega
  · rw [e, nI_toInt (by decide)] at h; omega
theorem KT.i3 {wh : Int32} {P : Prop} (e : wh = nI 3 ∨ wh = nI 5) : KT wh P ↔ P := by
  refine ⟨fun h => ?_, fun h => Or.inr (Or.inr ⟨e, h⟩)⟩
  rcases h with h | h | h
  · rcases e with e | e <;> rw [e] at h <;> exact absurd h (by decide)
  · rcases e with e | e <;> rw [e] at h <;> exact absurd h (by decide)
  · exact h.2
theorem nt_none {r sn sg : Int32} {j : Nat} (h : r = if sb sn j = 0 then -1 else nI (sb sg j)) (e : r = -1) : sb sn j = 0 := by
  by_cases g : sb sn j = 0
  · exact g
  · rw [if_neg g, e] at h
    have := sb_lt sg j
    exact absurd h.symm (nI_ne1 (by omega))
theorem nt_some {r sn sg : Int32} {j : Nat} (h : r = if sb sn j = 0 then -1 else nI (sb sg j)) (e : ¬ r = -1) : ¬ sb sn j = 0 := fun g => e (by rw [h, if_pos g])
def KO (n sa : Nat) (p wh : Int32) : Prop := (0 ≤ p.toInt ∧ p.toInt < n) ∧ sb (nI sa) p.toInt.toNat = 0 ∧ wh = nI 0
def KR (fw : Nat → Int64) (y n sa sv : Nat) (wh st : Int32) : Prop := (wh = nI 0 ∨ wh = nI 1) ∧ (0 ≤ st.toInt ∧ st.toInt < (2 ^ n : Nat)) ∧ st &&& nI sa = nI sv ∧ NV fw y (st.toInt.toNat &&& sa) ((2 ^ n - 1) ^^^ sa)
theorem m_tn {j : Nat} (h : j < 2 ^ 31) : (nI j).toInt.toNat = j := by rw [nI_toInt h]; rfl

theorem KR.w {fw : Nat → Int64} {y n sa sv : Nat} {wh st : Int32} (h : KR fw y n sa sv wh st) : 0 ≤ wh.toInt ∧ wh.toInt ≤ 2 := by
  rcases h.1 with e | e <;> rw [e, nI_toInt (by decide)] <;> omega
theorem KR.iff {fw : Nat → Int64} {y n sa sv j : Nat} {wh : Int32} (h : wh = nI 0 ∨ wh = nI 1) (hj : j < 2 ^ n) (hn : n ≤ 9) (hf : nI j &&& nI sa = nI sv) : KR fw y n sa sv wh (nI j) ↔ NV fw y (j &&& sa) ((2 ^ n - 1) ^^^ sa) := by
  have h2 := m_pow hn
  refine ⟨fun g => ?_, fun g => ⟨h, ?_, hf, ?_⟩⟩
  · have g4 := g.2.2.2
    rw [m_tn (by omega)] at g4
    exact g4
  · rw [nI_toInt (by omega)]; omega
  · rw [m_tn (by omega)]; exact g
def rm_c_X6_told_g (mc ms : Nat) : Room := { frames := 15, cells := mc, slots := ms, locals := 390 }
set_option maxHeartbeats 400000 in
set_option maxRecDepth 100000 in
theorem c_X6_told_g (l : Launch) (D : va_G) (cI cJ cZ : ClassId) (z3 t3 : Nat) (sz : Nat) (mc ms : Nat) (x0 : Nat) (h4 : Nat) (h3 : Nat) (h2 : Nat) (h1 : Nat) (hB : Nat) (h5 : Nat) (a1 : Nat) (a2 : Nat) (a3 : Nat) (b1 : Nat) (b2 : Nat) (r1 : Nat) (p4 : Nat) (p5 : Nat) (p6 : Nat) (l3 : Nat) (lk1 : Nat) (n : Nat) (c0 : Nat) (y : Nat) (sa : Nat) (sv : Nat) (q : Nat) (len : Nat) (fr : Int32) (wh : Int32) (fg : Nat → Int32) (fb : Nat → Int32) (fp : Nat → Int32) (qr : Nat → Int32) (fq : Nat → Int32) (eb : Nat → Int64) (ew : Nat → Int32) (fw : Nat → Int64) (lp : Nat → Int32) (hn : n ≤ 9) (h1n : 1 ≤ n) (hc : c0 ≤ 40) (hy : y < c0) (hsa : sa < 2 ^ n) (hsv : sv < 2 ^ n) (hq : q ≤ 9) (hrow : ∀ z, z < q → ∃ x, x < n ∧ qr z = nI x) (hlen : len ≤ 19683) (hfr : fr = 0 ∨ fr = nI 1 ∧ 3 ^ n ≤ len) (hbud : fr = 0 → len < 3 ^ n → (KT wh (NV fw y sv ((2 ^ n - 1) ^^^ sa))) → 2 ≤ mc ∧ 2 * 3 ^ n ≤ ms) (hz3 : nz3 z3 t3 [x0, h4, a1, a2, a3, h3, b1, h2, r1, h1, p4, p5, p6, hB, l3]) : Met l yX6_told wsX6_told (rm_c_X6_told_g mc ms) (pnT_ D cI cJ cZ z3 t3 sz [.ref x0, .int wh] [(x0, .inr (6, [.ref h4, .ref h3, .ref h2, .ref h1, .ref hB, .ref h5])), (h4, .inr (4, [.ref a1, .ref a2, .ref a3, .int (nI n), .int (nI sa), .int (nI sv)])), (a1, .inl (cI, 9, .inl fg)), (a2, .inl (cI, 9, .inl fb)), (a3, .inl (cI, 9, .inl fp)), (h3, .inr (3, [.ref b1, .ref b2, .int (nI n), .int (nI c0), .int (nI y)])), (b1, .inl (cJ, 320, .inr (.inl fw))), (h2, .inr (2, [.ref r1, .int (nI q)])), (r1, .inl (cI, 9, .inl qr)), (h1, .inr (1, [.ref h4, .ref h3, .ref h2, .ref p4, .ref p5, .ref p6, .int fr])), (p4, .inl (cI, 9, .inl fq)), (p5, .inl (cJ, len, .inr (.inl eb))), (p6, .inl (cI, len, .inl ew)), (hB, .inr (0, [.ref h4, .ref h3, .ref l3])), (l3, .inl (cI, 512, .inl lp))]) (va_Ql (fun (r : Int64) (u : Nat × Nat × Nat × (Nat → Int32) × (Nat → Int64) × (Nat → Int32) × Int32 × (Nat → Int32)) => FS fr len n (KT wh (NV fw y sv ((2 ^ n - 1) ^^^ sa))) u.2.2.2.2.2.2.1 u.2.2.1) (fun (u : Nat × Nat × Nat × (Nat → Int32) × (Nat → Int64) × (Nat → Int32) × Int32 × (Nat → Int32)) tS => va_P D vwCl [(x0, .inr (6, [.ref h4, .ref h3, .ref h2, .ref h1, .ref hB, .ref h5])), (h4, .inr (4, [.ref a1, .ref a2, .ref a3, .int (nI n), .int (nI sa), .int (nI sv)])), (a1, .inl (cI, 9, .inl fg)), (a2, .inl (cI, 9, .inl fb)), (a3, .inl (cI, 9, .inl fp)), (h3, .inr (3, [.ref b1, .ref b2, .int (nI n), .int (nI c0), .int (nI y)])), (b1, .inl (cJ, 320, .inr (.inl fw))), (h2, .inr (2, [.ref r1, .int (nI q)])), (r1, .inl (cI, 9, .inl qr)), (h1, .inr (1, [.ref h4, .ref h3, .ref h2, .ref p4, .ref u.1, .ref u.2.1, .int u.2.2.2.2.2.2.1])), (p4, .inl (cI, 9, .inl u.2.2.2.1)), (u.1, .inl (cJ, u.2.2.1, .inr (.inl u.2.2.2.2.1))), (u.2.1, .inl (cI, u.2.2.1, .inl u.2.2.2.2.2.1)), (hB, .inr (0, [.ref h4, .ref h3, .ref l3])), (l3, .inl (cI, 512, .inl u.2.2.2.2.2.2.2))] tS.heap ∧ va_D (va_A [(x0, .inr (6, [.ref h4, .ref h3, .ref h2, .ref h1, .ref hB, .ref h5])), (h4, .inr (4, [.ref a1, .ref a2, .ref a3, .int (nI n), .int (nI sa), .int (nI sv)])), (a1, .inl (cI, 9, .inl fg)), (a2, .inl (cI, 9, .inl fb)), (a3, .inl (cI, 9, .inl fp)), (h3, .inr (3, [.ref b1, .ref b2, .int (nI n), .int (nI c0), .int (nI y)])), (b1, .inl (cJ, 320, .inr (.inl fw))), (h2, .inr (2, [.ref r1, .int (nI q)])), (r1, .inl (cI, 9, .inl qr)), (h1, .inr (1, [.ref h4, .ref h3, .ref h2, .ref p4, .ref p5, .ref p6, .int fr])), (p4, .inl (cI, 9, .inl fq)), (p5, .inl (cJ, len, .inr (.inl eb))), (p6, .inl (cI, len, .inl ew)), (hB, .inr (0, [.ref h4, .ref h3, .ref l3])), (l3, .inl (cI, 512, .inl lp))] sz) [(x0, .inr (6, [.ref h4, .ref h3, .ref h2, .ref h1, .ref hB, .ref h5])), (h4, .inr (4, [.ref a1, .ref a2, .ref a3, .int (nI n), .int (nI sa), .int (nI sv)])), (a1, .inl (cI, 9, .inl fg)), (a2, .inl (cI, 9, .inl fb)), (a3, .inl (cI, 9, .inl fp)), (h3, .inr (3, [.ref b1, .ref b2, .int (nI n), .int (nI c0), .int (nI y)])), (b1, .inl (cJ, 320, .inr (.inl fw))), (h2, .inr (2, [.ref r1, .int (nI q)])), (r1, .inl (cI, 9, .inl qr)), (h1, .inr (1, [.ref h4, .ref h3, .ref h2, .ref p4, .ref u.1, .ref u.2.1, .int u.2.2.2.2.2.2.1])), (p4, .inl (cI, 9, .inl u.2.2.2.1)), (u.1, .inl (cJ, u.2.2.1, .inr (.inl u.2.2.2.2.1))), (u.2.1, .inl (cI, u.2.2.1, .inl u.2.2.2.2.2.1)), (hB, .inr (0, [.ref h4, .ref h3, .ref l3])), (l3, .inl (cI, 512, .inl u.2.2.2.2.2.2.2))]) (va_A [(x0, .inr (6, [.ref h4, .ref h3, .ref h2, .ref h1, .ref hB, .ref h5])), (h4, .inr (4, [.ref a1, .ref a2, .ref a3, .int (nI n), .int (nI sa), .int (nI sv)])), (a1, .inl (cI, 9, .inl fg)), (a2, .inl (cI, 9, .inl fb)), (a3, .inl (cI, 9, .inl fp)), (h3, .inr (3, [.ref b1, .ref b2, .int (nI n), .int (nI c0), .int (nI y)])), (b1, .inl (cJ, 320, .inr (.inl fw))), (h2, .inr (2, [.ref r1, .int (nI q)])), (r1, .inl (cI, 9, .inl qr)), (h1, .inr (1, [.ref h4, .ref h3, .ref h2, .ref p4, .ref p5, .ref p6, .int fr])), (p4, .inl (cI, 9, .inl fq)), (p5, .inl (cJ, len, .inr (.inl eb))), (p6, .inl (cI, len, .inl ew)), (hB, .inr (0, [.ref h4, .ref h3, .ref l3])), (l3, .inl (cI, 512, .inl lp))] sz)) mc ms (va_A [(x0, .inr (6, [.ref h4, .ref h3, .ref h2, .ref h1, .ref hB, .ref h5])), (h4, .inr (4, [.ref a1, .ref a2, .ref a3, .int (nI n), .int (nI sa), .int (nI sv)])), (a1, .inl (cI, 9, .inl fg)), (a2, .inl (cI, 9, .inl fb)), (a3, .inl (cI, 9, .inl fp)), (h3, .inr (3, [.ref b1, .ref b2, .int (nI n), .int (nI c0), .int (nI y)])), (b1, .inl (cJ, 320, .inr (.inl fw))), (h2, .inr (2, [.ref r1, .int (nI q)])), (r1, .inl (cI, 9, .inl qr)), (h1, .inr (1, [.ref h4, .ref h3, .ref h2, .ref p4, .ref p5, .ref p6, .int fr])), (p4, .inl (cI, 9, .inl fq)), (p5, .inl (cJ, len, .inr (.inl eb))), (p6, .inl (cI, len, .inl ew)), (hB, .inr (0, [.ref h4, .ref h3, .ref l3])), (l3, .inl (cI, 512, .inl lp))] sz) := by
  refine Met.ofW (cc := cX6_told) (maxL := 4) (ret := (some .long)) (by decide) rfl ?_
  intro p e s m args below meth c s₁ B hml hv
  obtain ⟨rfl, hsz, hP, hKN, hT0, hD0⟩ := hv
  have hK := hKN.1
  have hx := B.exec
  have hb := B.bytes
  have hr := B.returns
  have hts := atoms_spec (ws := wsX6_told) B.pre
  have hown : s.vm.findClass RX6 = some m.cls := findClass_of_methodNamed B.named
  have hlocks := B.notSynchronized
  have hiX4 : ∀ w ∈ wsX40, w ∈ wsX6_told := by decide +kernel
  have hiX6 : ∀ w ∈ wsX60, w ∈ wsX6_told := by decide +kernel
  have hf10 := hts (.fieldLink RX6 10 "LookBench" "shelf" "LLookBench$Shelf;") (by decide +kernel)
  have hf19 := hts (.fieldLink RX6 19 "LookBench" "rules" "LLookBench$Rules;") (by decide +kernel)
  have hf35 := hts (.fieldLink RX6 35 "LookBench" "plans" "LLookBench$Plans;") (by decide +kernel)
  have hf44 := hts (.fieldLink RX6 44 "LookBench" "bounds" "LLookBench$Bounds;") (by decide +kernel)
  have hf141 := va_Nw.use (A := [.ref x0, .int wh].toArray) rfl (hKN.2 (.fieldLinkNest RX6 141 RX4 "seenGood" "I" RX6) (by decide +kernel))
  have hf151 := va_Nw.use (A := [.ref x0, .int wh].toArray) rfl (hKN.2 (.fieldLinkNest RX6 151 RX4 "seen" "I" RX6) (by decide +kernel))
  subst hsz
  have hD := hD0.self (sz := s.heap.size)
  have hz9 := nz3.A (ws := [(x0, .inr (6, [.ref h4, .ref h3, .ref h2, .ref h1, .ref hB, .ref h5])), (h4, .inr (4, [.ref a1, .ref a2, .ref a3, .int (nI n), .int (nI sa), .int (nI sv)])), (a1, .inl (cI, 9, .inl fg)), (a2, .inl (cI, 9, .inl fb)), (a3, .inl (cI, 9, .inl fp)), (h3, .inr (3, [.ref b1, .ref b2, .int (nI n), .int (nI c0), .int (nI y)])), (b1, .inl (cJ, 320, .inr (.inl fw))), (h2, .inr (2, [.ref r1, .int (nI q)])), (r1, .inl (cI, 9, .inl qr)), (h1, .inr (1, [.ref h4, .ref h3, .ref h2, .ref p4, .ref p5, .ref p6, .int fr])), (p4, .inl (cI, 9, .inl fq)), (p5, .inl (cJ, len, .inr (.inl eb))), (p6, .inl (cI, len, .inl ew)), (hB, .inr (0, [.ref h4, .ref h3, .ref l3])), (l3, .inl (cI, 512, .inl lp))]) hz3 hT0
  generalize hAe : va_A [(x0, .inr (6, [.ref h4, .ref h3, .ref h2, .ref h1, .ref hB, .ref h5])), (h4, .inr (4, [.ref a1, .ref a2, .ref a3, .int (nI n), .int (nI sa), .int (nI sv)])), (a1, .inl (cI, 9, .inl fg)), (a2, .inl (cI, 9, .inl fb)), (a3, .inl (cI, 9, .inl fp)), (h3, .inr (3, [.ref b1, .ref b2, .int (nI n), .int (nI c0), .int (nI y)])), (b1, .inl (cJ, 320, .inr (.inl fw))), (h2, .inr (2, [.ref r1, .int (nI q)])), (r1, .inl (cI, 9, .inl qr)), (h1, .inr (1, [.ref h4, .ref h3, .ref h2, .ref p4, .ref p5, .ref p6, .int fr])), (p4, .inl (cI, 9, .inl fq)), (p5, .inl (cJ, len, .inr (.inl eb))), (p6, .inl (cI, len, .inl ew)), (hB, .inr (0, [.ref h4, .ref h3, .ref l3])), (l3, .inl (cI, 512, .inl lp))] s.heap.size = A at hD ⊢ hz9
  have hA : ∀ q : Nat, s.heap.size ≤ q → A q := fun q h => by rw [← hAe]; exact Or.inr h
  have hS : va_S A s.heap s.heap [] := va_S.rf
  have hzA := hz9.1
  have htA := hz9.2
  have hZ3 := hT0.Z hzA
  have hT3 := hT0.T htA
  have hl := lv_entry ([.ref x0, .int wh]) (n := 4) (Nat.le_of_ble_eq_true rfl)
  rw [lg_entry_eq]
  generalize (lg_sl ([.ref x0, .int wh]) ++ List.replicate (4 - (lg_sl ([.ref x0, .int wh])).length) Slot.unset).toArray = ls at hl ⊢
  have hl : lv_has ls 4 [(0, .ref x0), (1, .int wh)] := hl
  generalize hQ : MQ below _ _ s _ _ _ = Q
  obtain ⟨H, hH⟩ : ∃ z, z = s.heap := ⟨_, rfl⟩
  have hP : va_P D vwCl [(x0, .inr (6, [.ref h4, .ref h3, .ref h2, .ref h1, .ref hB, .ref h5])), (h4, .inr (4, [.ref a1, .ref a2, .ref a3, .int (nI n), .int (nI sa), .int (nI sv)])), (a1, .inl (cI, 9, .inl fg)), (a2, .inl (cI, 9, .inl fb)), (a3, .inl (cI, 9, .inl fp)), (h3, .inr (3, [.ref b1, .ref b2, .int (nI n), .int (nI c0), .int (nI y)])), (b1, .inl (cJ, 320, .inr (.inl fw))), (h2, .inr (2, [.ref r1, .int (nI q)])), (r1, .inl (cI, 9, .inl qr)), (h1, .inr (1, [.ref h4, .ref h3, .ref h2, .ref p4, .ref p5, .ref p6, .int fr])), (p4, .inl (cI, 9, .inl fq)), (p5, .inl (cJ, len, .inr (.inl eb))), (p6, .inl (cI, len, .inl ew)), (hB, .inr (0, [.ref h4, .ref h3, .ref l3])), (l3, .inl (cI, 512, .inl lp))] H := by rw [hH]; exact hP
  have hS : va_S A s.heap H [] := by rw [hH]; exact hS
  refine m_heap hH ?_
  clear hH
  have h2n := m_pow hn
  have h2p := m_powp n
  have h3n := m_3n hn
  have h3p := m_p3p n
  have ty9 : (nI y).toInt = (y : Int) := nI_toInt (by omega)
  have hy40 : y < 40 := by omega
  refine lv_aload_n hx hb dX6_told_0 rfl (lv_at hl 0 rfl) ?_
  refine va_get (D := D) (ci := 6) (v := .ref h4) (C := RX6) (T := TX6) (N := 6) hx hb hts hiX6 hown hK hP 0 rfl rfl 0 (by decide) hf10 (fun _ h9 => h9) rfl dX6_told_1 ?_
  refine va_getN (D := D) (ci := 4) (v := .int (nI sa)) (C := RX4) (T := TX4) (N := 6) hx hb hts hiX4 hown hK hP 1 rfl rfl 4 (by decide) hf151 (fun _ h9 => h9) rfl dX6_told_4 ?_
  refine lv_istore_n (lv' := [(2, .int (nI sa)), (0, .ref x0), (1, .int wh)]) hx hb dX6_told_7 rfl hl (by decide) rfl (fun ls hl => ?_)
  refine lv_aload_n hx hb dX6_told_8 rfl (lv_at hl 1 rfl) ?_
  refine va_get (D := D) (ci := 6) (v := .ref h4) (C := RX6) (T := TX6) (N := 6) hx hb hts hiX6 hown hK hP 0 rfl rfl 0 (by decide) hf10 (fun _ h9 => h9) rfl dX6_told_9 ?_
  refine va_getN (D := D) (ci := 4) (v := .int (nI sv)) (C := RX4) (T := TX4) (N := 6) hx hb hts hiX4 hown hK hP 1 rfl rfl 5 (by decide) hf141 (fun _ h9 => h9) rfl dX6_told_12 ?_
  refine lv_istore_n (lv' := [(3, .int (nI sv)), (2, .int (nI sa)), (0, .ref x0), (1, .int wh)]) hx hb dX6_told_15 rfl hl (by decide) rfl (fun ls hl => ?_)
  refine lv_iload_n hx hb dX6_told_16 rfl (lv_at hl 3 rfl) ?_
  refine lv_if_ne (tgt := 30) hx hb dX6_told_17 (by decide) (fun c1 => ?_) (fun c1 => ?_)
  · skip
    refine lv_aload_n hx hb dX6_told_30 rfl (lv_at hl 2 rfl) ?_
    refine va_get (D := D) (ci := 6) (v := .ref h3) (C := RX6) (T := TX6) (N := 6) hx hb hts hiX6 hown hK hP 0 rfl rfl 1 (by decide) hf19 (fun _ h9 => h9) rfl dX6_told_31 ?_
    refine pu_i (va_runV (As := []) (rest := []) ⟨hx, hb, hml, hown, hts⟩ (c_X3_hasSystem l D cI cJ cZ h3 b1 b2 c0 (nI n) (nI y) (by first | assumption | omega)) (cwV 0 hts gX6_told_X3_hasSystem rfl rfl rfl (by decide +kernel) ⟨Nat.le_of_ble_eq_true rfl, Nat.le_of_ble_eq_true rfl⟩) ⟨pc_blind, va_recv hK hP (ci := 3) (q0 := 5) rfl rfl, fun U hU hW => ⟨rfl, by rw [hU]; exact hP.sub (ws' := [(h3, .inr (3, [.ref b1, .ref b2, .int (nI n), .int (nI c0), .int (nI y)]))]) [5] rfl, hKN.warm hW⟩⟩ rfl rfl hl.1 rfl (lv_room (Nat.le_of_ble_eq_true rfl)) dX6_told_34 ⟨(show 0 + 0 ≤ mc by omega), (show 0 + 0 ≤ ms by omega)⟩) hS hP (fun r2 H locs w2r hP hS => ?_)
    have w2 : B01 r2 (0 ≤ (nI y).toInt ∧ (nI y).toInt < c0) := w2r
    clear w2r
    rcases w2 with ⟨rfl, w2⟩ | ⟨rfl, w2⟩
    · skip
      refine lv_if_ne (tgt := 44) hx hb dX6_told_37 (by decide) (fun c3 => ?_) (fun c3 => ?_)
      · skip
        refine lv_iload_n hx hb dX6_told_44 rfl (lv_at hl 3 rfl) ?_
        by_cases c4 : wh.toInt < (1) ∨ (8) < wh.toInt
        · refine lv_tableOut (tgt := 170) hx hb dX6_told_45 c4 (by decide) ?_
          refine lv_ldc2 (v := (-2 : Int64)) hx hb hown (hts (.constantLong RX6 158 (-2 : Int64)) (by decide +kernel)) dX6_told_170 ?_
          refine W.widen (k := mc) (n := ms) (by omega) (by omega) ?_
          rw [← hQ]
          have hP9 := hP.sub (ws' := [(x0, .inr (6, [.ref h4, .ref h3, .ref h2, .ref h1, .ref hB, .ref h5])), (h4, .inr (4, [.ref a1, .ref a2, .ref a3, .int (nI n), .int (nI sa), .int (nI sv)])), (a1, .inl (cI, 9, .inl fg)), (a2, .inl (cI, 9, .inl fb)), (a3, .inl (cI, 9, .inl fp)), (h3, .inr (3, [.ref b1, .ref b2, .int (nI n), .int (nI c0), .int (nI y)])), (b1, .inl (cJ, 320, .inr (.inl fw))), (h2, .inr (2, [.ref r1, .int (nI q)])), (r1, .inl (cI, 9, .inl qr)), (h1, .inr (1, [.ref h4, .ref h3, .ref h2, .ref p4, .ref p5, .ref p6, .int fr])), (p4, .inl (cI, 9, .inl fq)), (p5, .inl (cJ, len, .inr (.inl eb))), (p6, .inl (cI, len, .inl ew)), (hB, .inr (0, [.ref h4, .ref h3, .ref l3])), (l3, .inl (cI, 512, .inl lp))]) [0, 1, 2, 3, 4, 5, 6, 7, 8, 9, 10, 11, 12, 13, 14] rfl
          have hD9 := hD.sub (ws' := [(x0, .inr (6, [.ref h4, .ref h3, .ref h2, .ref h1, .ref hB, .ref h5])), (h4, .inr (4, [.ref a1, .ref a2, .ref a3, .int (nI n), .int (nI sa), .int (nI sv)])), (a1, .inl (cI, 9, .inl fg)), (a2, .inl (cI, 9, .inl fb)), (a3, .inl (cI, 9, .inl fp)), (h3, .inr (3, [.ref b1, .ref b2, .int (nI n), .int (nI c0), .int (nI y)])), (b1, .inl (cJ, 320, .inr (.inl fw))), (h2, .inr (2, [.ref r1, .int (nI q)])), (r1, .inl (cI, 9, .inl qr)), (h1, .inr (1, [.ref h4, .ref h3, .ref h2, .ref p4, .ref p5, .ref p6, .int fr])), (p4, .inl (cI, 9, .inl fq)), (p5, .inl (cJ, len, .inr (.inl eb))), (p6, .inl (cI, len, .inl ew)), (hB, .inr (0, [.ref h4, .ref h3, .ref l3])), (l3, .inl (cI, 512, .inl lp))]) [0, 1, 2, 3, 4, 5, 6, 7, 8, 9, 10, 11, 12, 13, 14] (by decide) rfl
          exact W.lret (v := (-2 : Int64)) hx hb hr (fun tS htS hWS => ⟨⟨(-2 : Int64), (p5, p6, len, fq, eb, ew, fr, lp), rfl, FS.no (KT.out (by omega)) hfr hlen, m_at htS hP9, hD9⟩, hS.F htS⟩) hS.2.2 dX6_told_173
        · have h4 : wh = nI 1 ∨ wh = nI 2 ∨ wh = nI 3 ∨ wh = nI 4 ∨ wh = nI 5 ∨ wh = nI 6 ∨ wh = nI 7 ∨ wh = nI 8 := m_sw_1_8 c4
          rcases h4 with e4 | e4 | e4 | e4 | e4 | e4 | e4 | e4
          · refine cn_i (y := nI 1) e4 ?_
            refine lv_tableIn (tgt := 92) (off := 47) hx hb dX6_told_45 (by decide) (by decide) (by decide) (by decide) ?_
            have e9 := e4
            refine lv_aload_n hx hb dX6_told_92 rfl (lv_at hl 2 rfl) ?_
            refine va_get (D := D) (ci := 6) (v := .ref hB) (C := RX6) (T := TX6) (N := 6) hx hb hts hiX6 hown hK hP 0 rfl rfl 4 (by decide) hf44 (fun _ h9 => h9) rfl dX6_told_93 ?_
            refine pu_l (va_runV (As := []) (rest := []) ⟨hx, hb, hml, hown, hts⟩ (c_X0_goodWeights l D cI cJ cZ hB h4 h3 l3 a1 a2 a3 b1 b2 n y (nI sa) (nI sv) (nI c0) fg fb fp fw (by first | assumption | omega) (by first | assumption | omega)) (cwV 0 hts gX6_told_X0_goodWeights rfl rfl rfl (by decide +kernel) ⟨Nat.le_of_ble_eq_true rfl, Nat.le_of_ble_eq_true rfl⟩) ⟨pc_blind, va_recv hK hP (ci := 0) (q0 := 13) rfl rfl, fun U hU hW => ⟨rfl, by rw [hU]; exact hP.sub (ws' := [(hB, .inr (0, [.ref h4, .ref h3, .ref l3])), (h4, .inr (4, [.ref a1, .ref a2, .ref a3, .int (nI n), .int (nI sa), .int (nI sv)])), (a1, .inl (cI, 9, .inl fg)), (a2, .inl (cI, 9, .inl fb)), (a3, .inl (cI, 9, .inl fp)), (h3, .inr (3, [.ref b1, .ref b2, .int (nI n), .int (nI c0), .int (nI y)])), (b1, .inl (cJ, 320, .inr (.inl fw)))]) [13, 1, 2, 3, 4, 5, 6] rfl, hKN.warm hW⟩⟩ rfl rfl hl.1 rfl (lv_room (Nat.le_of_ble_eq_true rfl)) dX6_told_96 ⟨(show 0 + 0 ≤ mc by omega), (show 0 + 0 ≤ ms by omega)⟩) hS hP (fun r5 H locs w5r hP hS => ?_)
            have w5 : True := w5r
            clear w5r
            refine W.widen (k := mc) (n := ms) (by omega) (by omega) ?_
            rw [← hQ]
            have hP9 := hP.sub (ws' := [(x0, .inr (6, [.ref h4, .ref h3, .ref h2, .ref h1, .ref hB, .ref h5])), (h4, .inr (4, [.ref a1, .ref a2, .ref a3, .int (nI n), .int (nI sa), .int (nI sv)])), (a1, .inl (cI, 9, .inl fg)), (a2, .inl (cI, 9, .inl fb)), (a3, .inl (cI, 9, .inl fp)), (h3, .inr (3, [.ref b1, .ref b2, .int (nI n), .int (nI c0), .int (nI y)])), (b1, .inl (cJ, 320, .inr (.inl fw))), (h2, .inr (2, [.ref r1, .int (nI q)])), (r1, .inl (cI, 9, .inl qr)), (h1, .inr (1, [.ref h4, .ref h3, .ref h2, .ref p4, .ref p5, .ref p6, .int fr])), (p4, .inl (cI, 9, .inl fq)), (p5, .inl (cJ, len, .inr (.inl eb))), (p6, .inl (cI, len, .inl ew)), (hB, .inr (0, [.ref h4, .ref h3, .ref l3])), (l3, .inl (cI, 512, .inl lp))]) [0, 1, 2, 3, 4, 5, 6, 7, 8, 9, 10, 11, 12, 13, 14] rfl
            have hD9 := hD.sub (ws' := [(x0, .inr (6, [.ref h4, .ref h3, .ref h2, .ref h1, .ref hB, .ref h5])), (h4, .inr (4, [.ref a1, .ref a2, .ref a3, .int (nI n), .int (nI sa), .int (nI sv)])), (a1, .inl (cI, 9, .inl fg)), (a2, .inl (cI, 9, .inl fb)), (a3, .inl (cI, 9, .inl fp)), (h3, .inr (3, [.ref b1, .ref b2, .int (nI n), .int (nI c0), .int (nI y)])), (b1, .inl (cJ, 320, .inr (.inl fw))), (h2, .inr (2, [.ref r1, .int (nI q)])), (r1, .inl (cI, 9, .inl qr)), (h1, .inr (1, [.ref h4, .ref h3, .ref h2, .ref p4, .ref p5, .ref p6, .int fr])), (p4, .inl (cI, 9, .inl fq)), (p5, .inl (cJ, len, .inr (.inl eb))), (p6, .inl (cI, len, .inl ew)), (hB, .inr (0, [.ref h4, .ref h3, .ref l3])), (l3, .inl (cI, 512, .inl lp))]) [0, 1, 2, 3, 4, 5, 6, 7, 8, 9, 10, 11, 12, 13, 14] (by decide) rfl
            exact W.lret (v := r5) hx hb hr (fun tS htS hWS => ⟨⟨r5, (p5, p6, len, fq, eb, ew, fr, lp), rfl, FS.no (KT.out (by rw [e9]; decide)) hfr hlen, m_at htS hP9, hD9⟩, hS.F htS⟩) hS.2.2 dX6_told_99
          · refine cn_i (y := nI 2) e4 ?_
            refine lv_tableIn (tgt := 100) (off := 55) hx hb dX6_told_45 (by decide) (by decide) (by decide) (by decide) ?_
            have e9 := e4
            refine lv_aload_n hx hb dX6_told_100 rfl (lv_at hl 2 rfl) ?_
            refine va_get (D := D) (ci := 6) (v := .ref h1) (C := RX6) (T := TX6) (N := 6) hx hb hts hiX6 hown hK hP 0 rfl rfl 3 (by decide) hf35 (fun _ h9 => h9) rfl dX6_told_101 ?_
            refine lv_iload_n hx hb dX6_told_104 rfl (lv_at hl 1 rfl) ?_
            refine lv_iload_n hx hb dX6_told_105 rfl (lv_at hl 0 rfl) ?_
            have hPc := hP.sub (ws' := [(h1, .inr (1, [.ref h4, .ref h3, .ref h2, .ref p4, .ref p5, .ref p6, .int fr])), (h4, .inr (4, [.ref a1, .ref a2, .ref a3, .int (nI n), .int (nI sa), .int (nI sv)])), (a1, .inl (cI, 9, .inl fg)), (a2, .inl (cI, 9, .inl fb)), (a3, .inl (cI, 9, .inl fp)), (p4, .inl (cI, 9, .inl fq)), (p5, .inl (cJ, len, .inr (.inl eb))), (p6, .inl (cI, len, .inl ew)), (h3, .inr (3, [.ref b1, .ref b2, .int (nI n), .int (nI c0), .int (nI y)])), (b1, .inl (cJ, 320, .inr (.inl fw)))]) [9, 1, 2, 3, 4, 10, 11, 12, 5, 6] rfl
            have hDc := hD.sub (ws' := [(h1, .inr (1, [.ref h4, .ref h3, .ref h2, .ref p4, .ref p5, .ref p6, .int fr])), (h4, .inr (4, [.ref a1, .ref a2, .ref a3, .int (nI n), .int (nI sa), .int (nI sv)])), (a1, .inl (cI, 9, .inl fg)), (a2, .inl (cI, 9, .inl fb)), (a3, .inl (cI, 9, .inl fp)), (p4, .inl (cI, 9, .inl fq)), (p5, .inl (cJ, len, .inr (.inl eb))), (p6, .inl (cI, len, .inl ew)), (h3, .inr (3, [.ref b1, .ref b2, .int (nI n), .int (nI c0), .int (nI y)])), (b1, .inl (cJ, 320, .inr (.inl fw)))]) [9, 1, 2, 3, 4, 10, 11, 12, 5, 6] (by decide) rfl
            have hFc := va_free (wc := [(h1, .inr (1, [.ref h4, .ref h3, .ref h2, .ref p4, .ref p5, .ref p6, .int fr])), (h4, .inr (4, [.ref a1, .ref a2, .ref a3, .int (nI n), .int (nI sa), .int (nI sv)])), (a1, .inl (cI, 9, .inl fg)), (a2, .inl (cI, 9, .inl fb)), (a3, .inl (cI, 9, .inl fp)), (p4, .inl (cI, 9, .inl fq)), (p5, .inl (cJ, len, .inr (.inl eb))), (p6, .inl (cI, len, .inl ew)), (h3, .inr (3, [.ref b1, .ref b2, .int (nI n), .int (nI c0), .int (nI y)])), (b1, .inl (cJ, 320, .inr (.inl fw)))]) hD hS hA [9, 1, 2, 3, 4, 10, 11, 12, 5, 6] rfl
            refine va_calll (va_runV (As := [.int (nI sa), .int (nI sv)]) (rest := []) ⟨hx, hb, hml, hown, hts⟩ (c_X1_bestMean l D cI cJ cZ z3 t3 H.size mc ms h1 h4 h3 h2 p4 p5 p6 a1 a2 a3 n b1 b2 y len (nI n) (nI c0) (nI sa) (nI sv) fr fg fb fp fq eb ew fw sa sv (by first | assumption | omega) (by first | assumption | omega) (by first | assumption | omega) (by first | assumption | omega) (by first | assumption | omega) (by exact fun a b _ => hbud a b (Or.inl e9)) (by first | assumption | omega) (by first | assumption | omega) ((nz3.D hD hzA htA).sub [9, 1, 2, 3, 4, 10, 11, 12, 5, 6] rfl)) (cwV 2 hts gX6_told_X1_bestMean rfl rfl rfl (by decide +kernel) ⟨Nat.le_of_ble_eq_true rfl, Nat.le_of_ble_eq_true rfl⟩) ⟨pnT_blind, va_recv hK hP (ci := 1) (q0 := 9) rfl rfl, fun U hU hW => ⟨rfl, by rw [hU], by rw [hU]; exact hPc, hKN.warm hW, hT0.go hS hzA htA hW hU, hDc.weaken (fun _ _ _ _ => trivial)⟩⟩ rfl rfl hl.1 rfl (lv_room (Nat.le_of_ble_eq_true rfl)) dX6_told_106 ⟨(show 0 + mc ≤ mc by omega), (show 0 + ms ≤ ms by omega)⟩) hS (fun q _ h => hFc q h) hFc (fun r6 u t H1 locs ht hvm hw hB hz1 hk1 hS => ?_)
            obtain ⟨u6_w5, u6_w6, u6_ul, u6_uq, u6_ub, u6_uw⟩ := u
            have w6 : FS fr len n True (nI 1) u6_ul ∧ 3 ^ n ≤ u6_ul := hw
            obtain ⟨hP1, hD1⟩ := hB
            rw [ht] at hP1
            have hP1 : va_P D vwCl [(h1, .inr (1, [.ref h4, .ref h3, .ref h2, .ref p4, .ref u6_w5, .ref u6_w6, .int (nI 1)])), (h4, .inr (4, [.ref a1, .ref a2, .ref a3, .int (nI n), .int (nI sa), .int (nI sv)])), (a1, .inl (cI, 9, .inl fg)), (a2, .inl (cI, 9, .inl fb)), (a3, .inl (cI, 9, .inl fp)), (p4, .inl (cI, 9, .inl u6_uq)), (u6_w5, .inl (cJ, u6_ul, .inr (.inl u6_ub))), (u6_w6, .inl (cI, u6_ul, .inl u6_uw)), (h3, .inr (3, [.ref b1, .ref b2, .int (nI n), .int (nI c0), .int (nI y)])), (b1, .inl (cJ, 320, .inr (.inl fw)))] H1 := hP1
            have hD1 : va_D _ [(h1, .inr (1, [.ref h4, .ref h3, .ref h2, .ref p4, .ref u6_w5, .ref u6_w6, .int (nI 1)])), (h4, .inr (4, [.ref a1, .ref a2, .ref a3, .int (nI n), .int (nI sa), .int (nI sv)])), (a1, .inl (cI, 9, .inl fg)), (a2, .inl (cI, 9, .inl fb)), (a3, .inl (cI, 9, .inl fp)), (p4, .inl (cI, 9, .inl u6_uq)), (u6_w5, .inl (cJ, u6_ul, .inr (.inl u6_ub))), (u6_w6, .inl (cI, u6_ul, .inl u6_uw)), (h3, .inr (3, [.ref b1, .ref b2, .int (nI n), .int (nI c0), .int (nI y)])), (b1, .inl (cJ, 320, .inr (.inl fw)))] := hD1
            obtain ⟨hP, hD⟩ := va_join (wr := [(x0, .inr (6, [.ref h4, .ref h3, .ref h2, .ref h1, .ref hB, .ref h5])), (h2, .inr (2, [.ref r1, .int (nI q)])), (r1, .inl (cI, 9, .inl qr)), (hB, .inr (0, [.ref h4, .ref h3, .ref l3])), (l3, .inl (cI, 512, .inl lp))]) (w1 := [(h1, .inr (1, [.ref h4, .ref h3, .ref h2, .ref p4, .ref u6_w5, .ref u6_w6, .int (nI 1)])), (h4, .inr (4, [.ref a1, .ref a2, .ref a3, .int (nI n), .int (nI sa), .int (nI sv)])), (a1, .inl (cI, 9, .inl fg)), (a2, .inl (cI, 9, .inl fb)), (a3, .inl (cI, 9, .inl fp)), (p4, .inl (cI, 9, .inl u6_uq)), (u6_w5, .inl (cJ, u6_ul, .inr (.inl u6_ub))), (u6_w6, .inl (cI, u6_ul, .inl u6_uw)), (h3, .inr (3, [.ref b1, .ref b2, .int (nI n), .int (nI c0), .int (nI y)])), (b1, .inl (cJ, 320, .inr (.inl fw)))]) hP hD [9, 1, 2, 3, 4, 10, 11, 12, 5, 6] [0, 7, 8, 13, 14] rfl rfl (by decide) (by decide) hk1 hFc hP1 hD1
            generalize H1 = H at hP hS ⊢
            have hP := hP.sub (ws' := [(x0, .inr (6, [.ref h4, .ref h3, .ref h2, .ref h1, .ref hB, .ref h5])), (h4, .inr (4, [.ref a1, .ref a2, .ref a3, .int (nI n), .int (nI sa), .int (nI sv)])), (a1, .inl (cI, 9, .inl fg)), (a2, .inl (cI, 9, .inl fb)), (a3, .inl (cI, 9, .inl fp)), (h3, .inr (3, [.ref b1, .ref b2, .int (nI n), .int (nI c0), .int (nI y)])), (b1, .inl (cJ, 320, .inr (.inl fw))), (h2, .inr (2, [.ref r1, .int (nI q)])), (r1, .inl (cI, 9, .inl qr)), (h1, .inr (1, [.ref h4, .ref h3, .ref h2, .ref p4, .ref u6_w5, .ref u6_w6, .int (nI 1)])), (p4, .inl (cI, 9, .inl u6_uq)), (u6_w5, .inl (cJ, u6_ul, .inr (.inl u6_ub))), (u6_w6, .inl (cI, u6_ul, .inl u6_uw)), (hB, .inr (0, [.ref h4, .ref h3, .ref l3])), (l3, .inl (cI, 512, .inl lp))]) [0, 6, 7, 8, 9, 13, 14, 1, 2, 5, 10, 11, 12, 3, 4] rfl
            have hD := hD.sub (ws' := [(x0, .inr (6, [.ref h4, .ref h3, .ref h2, .ref h1, .ref hB, .ref h5])), (h4, .inr (4, [.ref a1, .ref a2, .ref a3, .int (nI n), .int (nI sa), .int (nI sv)])), (a1, .inl (cI, 9, .inl fg)), (a2, .inl (cI, 9, .inl fb)), (a3, .inl (cI, 9, .inl fp)), (h3, .inr (3, [.ref b1, .ref b2, .int (nI n), .int (nI c0), .int (nI y)])), (b1, .inl (cJ, 320, .inr (.inl fw))), (h2, .inr (2, [.ref r1, .int (nI q)])), (r1, .inl (cI, 9, .inl qr)), (h1, .inr (1, [.ref h4, .ref h3, .ref h2, .ref p4, .ref u6_w5, .ref u6_w6, .int (nI 1)])), (p4, .inl (cI, 9, .inl u6_uq)), (u6_w5, .inl (cJ, u6_ul, .inr (.inl u6_ub))), (u6_w6, .inl (cI, u6_ul, .inl u6_uw)), (hB, .inr (0, [.ref h4, .ref h3, .ref l3])), (l3, .inl (cI, 512, .inl lp))]) [0, 6, 7, 8, 9, 13, 14, 1, 2, 5, 10, 11, 12, 3, 4] (by decide) rfl
            have hP : va_P D vwCl [(x0, .inr (6, [.ref h4, .ref h3, .ref h2, .ref h1, .ref hB, .ref h5])), (h4, .inr (4, [.ref a1, .ref a2, .ref a3, .int (nI n), .int (nI sa), .int (nI sv)])), (a1, .inl (cI, 9, .inl fg)), (a2, .inl (cI, 9, .inl fb)), (a3, .inl (cI, 9, .inl fp)), (h3, .inr (3, [.ref b1, .ref b2, .int (nI n), .int (nI c0), .int (nI y)])), (b1, .inl (cJ, 320, .inr (.inl fw))), (h2, .inr (2, [.ref r1, .int (nI q)])), (r1, .inl (cI, 9, .inl qr)), (h1, .inr (1, [.ref h4, .ref h3, .ref h2, .ref p4, .ref u6_w5, .ref u6_w6, .int (nI 1)])), (p4, .inl (cI, 9, .inl u6_uq)), (u6_w5, .inl (cJ, u6_ul, .inr (.inl u6_ub))), (u6_w6, .inl (cI, u6_ul, .inl u6_uw)), (hB, .inr (0, [.ref h4, .ref h3, .ref l3])), (l3, .inl (cI, 512, .inl lp))] H := hP
            have hD : va_D A [(x0, .inr (6, [.ref h4, .ref h3, .ref h2, .ref h1, .ref hB, .ref h5])), (h4, .inr (4, [.ref a1, .ref a2, .ref a3, .int (nI n), .int (nI sa), .int (nI sv)])), (a1, .inl (cI, 9, .inl fg)), (a2, .inl (cI, 9, .inl fb)), (a3, .inl (cI, 9, .inl fp)), (h3, .inr (3, [.ref b1, .ref b2, .int (nI n), .int (nI c0), .int (nI y)])), (b1, .inl (cJ, 320, .inr (.inl fw))), (h2, .inr (2, [.ref r1, .int (nI q)])), (r1, .inl (cI, 9, .inl qr)), (h1, .inr (1, [.ref h4, .ref h3, .ref h2, .ref p4, .ref u6_w5, .ref u6_w6, .int (nI 1)])), (p4, .inl (cI, 9, .inl u6_uq)), (u6_w5, .inl (cJ, u6_ul, .inr (.inl u6_ub))), (u6_w6, .inl (cI, u6_ul, .inl u6_uw)), (hB, .inr (0, [.ref h4, .ref h3, .ref l3])), (l3, .inl (cI, 512, .inl lp))] := hD
            refine W.widen (k := mc) (n := ms) (by omega) (by omega) ?_
            refine W.widen (k := mc) (n := ms) (by omega) (by omega) ?_
            rw [← hQ]
            have hP9 := hP.sub (ws' := [(x0, .inr (6, [.ref h4, .ref h3, .ref h2, .ref h1, .ref hB, .ref h5])), (h4, .inr (4, [.ref a1, .ref a2, .ref a3, .int (nI n), .int (nI sa), .int (nI sv)])), (a1, .inl (cI, 9, .inl fg)), (a2, .inl (cI, 9, .inl fb)), (a3, .inl (cI, 9, .inl fp)), (h3, .inr (3, [.ref b1, .ref b2, .int (nI n), .int (nI c0), .int (nI y)])), (b1, .inl (cJ, 320, .inr (.inl fw))), (h2, .inr (2, [.ref r1, .int (nI q)])), (r1, .inl (cI, 9, .inl qr)), (h1, .inr (1, [.ref h4, .ref h3, .ref h2, .ref p4, .ref u6_w5, .ref u6_w6, .int (nI 1)])), (p4, .inl (cI, 9, .inl u6_uq)), (u6_w5, .inl (cJ, u6_ul, .inr (.inl u6_ub))), (u6_w6, .inl (cI, u6_ul, .inl u6_uw)), (hB, .inr (0, [.ref h4, .ref h3, .ref l3])), (l3, .inl (cI, 512, .inl lp))]) [0, 1, 2, 3, 4, 5, 6, 7, 8, 9, 10, 11, 12, 13, 14] rfl
            have hD9 := hD.sub (ws' := [(x0, .inr (6, [.ref h4, .ref h3, .ref h2, .ref h1, .ref hB, .ref h5])), (h4, .inr (4, [.ref a1, .ref a2, .ref a3, .int (nI n), .int (nI sa), .int (nI sv)])), (a1, .inl (cI, 9, .inl fg)), (a2, .inl (cI, 9, .inl fb)), (a3, .inl (cI, 9, .inl fp)), (h3, .inr (3, [.ref b1, .ref b2, .int (nI n), .int (nI c0), .int (nI y)])), (b1, .inl (cJ, 320, .inr (.inl fw))), (h2, .inr (2, [.ref r1, .int (nI q)])), (r1, .inl (cI, 9, .inl qr)), (h1, .inr (1, [.ref h4, .ref h3, .ref h2, .ref p4, .ref u6_w5, .ref u6_w6, .int (nI 1)])), (p4, .inl (cI, 9, .inl u6_uq)), (u6_w5, .inl (cJ, u6_ul, .inr (.inl u6_ub))), (u6_w6, .inl (cI, u6_ul, .inl u6_uw)), (hB, .inr (0, [.ref h4, .ref h3, .ref l3])), (l3, .inl (cI, 512, .inl lp))]) [0, 1, 2, 3, 4, 5, 6, 7, 8, 9, 10, 11, 12, 13, 14] (by decide) rfl
            exact W.lret (v := r6) hx hb hr (fun tS htS hWS => ⟨⟨r6, (u6_w5, u6_w6, u6_ul, u6_uq, u6_ub, u6_uw, nI 1, lp), rfl, FS.mono (Or.inl e9) w6.1, m_at htS hP9, hD9⟩, hS.F htS⟩) hS.2.2 dX6_told_109
          · refine cn_i (y := nI 3) e4 ?_
            refine lv_tableIn (tgt := 110) (off := 65) hx hb dX6_told_45 (by decide) (by decide) (by decide) (by decide) ?_
            have e9 := e4
            refine lv_aload_n hx hb dX6_told_110 rfl (lv_at hl 2 rfl) ?_
            refine va_get (D := D) (ci := 6) (v := .ref h1) (C := RX6) (T := TX6) (N := 6) hx hb hts hiX6 hown hK hP 0 rfl rfl 3 (by decide) hf35 (fun _ h9 => h9) rfl dX6_told_111 ?_
            refine lv_iconst (v := nI 0) hx hb dX6_told_114 (by decide) ?_
            refine lv_iload_n hx hb dX6_told_115 rfl (lv_at hl 1 rfl) ?_
            refine lv_iload_n hx hb dX6_told_116 rfl (lv_at hl 0 rfl) ?_
            have hPc := hP.sub (ws' := [(h1, .inr (1, [.ref h4, .ref h3, .ref h2, .ref p4, .ref p5, .ref p6, .int fr])), (h4, .inr (4, [.ref a1, .ref a2, .ref a3, .int (nI n), .int (nI sa), .int (nI sv)])), (a1, .inl (cI, 9, .inl fg)), (a2, .inl (cI, 9, .inl fb)), (a3, .inl (cI, 9, .inl fp)), (p4, .inl (cI, 9, .inl fq)), (p5, .inl (cJ, len, .inr (.inl eb))), (p6, .inl (cI, len, .inl ew)), (h3, .inr (3, [.ref b1, .ref b2, .int (nI n), .int (nI c0), .int (nI y)])), (b1, .inl (cJ, 320, .inr (.inl fw)))]) [9, 1, 2, 3, 4, 10, 11, 12, 5, 6] rfl
            have hDc := hD.sub (ws' := [(h1, .inr (1, [.ref h4, .ref h3, .ref h2, .ref p4, .ref p5, .ref p6, .int fr])), (h4, .inr (4, [.ref a1, .ref a2, .ref a3, .int (nI n), .int (nI sa), .int (nI sv)])), (a1, .inl (cI, 9, .inl fg)), (a2, .inl (cI, 9, .inl fb)), (a3, .inl (cI, 9, .inl fp)), (p4, .inl (cI, 9, .inl fq)), (p5, .inl (cJ, len, .inr (.inl eb))), (p6, .inl (cI, len, .inl ew)), (h3, .inr (3, [.ref b1, .ref b2, .int (nI n), .int (nI c0), .int (nI y)])), (b1, .inl (cJ, 320, .inr (.inl fw)))]) [9, 1, 2, 3, 4, 10, 11, 12, 5, 6] (by decide) rfl
            have hFc := va_free (wc := [(h1, .inr (1, [.ref h4, .ref h3, .ref h2, .ref p4, .ref p5, .ref p6, .int fr])), (h4, .inr (4, [.ref a1, .ref a2, .ref a3, .int (nI n), .int (nI sa), .int (nI sv)])), (a1, .inl (cI, 9, .inl fg)), (a2, .inl (cI, 9, .inl fb)), (a3, .inl (cI, 9, .inl fp)), (p4, .inl (cI, 9, .inl fq)), (p5, .inl (cJ, len, .inr (.inl eb))), (p6, .inl (cI, len, .inl ew)), (h3, .inr (3, [.ref b1, .ref b2, .int (nI n), .int (nI c0), .int (nI y)])), (b1, .inl (cJ, 320, .inr (.inl fw)))]) hD hS hA [9, 1, 2, 3, 4, 10, 11, 12, 5, 6] rfl
            refine va_calli (va_runV (As := [.int (nI 0), .int (nI sa), .int (nI sv)]) (rest := []) ⟨hx, hb, hml, hown, hts⟩ (c_X1_next_g l D cI cJ cZ z3 t3 H.size mc ms h1 h4 h3 h2 p4 p5 p6 a1 a2 a3 n b1 b2 y len (nI n) (nI c0) (nI sa) (nI sv) fr fg fb fp fq eb ew fw sa sv 0 (by first | assumption | omega) (by first | assumption | omega) (by first | assumption | omega) (by first | assumption | omega) (by first | assumption | omega) (by exact fun a b g => hbud a b (Or.inr (Or.inr ⟨Or.inl e9, g⟩))) (by first | assumption | omega) (by first | assumption | omega) (by first | assumption | omega) ((nz3.D hD hzA htA).sub [9, 1, 2, 3, 4, 10, 11, 12, 5, 6] rfl)) (cwV 3 hts gX6_told_X1_next rfl rfl rfl (by decide +kernel) ⟨Nat.le_of_ble_eq_true rfl, Nat.le_of_ble_eq_true rfl⟩) ⟨pnT_blind, va_recv hK hP (ci := 1) (q0 := 9) rfl rfl, fun U hU hW => ⟨rfl, by rw [hU], by rw [hU]; exact hPc, hKN.warm hW, hT0.go hS hzA htA hW hU, hDc.weaken (fun _ _ _ _ => trivial)⟩⟩ rfl rfl hl.1 rfl (lv_room (Nat.le_of_ble_eq_true rfl)) dX6_told_117 ⟨(show 0 + mc ≤ mc by omega), (show 0 + ms ≤ ms by omega)⟩) hS (fun q _ h => hFc q h) hFc (fun r7 u t H1 locs ht hvm hw hB hz1 hk1 hS => ?_)
            obtain ⟨u7_w5, u7_w6, u7_ul, u7_uq, u7_ub, u7_uw, u7_uf⟩ := u
            have w7 : (r7 = -1 ∧ FS fr len n (NV fw y sv ((2 ^ n - 1) ^^^ sa)) u7_uf u7_ul) ∨ (∃ x, x < n ∧ r7 = nI x ∧ sa / 2 ^ x % 2 = 0 ∧ u7_uf = nI 1 ∧ FS fr len n (NV fw y sv ((2 ^ n - 1) ^^^ sa)) (nI 1) u7_ul) := hw
            obtain ⟨hP1, hD1⟩ := hB
            rw [ht] at hP1
            have hP1 : va_P D vwCl [(h1, .inr (1, [.ref h4, .ref h3, .ref h2, .ref p4, .ref u7_w5, .ref u7_w6, .int u7_uf])), (h4, .inr (4, [.ref a1, .ref a2, .ref a3, .int (nI n), .int (nI sa), .int (nI sv)])), (a1, .inl (cI, 9, .inl fg)), (a2, .inl (cI, 9, .inl fb)), (a3, .inl (cI, 9, .inl fp)), (p4, .inl (cI, 9, .inl u7_uq)), (u7_w5, .inl (cJ, u7_ul, .inr (.inl u7_ub))), (u7_w6, .inl (cI, u7_ul, .inl u7_uw)), (h3, .inr (3, [.ref b1, .ref b2, .int (nI n), .int (nI c0), .int (nI y)])), (b1, .inl (cJ, 320, .inr (.inl fw)))] H1 := hP1
            have hD1 : va_D _ [(h1, .inr (1, [.ref h4, .ref h3, .ref h2, .ref p4, .ref u7_w5, .ref u7_w6, .int u7_uf])), (h4, .inr (4, [.ref a1, .ref a2, .ref a3, .int (nI n), .int (nI sa), .int (nI sv)])), (a1, .inl (cI, 9, .inl fg)), (a2, .inl (cI, 9, .inl fb)), (a3, .inl (cI, 9, .inl fp)), (p4, .inl (cI, 9, .inl u7_uq)), (u7_w5, .inl (cJ, u7_ul, .inr (.inl u7_ub))), (u7_w6, .inl (cI, u7_ul, .inl u7_uw)), (h3, .inr (3, [.ref b1, .ref b2, .int (nI n), .int (nI c0), .int (nI y)])), (b1, .inl (cJ, 320, .inr (.inl fw)))] := hD1
            obtain ⟨hP, hD⟩ := va_join (wr := [(x0, .inr (6, [.ref h4, .ref h3, .ref h2, .ref h1, .ref hB, .ref h5])), (h2, .inr (2, [.ref r1, .int (nI q)])), (r1, .inl (cI, 9, .inl qr)), (hB, .inr (0, [.ref h4, .ref h3, .ref l3])), (l3, .inl (cI, 512, .inl lp))]) (w1 := [(h1, .inr (1, [.ref h4, .ref h3, .ref h2, .ref p4, .ref u7_w5, .ref u7_w6, .int u7_uf])), (h4, .inr (4, [.ref a1, .ref a2, .ref a3, .int (nI n), .int (nI sa), .int (nI sv)])), (a1, .inl (cI, 9, .inl fg)), (a2, .inl (cI, 9, .inl fb)), (a3, .inl (cI, 9, .inl fp)), (p4, .inl (cI, 9, .inl u7_uq)), (u7_w5, .inl (cJ, u7_ul, .inr (.inl u7_ub))), (u7_w6, .inl (cI, u7_ul, .inl u7_uw)), (h3, .inr (3, [.ref b1, .ref b2, .int (nI n), .int (nI c0), .int (nI y)])), (b1, .inl (cJ, 320, .inr (.inl fw)))]) hP hD [9, 1, 2, 3, 4, 10, 11, 12, 5, 6] [0, 7, 8, 13, 14] rfl rfl (by decide) (by decide) hk1 hFc hP1 hD1
            generalize H1 = H at hP hS ⊢
            have hP := hP.sub (ws' := [(x0, .inr (6, [.ref h4, .ref h3, .ref h2, .ref h1, .ref hB, .ref h5])), (h4, .inr (4, [.ref a1, .ref a2, .ref a3, .int (nI n), .int (nI sa), .int (nI sv)])), (a1, .inl (cI, 9, .inl fg)), (a2, .inl (cI, 9, .inl fb)), (a3, .inl (cI, 9, .inl fp)), (h3, .inr (3, [.ref b1, .ref b2, .int (nI n), .int (nI c0), .int (nI y)])), (b1, .inl (cJ, 320, .inr (.inl fw))), (h2, .inr (2, [.ref r1, .int (nI q)])), (r1, .inl (cI, 9, .inl qr)), (h1, .inr (1, [.ref h4, .ref h3, .ref h2, .ref p4, .ref u7_w5, .ref u7_w6, .int u7_uf])), (p4, .inl (cI, 9, .inl u7_uq)), (u7_w5, .inl (cJ, u7_ul, .inr (.inl u7_ub))), (u7_w6, .inl (cI, u7_ul, .inl u7_uw)), (hB, .inr (0, [.ref h4, .ref h3, .ref l3])), (l3, .inl (cI, 512, .inl lp))]) [0, 6, 7, 8, 9, 13, 14, 1, 2, 5, 10, 11, 12, 3, 4] rfl
            have hD := hD.sub (ws' := [(x0, .inr (6, [.ref h4, .ref h3, .ref h2, .ref h1, .ref hB, .ref h5])), (h4, .inr (4, [.ref a1, .ref a2, .ref a3, .int (nI n), .int (nI sa), .int (nI sv)])), (a1, .inl (cI, 9, .inl fg)), (a2, .inl (cI, 9, .inl fb)), (a3, .inl (cI, 9, .inl fp)), (h3, .inr (3, [.ref b1, .ref b2, .int (nI n), .int (nI c0), .int (nI y)])), (b1, .inl (cJ, 320, .inr (.inl fw))), (h2, .inr (2, [.ref r1, .int (nI q)])), (r1, .inl (cI, 9, .inl qr)), (h1, .inr (1, [.ref h4, .ref h3, .ref h2, .ref p4, .ref u7_w5, .ref u7_w6, .int u7_uf])), (p4, .inl (cI, 9, .inl u7_uq)), (u7_w5, .inl (cJ, u7_ul, .inr (.inl u7_ub))), (u7_w6, .inl (cI, u7_ul, .inl u7_uw)), (hB, .inr (0, [.ref h4, .ref h3, .ref l3])), (l3, .inl (cI, 512, .inl lp))]) [0, 6, 7, 8, 9, 13, 14, 1, 2, 5, 10, 11, 12, 3, 4] (by decide) rfl
            have hP : va_P D vwCl [(x0, .inr (6, [.ref h4, .ref h3, .ref h2, .ref h1, .ref hB, .ref h5])), (h4, .inr (4, [.ref a1, .ref a2, .ref a3, .int (nI n), .int (nI sa), .int (nI sv)])), (a1, .inl (cI, 9, .inl fg)), (a2, .inl (cI, 9, .inl fb)), (a3, .inl (cI, 9, .inl fp)), (h3, .inr (3, [.ref b1, .ref b2, .int (nI n), .int (nI c0), .int (nI y)])), (b1, .inl (cJ, 320, .inr (.inl fw))), (h2, .inr (2, [.ref r1, .int (nI q)])), (r1, .inl (cI, 9, .inl qr)), (h1, .inr (1, [.ref h4, .ref h3, .ref h2, .ref p4, .ref u7_w5, .ref u7_w6, .int u7_uf])), (p4, .inl (cI, 9, .inl u7_uq)), (u7_w5, .inl (cJ, u7_ul, .inr (.inl u7_ub))), (u7_w6, .inl (cI, u7_ul, .inl u7_uw)), (hB, .inr (0, [.ref h4, .ref h3, .ref l3])), (l3, .inl (cI, 512, .inl lp))] H := hP
            have hD : va_D A [(x0, .inr (6, [.ref h4, .ref h3, .ref h2, .ref h1, .ref hB, .ref h5])), (h4, .inr (4, [.ref a1, .ref a2, .ref a3, .int (nI n), .int (nI sa), .int (nI sv)])), (a1, .inl (cI, 9, .inl fg)), (a2, .inl (cI, 9, .inl fb)), (a3, .inl (cI, 9, .inl fp)), (h3, .inr (3, [.ref b1, .ref b2, .int (nI n), .int (nI c0), .int (nI y)])), (b1, .inl (cJ, 320, .inr (.inl fw))), (h2, .inr (2, [.ref r1, .int (nI q)])), (r1, .inl (cI, 9, .inl qr)), (h1, .inr (1, [.ref h4, .ref h3, .ref h2, .ref p4, .ref u7_w5, .ref u7_w6, .int u7_uf])), (p4, .inl (cI, 9, .inl u7_uq)), (u7_w5, .inl (cJ, u7_ul, .inr (.inl u7_ub))), (u7_w6, .inl (cI, u7_ul, .inl u7_uw)), (hB, .inr (0, [.ref h4, .ref h3, .ref l3])), (l3, .inl (cI, 512, .inl lp))] := hD
            refine W.widen (k := mc) (n := ms) (by omega) (by omega) ?_
            refine lv_i2l hx hb dX6_told_120 rfl ?_
            refine W.widen (k := mc) (n := ms) (by omega) (by omega) ?_
            rw [← hQ]
            have hP9 := hP.sub (ws' := [(x0, .inr (6, [.ref h4, .ref h3, .ref h2, .ref h1, .ref hB, .ref h5])), (h4, .inr (4, [.ref a1, .ref a2, .ref a3, .int (nI n), .int (nI sa), .int (nI sv)])), (a1, .inl (cI, 9, .inl fg)), (a2, .inl (cI, 9, .inl fb)), (a3, .inl (cI, 9, .inl fp)), (h3, .inr (3, [.ref b1, .ref b2, .int (nI n), .int (nI c0), .int (nI y)])), (b1, .inl (cJ, 320, .inr (.inl fw))), (h2, .inr (2, [.ref r1, .int (nI q)])), (r1, .inl (cI, 9, .inl qr)), (h1, .inr (1, [.ref h4, .ref h3, .ref h2, .ref p4, .ref u7_w5, .ref u7_w6, .int u7_uf])), (p4, .inl (cI, 9, .inl u7_uq)), (u7_w5, .inl (cJ, u7_ul, .inr (.inl u7_ub))), (u7_w6, .inl (cI, u7_ul, .inl u7_uw)), (hB, .inr (0, [.ref h4, .ref h3, .ref l3])), (l3, .inl (cI, 512, .inl lp))]) [0, 1, 2, 3, 4, 5, 6, 7, 8, 9, 10, 11, 12, 13, 14] rfl
            have hD9 := hD.sub (ws' := [(x0, .inr (6, [.ref h4, .ref h3, .ref h2, .ref h1, .ref hB, .ref h5])), (h4, .inr (4, [.ref a1, .ref a2, .ref a3, .int (nI n), .int (nI sa), .int (nI sv)])), (a1, .inl (cI, 9, .inl fg)), (a2, .inl (cI, 9, .inl fb)), (a3, .inl (cI, 9, .inl fp)), (h3, .inr (3, [.ref b1, .ref b2, .int (nI n), .int (nI c0), .int (nI y)])), (b1, .inl (cJ, 320, .inr (.inl fw))), (h2, .inr (2, [.ref r1, .int (nI q)])), (r1, .inl (cI, 9, .inl qr)), (h1, .inr (1, [.ref h4, .ref h3, .ref h2, .ref p4, .ref u7_w5, .ref u7_w6, .int u7_uf])), (p4, .inl (cI, 9, .inl u7_uq)), (u7_w5, .inl (cJ, u7_ul, .inr (.inl u7_ub))), (u7_w6, .inl (cI, u7_ul, .inl u7_uw)), (hB, .inr (0, [.ref h4, .ref h3, .ref l3])), (l3, .inl (cI, 512, .inl lp))]) [0, 1, 2, 3, 4, 5, 6, 7, 8, 9, 10, 11, 12, 13, 14] (by decide) rfl
            exact W.lret (v := r7.toInt64) hx hb hr (fun tS htS hWS => ⟨⟨r7.toInt64, (u7_w5, u7_w6, u7_ul, u7_uq, u7_ub, u7_uw, u7_uf, lp), rfl, FS.iff (KT.i3 (Or.inl e9)) (by rcases w7 with ⟨_, h⟩ | ⟨x, _, _, _, e, h⟩; exact h; exact (by rw [e]; exact h)), m_at htS hP9, hD9⟩, hS.F htS⟩) hS.2.2 dX6_told_121
          · refine cn_i (y := nI 4) e4 ?_
            refine lv_tableIn (tgt := 122) (off := 77) hx hb dX6_told_45 (by decide) (by decide) (by decide) (by decide) ?_
            have e9 := e4
            refine lv_aload_n hx hb dX6_told_122 rfl (lv_at hl 2 rfl) ?_
            refine va_get (D := D) (ci := 6) (v := .ref h1) (C := RX6) (T := TX6) (N := 6) hx hb hts hiX6 hown hK hP 0 rfl rfl 3 (by decide) hf35 (fun _ h9 => h9) rfl dX6_told_123 ?_
            refine lv_iload_n hx hb dX6_told_126 rfl (lv_at hl 1 rfl) ?_
            refine lv_iload_n hx hb dX6_told_127 rfl (lv_at hl 0 rfl) ?_
            have hPc := hP.sub (ws' := [(h1, .inr (1, [.ref h4, .ref h3, .ref h2, .ref p4, .ref p5, .ref p6, .int fr])), (h4, .inr (4, [.ref a1, .ref a2, .ref a3, .int (nI n), .int (nI sa), .int (nI sv)])), (a1, .inl (cI, 9, .inl fg)), (a2, .inl (cI, 9, .inl fb)), (a3, .inl (cI, 9, .inl fp)), (p4, .inl (cI, 9, .inl fq)), (p5, .inl (cJ, len, .inr (.inl eb))), (p6, .inl (cI, len, .inl ew)), (h3, .inr (3, [.ref b1, .ref b2, .int (nI n), .int (nI c0), .int (nI y)])), (b1, .inl (cJ, 320, .inr (.inl fw)))]) [9, 1, 2, 3, 4, 10, 11, 12, 5, 6] rfl
            have hDc := hD.sub (ws' := [(h1, .inr (1, [.ref h4, .ref h3, .ref h2, .ref p4, .ref p5, .ref p6, .int fr])), (h4, .inr (4, [.ref a1, .ref a2, .ref a3, .int (nI n), .int (nI sa), .int (nI sv)])), (a1, .inl (cI, 9, .inl fg)), (a2, .inl (cI, 9, .inl fb)), (a3, .inl (cI, 9, .inl fp)), (p4, .inl (cI, 9, .inl fq)), (p5, .inl (cJ, len, .inr (.inl eb))), (p6, .inl (cI, len, .inl ew)), (h3, .inr (3, [.ref b1, .ref b2, .int (nI n), .int (nI c0), .int (nI y)])), (b1, .inl (cJ, 320, .inr (.inl fw)))]) [9, 1, 2, 3, 4, 10, 11, 12, 5, 6] (by decide) rfl
            have hFc := va_free (wc := [(h1, .inr (1, [.ref h4, .ref h3, .ref h2, .ref p4, .ref p5, .ref p6, .int fr])), (h4, .inr (4, [.ref a1, .ref a2, .ref a3, .int (nI n), .int (nI sa), .int (nI sv)])), (a1, .inl (cI, 9, .inl fg)), (a2, .inl (cI, 9, .inl fb)), (a3, .inl (cI, 9, .inl fp)), (p4, .inl (cI, 9, .inl fq)), (p5, .inl (cJ, len, .inr (.inl eb))), (p6, .inl (cI, len, .inl ew)), (h3, .inr (3, [.ref b1, .ref b2, .int (nI n), .int (nI c0), .int (nI y)])), (b1, .inl (cJ, 320, .inr (.inl fw)))]) hD hS hA [9, 1, 2, 3, 4, 10, 11, 12, 5, 6] rfl
            refine va_calli (va_runV (As := [.int (nI sa), .int (nI sv)]) (rest := []) ⟨hx, hb, hml, hown, hts⟩ (c_X1_worstPrice l D cI cJ cZ z3 t3 H.size mc ms h1 h4 h3 h2 p4 p5 p6 a1 a2 a3 n b1 b2 y len (nI n) (nI c0) (nI sa) (nI sv) fr fg fb fp fq eb ew fw sa sv (by first | assumption | omega) (by first | assumption | omega) (by first | assumption | omega) (by first | assumption | omega) (by first | assumption | omega) (by exact fun a b _ => hbud a b (Or.inr (Or.inl e9))) (by first | assumption | omega) (by first | assumption | omega) ((nz3.D hD hzA htA).sub [9, 1, 2, 3, 4, 10, 11, 12, 5, 6] rfl)) (cwV 2 hts gX6_told_X1_worstPrice rfl rfl rfl (by decide +kernel) ⟨Nat.le_of_ble_eq_true rfl, Nat.le_of_ble_eq_true rfl⟩) ⟨pnT_blind, va_recv hK hP (ci := 1) (q0 := 9) rfl rfl, fun U hU hW => ⟨rfl, by rw [hU], by rw [hU]; exact hPc, hKN.warm hW, hT0.go hS hzA htA hW hU, hDc.weaken (fun _ _ _ _ => trivial)⟩⟩ rfl rfl hl.1 rfl (lv_room (Nat.le_of_ble_eq_true rfl)) dX6_told_128 ⟨(show 0 + mc ≤ mc by omega), (show 0 + ms ≤ ms by omega)⟩) hS (fun q _ h => hFc q h) hFc (fun r8 u t H1 locs ht hvm hw hB hz1 hk1 hS => ?_)
            obtain ⟨u8_w5, u8_w6, u8_ul, u8_uq, u8_ub, u8_uw⟩ := u
            have w8 : FS fr len n True (nI 1) u8_ul ∧ 3 ^ n ≤ u8_ul := hw
            obtain ⟨hP1, hD1⟩ := hB
            rw [ht] at hP1
            have hP1 : va_P D vwCl [(h1, .inr (1, [.ref h4, .ref h3, .ref h2, .ref p4, .ref u8_w5, .ref u8_w6, .int (nI 1)])), (h4, .inr (4, [.ref a1, .ref a2, .ref a3, .int (nI n), .int (nI sa), .int (nI sv)])), (a1, .inl (cI, 9, .inl fg)), (a2, .inl (cI, 9, .inl fb)), (a3, .inl (cI, 9, .inl fp)), (p4, .inl (cI, 9, .inl u8_uq)), (u8_w5, .inl (cJ, u8_ul, .inr (.inl u8_ub))), (u8_w6, .inl (cI, u8_ul, .inl u8_uw)), (h3, .inr (3, [.ref b1, .ref b2, .int (nI n), .int (nI c0), .int (nI y)])), (b1, .inl (cJ, 320, .inr (.inl fw)))] H1 := hP1
            have hD1 : va_D _ [(h1, .inr (1, [.ref h4, .ref h3, .ref h2, .ref p4, .ref u8_w5, .ref u8_w6, .int (nI 1)])), (h4, .inr (4, [.ref a1, .ref a2, .ref a3, .int (nI n), .int (nI sa), .int (nI sv)])), (a1, .inl (cI, 9, .inl fg)), (a2, .inl (cI, 9, .inl fb)), (a3, .inl (cI, 9, .inl fp)), (p4, .inl (cI, 9, .inl u8_uq)), (u8_w5, .inl (cJ, u8_ul, .inr (.inl u8_ub))), (u8_w6, .inl (cI, u8_ul, .inl u8_uw)), (h3, .inr (3, [.ref b1, .ref b2, .int (nI n), .int (nI c0), .int (nI y)])), (b1, .inl (cJ, 320, .inr (.inl fw)))] := hD1
            obtain ⟨hP, hD⟩ := va_join (wr := [(x0, .inr (6, [.ref h4, .ref h3, .ref h2, .ref h1, .ref hB, .ref h5])), (h2, .inr (2, [.ref r1, .int (nI q)])), (r1, .inl (cI, 9, .inl qr)), (hB, .inr (0, [.ref h4, .ref h3, .ref l3])), (l3, .inl (cI, 512, .inl lp))]) (w1 := [(h1, .inr (1, [.ref h4, .ref h3, .ref h2, .ref p4, .ref u8_w5, .ref u8_w6, .int (nI 1)])), (h4, .inr (4, [.ref a1, .ref a2, .ref a3, .int (nI n), .int (nI sa), .int (nI sv)])), (a1, .inl (cI, 9, .inl fg)), (a2, .inl (cI, 9, .inl fb)), (a3, .inl (cI, 9, .inl fp)), (p4, .inl (cI, 9, .inl u8_uq)), (u8_w5, .inl (cJ, u8_ul, .inr (.inl u8_ub))), (u8_w6, .inl (cI, u8_ul, .inl u8_uw)), (h3, .inr (3, [.ref b1, .ref b2, .int (nI n), .int (nI c0), .int (nI y)])), (b1, .inl (cJ, 320, .inr (.inl fw)))]) hP hD [9, 1, 2, 3, 4, 10, 11, 12, 5, 6] [0, 7, 8, 13, 14] rfl rfl (by decide) (by decide) hk1 hFc hP1 hD1
            generalize H1 = H at hP hS ⊢
            have hP := hP.sub (ws' := [(x0, .inr (6, [.ref h4, .ref h3, .ref h2, .ref h1, .ref hB, .ref h5])), (h4, .inr (4, [.ref a1, .ref a2, .ref a3, .int (nI n), .int (nI sa), .int (nI sv)])), (a1, .inl (cI, 9, .inl fg)), (a2, .inl (cI, 9, .inl fb)), (a3, .inl (cI, 9, .inl fp)), (h3, .inr (3, [.ref b1, .ref b2, .int (nI n), .int (nI c0), .int (nI y)])), (b1, .inl (cJ, 320, .inr (.inl fw))), (h2, .inr (2, [.ref r1, .int (nI q)])), (r1, .inl (cI, 9, .inl qr)), (h1, .inr (1, [.ref h4, .ref h3, .ref h2, .ref p4, .ref u8_w5, .ref u8_w6, .int (nI 1)])), (p4, .inl (cI, 9, .inl u8_uq)), (u8_w5, .inl (cJ, u8_ul, .inr (.inl u8_ub))), (u8_w6, .inl (cI, u8_ul, .inl u8_uw)), (hB, .inr (0, [.ref h4, .ref h3, .ref l3])), (l3, .inl (cI, 512, .inl lp))]) [0, 6, 7, 8, 9, 13, 14, 1, 2, 5, 10, 11, 12, 3, 4] rfl
            have hD := hD.sub (ws' := [(x0, .inr (6, [.ref h4, .ref h3, .ref h2, .ref h1, .ref hB, .ref h5])), (h4, .inr (4, [.ref a1, .ref a2, .ref a3, .int (nI n), .int (nI sa), .int (nI sv)])), (a1, .inl (cI, 9, .inl fg)), (a2, .inl (cI, 9, .inl fb)), (a3, .inl (cI, 9, .inl fp)), (h3, .inr (3, [.ref b1, .ref b2, .int (nI n), .int (nI c0), .int (nI y)])), (b1, .inl (cJ, 320, .inr (.inl fw))), (h2, .inr (2, [.ref r1, .int (nI q)])), (r1, .inl (cI, 9, .inl qr)), (h1, .inr (1, [.ref h4, .ref h3, .ref h2, .ref p4, .ref u8_w5, .ref u8_w6, .int (nI 1)])), (p4, .inl (cI, 9, .inl u8_uq)), (u8_w5, .inl (cJ, u8_ul, .inr (.inl u8_ub))), (u8_w6, .inl (cI, u8_ul, .inl u8_uw)), (hB, .inr (0, [.ref h4, .ref h3, .ref l3])), (l3, .inl (cI, 512, .inl lp))]) [0, 6, 7, 8, 9, 13, 14, 1, 2, 5, 10, 11, 12, 3, 4] (by decide) rfl
            have hP : va_P D vwCl [(x0, .inr (6, [.ref h4, .ref h3, .ref h2, .ref h1, .ref hB, .ref h5])), (h4, .inr (4, [.ref a1, .ref a2, .ref a3, .int (nI n), .int (nI sa), .int (nI sv)])), (a1, .inl (cI, 9, .inl fg)), (a2, .inl (cI, 9, .inl fb)), (a3, .inl (cI, 9, .inl fp)), (h3, .inr (3, [.ref b1, .ref b2, .int (nI n), .int (nI c0), .int (nI y)])), (b1, .inl (cJ, 320, .inr (.inl fw))), (h2, .inr (2, [.ref r1, .int (nI q)])), (r1, .inl (cI, 9, .inl qr)), (h1, .inr (1, [.ref h4, .ref h3, .ref h2, .ref p4, .ref u8_w5, .ref u8_w6, .int (nI 1)])), (p4, .inl (cI, 9, .inl u8_uq)), (u8_w5, .inl (cJ, u8_ul, .inr (.inl u8_ub))), (u8_w6, .inl (cI, u8_ul, .inl u8_uw)), (hB, .inr (0, [.ref h4, .ref h3, .ref l3])), (l3, .inl (cI, 512, .inl lp))] H := hP
            have hD : va_D A [(x0, .inr (6, [.ref h4, .ref h3, .ref h2, .ref h1, .ref hB, .ref h5])), (h4, .inr (4, [.ref a1, .ref a2, .ref a3, .int (nI n), .int (nI sa), .int (nI sv)])), (a1, .inl (cI, 9, .inl fg)), (a2, .inl (cI, 9, .inl fb)), (a3, .inl (cI, 9, .inl fp)), (h3, .inr (3, [.ref b1, .ref b2, .int (nI n), .int (nI c0), .int (nI y)])), (b1, .inl (cJ, 320, .inr (.inl fw))), (h2, .inr (2, [.ref r1, .int (nI q)])), (r1, .inl (cI, 9, .inl qr)), (h1, .inr (1, [.ref h4, .ref h3, .ref h2, .ref p4, .ref u8_w5, .ref u8_w6, .int (nI 1)])), (p4, .inl (cI, 9, .inl u8_uq)), (u8_w5, .inl (cJ, u8_ul, .inr (.inl u8_ub))), (u8_w6, .inl (cI, u8_ul, .inl u8_uw)), (hB, .inr (0, [.ref h4, .ref h3, .ref l3])), (l3, .inl (cI, 512, .inl lp))] := hD
            refine W.widen (k := mc) (n := ms) (by omega) (by omega) ?_
            refine lv_i2l hx hb dX6_told_131 rfl ?_
            refine W.widen (k := mc) (n := ms) (by omega) (by omega) ?_
            rw [← hQ]
            have hP9 := hP.sub (ws' := [(x0, .inr (6, [.ref h4, .ref h3, .ref h2, .ref h1, .ref hB, .ref h5])), (h4, .inr (4, [.ref a1, .ref a2, .ref a3, .int (nI n), .int (nI sa), .int (nI sv)])), (a1, .inl (cI, 9, .inl fg)), (a2, .inl (cI, 9, .inl fb)), (a3, .inl (cI, 9, .inl fp)), (h3, .inr (3, [.ref b1, .ref b2, .int (nI n), .int (nI c0), .int (nI y)])), (b1, .inl (cJ, 320, .inr (.inl fw))), (h2, .inr (2, [.ref r1, .int (nI q)])), (r1, .inl (cI, 9, .inl qr)), (h1, .inr (1, [.ref h4, .ref h3, .ref h2, .ref p4, .ref u8_w5, .ref u8_w6, .int (nI 1)])), (p4, .inl (cI, 9, .inl u8_uq)), (u8_w5, .inl (cJ, u8_ul, .inr (.inl u8_ub))), (u8_w6, .inl (cI, u8_ul, .inl u8_uw)), (hB, .inr (0, [.ref h4, .ref h3, .ref l3])), (l3, .inl (cI, 512, .inl lp))]) [0, 1, 2, 3, 4, 5, 6, 7, 8, 9, 10, 11, 12, 13, 14] rfl
            have hD9 := hD.sub (ws' := [(x0, .inr (6, [.ref h4, .ref h3, .ref h2, .ref h1, .ref hB, .ref h5])), (h4, .inr (4, [.ref a1, .ref a2, .ref a3, .int (nI n), .int (nI sa), .int (nI sv)])), (a1, .inl (cI, 9, .inl fg)), (a2, .inl (cI, 9, .inl fb)), (a3, .inl (cI, 9, .inl fp)), (h3, .inr (3, [.ref b1, .ref b2, .int (nI n), .int (nI c0), .int (nI y)])), (b1, .inl (cJ, 320, .inr (.inl fw))), (h2, .inr (2, [.ref r1, .int (nI q)])), (r1, .inl (cI, 9, .inl qr)), (h1, .inr (1, [.ref h4, .ref h3, .ref h2, .ref p4, .ref u8_w5, .ref u8_w6, .int (nI 1)])), (p4, .inl (cI, 9, .inl u8_uq)), (u8_w5, .inl (cJ, u8_ul, .inr (.inl u8_ub))), (u8_w6, .inl (cI, u8_ul, .inl u8_uw)), (hB, .inr (0, [.ref h4, .ref h3, .ref l3])), (l3, .inl (cI, 512, .inl lp))]) [0, 1, 2, 3, 4, 5, 6, 7, 8, 9, 10, 11, 12, 13, 14] (by decide) rfl
            exact W.lret (v := r8.toInt64) hx hb hr (fun tS htS hWS => ⟨⟨r8.toInt64, (u8_w5, u8_w6, u8_ul, u8_uq, u8_ub, u8_uw, nI 1, lp), rfl, FS.mono (Or.inr (Or.inl e9)) w8.1, m_at htS hP9, hD9⟩, hS.F htS⟩) hS.2.2 dX6_told_132
          · refine cn_i (y := nI 5) e4 ?_
            refine lv_tableIn (tgt := 133) (off := 88) hx hb dX6_told_45 (by decide) (by decide) (by decide) (by decide) ?_
            have e9 := e4
            refine lv_aload_n hx hb dX6_told_133 rfl (lv_at hl 2 rfl) ?_
            refine va_get (D := D) (ci := 6) (v := .ref h1) (C := RX6) (T := TX6) (N := 6) hx hb hts hiX6 hown hK hP 0 rfl rfl 3 (by decide) hf35 (fun _ h9 => h9) rfl dX6_told_134 ?_
            refine lv_iconst (v := nI 1) hx hb dX6_told_137 (by decide) ?_
            refine lv_iload_n hx hb dX6_told_138 rfl (lv_at hl 1 rfl) ?_
            refine lv_iload_n hx hb dX6_told_139 rfl (lv_at hl 0 rfl) ?_
            have hPc := hP.sub (ws' := [(h1, .inr (1, [.ref h4, .ref h3, .ref h2, .ref p4, .ref p5, .ref p6, .int fr])), (h4, .inr (4, [.ref a1, .ref a2, .ref a3, .int (nI n), .int (nI sa), .int (nI sv)])), (a1, .inl (cI, 9, .inl fg)), (a2, .inl (cI, 9, .inl fb)), (a3, .inl (cI, 9, .inl fp)), (p4, .inl (cI, 9, .inl fq)), (p5, .inl (cJ, len, .inr (.inl eb))), (p6, .inl (cI, len, .inl ew)), (h3, .inr (3, [.ref b1, .ref b2, .int (nI n), .int (nI c0), .int (nI y)])), (b1, .inl (cJ, 320, .inr (.inl fw)))]) [9, 1, 2, 3, 4, 10, 11, 12, 5, 6] rfl
            have hDc := hD.sub (ws' := [(h1, .inr (1, [.ref h4, .ref h3, .ref h2, .ref p4, .ref p5, .ref p6, .int fr])), (h4, .inr (4, [.ref a1, .ref a2, .ref a3, .int (nI n), .int (nI sa), .int (nI sv)])), (a1, .inl (cI, 9, .inl fg)), (a2, .inl (cI, 9, .inl fb)), (a3, .inl (cI, 9, .inl fp)), (p4, .inl (cI, 9, .inl fq)), (p5, .inl (cJ, len, .inr (.inl eb))), (p6, .inl (cI, len, .inl ew)), (h3, .inr (3, [.ref b1, .ref b2, .int (nI n), .int (nI c0), .int (nI y)])), (b1, .inl (cJ, 320, .inr (.inl fw)))]) [9, 1, 2, 3, 4, 10, 11, 12, 5, 6] (by decide) rfl
            have hFc := va_free (wc := [(h1, .inr (1, [.ref h4, .ref h3, .ref h2, .ref p4, .ref p5, .ref p6, .int fr])), (h4, .inr (4, [.ref a1, .ref a2, .ref a3, .int (nI n), .int (nI sa), .int (nI sv)])), (a1, .inl (cI, 9, .inl fg)), (a2, .inl (cI, 9, .inl fb)), (a3, .inl (cI, 9, .inl fp)), (p4, .inl (cI, 9, .inl fq)), (p5, .inl (cJ, len, .inr (.inl eb))), (p6, .inl (cI, len, .inl ew)), (h3, .inr (3, [.ref b1, .ref b2, .int (nI n), .int (nI c0), .int (nI y)])), (b1, .inl (cJ, 320, .inr (.inl fw)))]) hD hS hA [9, 1, 2, 3, 4, 10, 11, 12, 5, 6] rfl
            refine va_calli (va_runV (As := [.int (nI 1), .int (nI sa), .int (nI sv)]) (rest := []) ⟨hx, hb, hml, hown, hts⟩ (c_X1_next_g l D cI cJ cZ z3 t3 H.size mc ms h1 h4 h3 h2 p4 p5 p6 a1 a2 a3 n b1 b2 y len (nI n) (nI c0) (nI sa) (nI sv) fr fg fb fp fq eb ew fw sa sv 1 (by first | assumption | omega) (by first | assumption | omega) (by first | assumption | omega) (by first | assumption | omega) (by first | assumption | omega) (by exact fun a b g => hbud a b (Or.inr (Or.inr ⟨Or.inr e9, g⟩))) (by first | assumption | omega) (by first | assumption | omega) (by first | assumption | omega) ((nz3.D hD hzA htA).sub [9, 1, 2, 3, 4, 10, 11, 12, 5, 6] rfl)) (cwV 3 hts gX6_told_X1_next rfl rfl rfl (by decide +kernel) ⟨Nat.le_of_ble_eq_true rfl, Nat.le_of_ble_eq_true rfl⟩) ⟨pnT_blind, va_recv hK hP (ci := 1) (q0 := 9) rfl rfl, fun U hU hW => ⟨rfl, by rw [hU], by rw [hU]; exact hPc, hKN.warm hW, hT0.go hS hzA htA hW hU, hDc.weaken (fun _ _ _ _ => trivial)⟩⟩ rfl rfl hl.1 rfl (lv_room (Nat.le_of_ble_eq_true rfl)) dX6_told_140 ⟨(show 0 + mc ≤ mc by omega), (show 0 + ms ≤ ms by omega)⟩) hS (fun q _ h => hFc q h) hFc (fun r9 u t H1 locs ht hvm hw hB hz1 hk1 hS => ?_)
            obtain ⟨u9_w5, u9_w6, u9_ul, u9_uq, u9_ub, u9_uw, u9_uf⟩ := u
            have w9 : (r9 = -1 ∧ FS fr len n (NV fw y sv ((2 ^ n - 1) ^^^ sa)) u9_uf u9_ul) ∨ (∃ x, x < n ∧ r9 = nI x ∧ sa / 2 ^ x % 2 = 0 ∧ u9_uf = nI 1 ∧ FS fr len n (NV fw y sv ((2 ^ n - 1) ^^^ sa)) (nI 1) u9_ul) := hw
            obtain ⟨hP1, hD1⟩ := hB
            rw [ht] at hP1
            have hP1 : va_P D vwCl [(h1, .inr (1, [.ref h4, .ref h3, .ref h2, .ref p4, .ref u9_w5, .ref u9_w6, .int u9_uf])), (h4, .inr (4, [.ref a1, .ref a2, .ref a3, .int (nI n), .int (nI sa), .int (nI sv)])), (a1, .inl (cI, 9, .inl fg)), (a2, .inl (cI, 9, .inl fb)), (a3, .inl (cI, 9, .inl fp)), (p4, .inl (cI, 9, .inl u9_uq)), (u9_w5, .inl (cJ, u9_ul, .inr (.inl u9_ub))), (u9_w6, .inl (cI, u9_ul, .inl u9_uw)), (h3, .inr (3, [.ref b1, .ref b2, .int (nI n), .int (nI c0), .int (nI y)])), (b1, .inl (cJ, 320, .inr (.inl fw)))] H1 := hP1
            have hD1 : va_D _ [(h1, .inr (1, [.ref h4, .ref h3, .ref h2, .ref p4, .ref u9_w5, .ref u9_w6, .int u9_uf])), (h4, .inr (4, [.ref a1, .ref a2, .ref a3, .int (nI n), .int (nI sa), .int (nI sv)])), (a1, .inl (cI, 9, .inl fg)), (a2, .inl (cI, 9, .inl fb)), (a3, .inl (cI, 9, .inl fp)), (p4, .inl (cI, 9, .inl u9_uq)), (u9_w5, .inl (cJ, u9_ul, .inr (.inl u9_ub))), (u9_w6, .inl (cI, u9_ul, .inl u9_uw)), (h3, .inr (3, [.ref b1, .ref b2, .int (nI n), .int (nI c0), .int (nI y)])), (b1, .inl (cJ, 320, .inr (.inl fw)))] := hD1
            obtain ⟨hP, hD⟩ := va_join (wr := [(x0, .inr (6, [.ref h4, .ref h3, .ref h2, .ref h1, .ref hB, .ref h5])), (h2, .inr (2, [.ref r1, .int (nI q)])), (r1, .inl (cI, 9, .inl qr)), (hB, .inr (0, [.ref h4, .ref h3, .ref l3])), (l3, .inl (cI, 512, .inl lp))]) (w1 := [(h1, .inr (1, [.ref h4, .ref h3, .ref h2, .ref p4, .ref u9_w5, .ref u9_w6, .int u9_uf])), (h4, .inr (4, [.ref a1, .ref a2, .ref a3, .int (nI n), .int (nI sa), .int (nI sv)])), (a1, .inl (cI, 9, .inl fg)), (a2, .inl (cI, 9, .inl fb)), (a3, .inl (cI, 9, .inl fp)), (p4, .inl (cI, 9, .inl u9_uq)), (u9_w5, .inl (cJ, u9_ul, .inr (.inl u9_ub))), (u9_w6, .inl (cI, u9_ul, .inl u9_uw)), (h3, .inr (3, [.ref b1, .ref b2, .int (nI n), .int (nI c0), .int (nI y)])), (b1, .inl (cJ, 320, .inr (.inl fw)))]) hP hD [9, 1, 2, 3, 4, 10, 11, 12, 5, 6] [0, 7, 8, 13, 14] rfl rfl (by decide) (by decide) hk1 hFc hP1 hD1
            generalize H1 = H at hP hS ⊢
            have hP := hP.sub (ws' := [(x0, .inr (6, [.ref h4, .ref h3, .ref h2, .ref h1, .ref hB, .ref h5])), (h4, .inr (4, [.ref a1, .ref a2, .ref a3, .int (nI n), .int (nI sa), .int (nI sv)])), (a1, .inl (cI, 9, .inl fg)), (a2, .inl (cI, 9, .inl fb)), (a3, .inl (cI, 9, .inl fp)), (h3, .inr (3, [.ref b1, .ref b2, .int (nI n), .int (nI c0), .int (nI y)])), (b1, .inl (cJ, 320, .inr (.inl fw))), (h2, .inr (2, [.ref r1, .int (nI q)])), (r1, .inl (cI, 9, .inl qr)), (h1, .inr (1, [.ref h4, .ref h3, .ref h2, .ref p4, .ref u9_w5, .ref u9_w6, .int u9_uf])), (p4, .inl (cI, 9, .inl u9_uq)), (u9_w5, .inl (cJ, u9_ul, .inr (.inl u9_ub))), (u9_w6, .inl (cI, u9_ul, .inl u9_uw)), (hB, .inr (0, [.ref h4, .ref h3, .ref l3])), (l3, .inl (cI, 512, .inl lp))]) [0, 6, 7, 8, 9, 13, 14, 1, 2, 5, 10, 11, 12, 3, 4] rfl
            have hD := hD.sub (ws' := [(x0, .inr (6, [.ref h4, .ref h3, .ref h2, .ref h1, .ref hB, .ref h5])), (h4, .inr (4, [.ref a1, .ref a2, .ref a3, .int (nI n), .int (nI sa), .int (nI sv)])), (a1, .inl (cI, 9, .inl fg)), (a2, .inl (cI, 9, .inl fb)), (a3, .inl (cI, 9, .inl fp)), (h3, .inr (3, [.ref b1, .ref b2, .int (nI n), .int (nI c0), .int (nI y)])), (b1, .inl (cJ, 320, .inr (.inl fw))), (h2, .inr (2, [.ref r1, .int (nI q)])), (r1, .inl (cI, 9, .inl qr)), (h1, .inr (1, [.ref h4, .ref h3, .ref h2, .ref p4, .ref u9_w5, .ref u9_w6, .int u9_uf])), (p4, .inl (cI, 9, .inl u9_uq)), (u9_w5, .inl (cJ, u9_ul, .inr (.inl u9_ub))), (u9_w6, .inl (cI, u9_ul, .inl u9_uw)), (hB, .inr (0, [.ref h4, .ref h3, .ref l3])), (l3, .inl (cI, 512, .inl lp))]) [0, 6, 7, 8, 9, 13, 14, 1, 2, 5, 10, 11, 12, 3, 4] (by decide) rfl
            have hP : va_P D vwCl [(x0, .inr (6, [.ref h4, .ref h3, .ref h2, .ref h1, .ref hB, .ref h5])), (h4, .inr (4, [.ref a1, .ref a2, .ref a3, .int (nI n), .int (nI sa), .int (nI sv)])), (a1, .inl (cI, 9, .inl fg)), (a2, .inl (cI, 9, .inl fb)), (a3, .inl (cI, 9, .inl fp)), (h3, .inr (3, [.ref b1, .ref b2, .int (nI n), .int (nI c0), .int (nI y)])), (b1, .inl (cJ, 320, .inr (.inl fw))), (h2, .inr (2, [.ref r1, .int (nI q)])), (r1, .inl (cI, 9, .inl qr)), (h1, .inr (1, [.ref h4, .ref h3, .ref h2, .ref p4, .ref u9_w5, .ref u9_w6, .int u9_uf])), (p4, .inl (cI, 9, .inl u9_uq)), (u9_w5, .inl (cJ, u9_ul, .inr (.inl u9_ub))), (u9_w6, .inl (cI, u9_ul, .inl u9_uw)), (hB, .inr (0, [.ref h4, .ref h3, .ref l3])), (l3, .inl (cI, 512, .inl lp))] H := hP
            have hD : va_D A [(x0, .inr (6, [.ref h4, .ref h3, .ref h2, .ref h1, .ref hB, .ref h5])), (h4, .inr (4, [.ref a1, .ref a2, .ref a3, .int (nI n), .int (nI sa), .int (nI sv)])), (a1, .inl (cI, 9, .inl fg)), (a2, .inl (cI, 9, .inl fb)), (a3, .inl (cI, 9, .inl fp)), (h3, .inr (3, [.ref b1, .ref b2, .int (nI n), .int (nI c0), .int (nI y)])), (b1, .inl (cJ, 320, .inr (.inl fw))), (h2, .inr (2, [.ref r1, .int (nI q)])), (r1, .inl (cI, 9, .inl qr)), (h1, .inr (1, [.ref h4, .ref h3, .ref h2, .ref p4, .ref u9_w5, .ref u9_w6, .int u9_uf])), (p4, .inl (cI, 9, .inl u9_uq)), (u9_w5, .inl (cJ, u9_ul, .inr (.inl u9_ub))), (u9_w6, .inl (cI, u9_ul, .inl u9_uw)), (hB, .inr (0, [.ref h4, .ref h3, .ref l3])), (l3, .inl (cI, 512, .inl lp))] := hD
            refine W.widen (k := mc) (n := ms) (by omega) (by omega) ?_
            refine lv_i2l hx hb dX6_told_143 rfl ?_
            refine W.widen (k := mc) (n := ms) (by omega) (by omega) ?_
            rw [← hQ]
            have hP9 := hP.sub (ws' := [(x0, .inr (6, [.ref h4, .ref h3, .ref h2, .ref h1, .ref hB, .ref h5])), (h4, .inr (4, [.ref a1, .ref a2, .ref a3, .int (nI n), .int (nI sa), .int (nI sv)])), (a1, .inl (cI, 9, .inl fg)), (a2, .inl (cI, 9, .inl fb)), (a3, .inl (cI, 9, .inl fp)), (h3, .inr (3, [.ref b1, .ref b2, .int (nI n), .int (nI c0), .int (nI y)])), (b1, .inl (cJ, 320, .inr (.inl fw))), (h2, .inr (2, [.ref r1, .int (nI q)])), (r1, .inl (cI, 9, .inl qr)), (h1, .inr (1, [.ref h4, .ref h3, .ref h2, .ref p4, .ref u9_w5, .ref u9_w6, .int u9_uf])), (p4, .inl (cI, 9, .inl u9_uq)), (u9_w5, .inl (cJ, u9_ul, .inr (.inl u9_ub))), (u9_w6, .inl (cI, u9_ul, .inl u9_uw)), (hB, .inr (0, [.ref h4, .ref h3, .ref l3])), (l3, .inl (cI, 512, .inl lp))]) [0, 1, 2, 3, 4, 5, 6, 7, 8, 9, 10, 11, 12, 13, 14] rfl
            have hD9 := hD.sub (ws' := [(x0, .inr (6, [.ref h4, .ref h3, .ref h2, .ref h1, .ref hB, .ref h5])), (h4, .inr (4, [.ref a1, .ref a2, .ref a3, .int (nI n), .int (nI sa), .int (nI sv)])), (a1, .inl (cI, 9, .inl fg)), (a2, .inl (cI, 9, .inl fb)), (a3, .inl (cI, 9, .inl fp)), (h3, .inr (3, [.ref b1, .ref b2, .int (nI n), .int (nI c0), .int (nI y)])), (b1, .inl (cJ, 320, .inr (.inl fw))), (h2, .inr (2, [.ref r1, .int (nI q)])), (r1, .inl (cI, 9, .inl qr)), (h1, .inr (1, [.ref h4, .ref h3, .ref h2, .ref p4, .ref u9_w5, .ref u9_w6, .int u9_uf])), (p4, .inl (cI, 9, .inl u9_uq)), (u9_w5, .inl (cJ, u9_ul, .inr (.inl u9_ub))), (u9_w6, .inl (cI, u9_ul, .inl u9_uw)), (hB, .inr (0, [.ref h4, .ref h3, .ref l3])), (l3, .inl (cI, 512, .inl lp))]) [0, 1, 2, 3, 4, 5, 6, 7, 8, 9, 10, 11, 12, 13, 14] (by decide) rfl
            exact W.lret (v := r9.toInt64) hx hb hr (fun tS htS hWS => ⟨⟨r9.toInt64, (u9_w5, u9_w6, u9_ul, u9_uq, u9_ub, u9_uw, u9_uf, lp), rfl, FS.iff (KT.i3 (Or.inr e9)) (by rcases w9 with ⟨_, h⟩ | ⟨x, _, _, _, e, h⟩; exact h; exact (by rw [e]; exact h)), m_at htS hP9, hD9⟩, hS.F htS⟩) hS.2.2 dX6_told_144
          · refine cn_i (y := nI 6) e4 ?_
            refine lv_tableIn (tgt := 145) (off := 100) hx hb dX6_told_45 (by decide) (by decide) (by decide) (by decide) ?_
            have e9 := e4
            refine lv_aload_n hx hb dX6_told_145 rfl (lv_at hl 2 rfl) ?_
            refine va_get (D := D) (ci := 6) (v := .ref hB) (C := RX6) (T := TX6) (N := 6) hx hb hts hiX6 hown hK hP 0 rfl rfl 4 (by decide) hf44 (fun _ h9 => h9) rfl dX6_told_146 ?_
            refine mu_l (n := 15) (wc := [(hB, .inr (0, [.ref h4, .ref h3, .ref l3])), (h4, .inr (4, [.ref a1, .ref a2, .ref a3, .int (nI n), .int (nI sa), .int (nI sv)])), (a1, .inl (cI, 9, .inl fg)), (a2, .inl (cI, 9, .inl fb)), (a3, .inl (cI, 9, .inl fp)), (h3, .inr (3, [.ref b1, .ref b2, .int (nI n), .int (nI c0), .int (nI y)])), (b1, .inl (cJ, 320, .inr (.inl fw))), (l3, .inl (cI, 512, .inl lp))]) (va_runV (As := []) (rest := []) ⟨hx, hb, hml, hown, hts⟩ (c_X0_bound l D cI cJ cZ hB h4 h3 l3 a1 a2 a3 b1 b2 n y (nI sa) (nI sv) (nI c0) fg fb fp fw lp (by first | assumption | omega) (by first | assumption | omega)) (cwV 0 hts gX6_told_X0_bound rfl rfl rfl (by decide +kernel) ⟨Nat.le_of_ble_eq_true rfl, Nat.le_of_ble_eq_true rfl⟩) ⟨pm_blind, va_recv hK hP (ci := 0) (q0 := 13) rfl rfl, fun U hU hW => ⟨rfl, by rw [hU]; exact hP.sub (ws' := [(hB, .inr (0, [.ref h4, .ref h3, .ref l3])), (h4, .inr (4, [.ref a1, .ref a2, .ref a3, .int (nI n), .int (nI sa), .int (nI sv)])), (a1, .inl (cI, 9, .inl fg)), (a2, .inl (cI, 9, .inl fb)), (a3, .inl (cI, 9, .inl fp)), (h3, .inr (3, [.ref b1, .ref b2, .int (nI n), .int (nI c0), .int (nI y)])), (b1, .inl (cJ, 320, .inr (.inl fw))), (l3, .inl (cI, 512, .inl lp))]) [13, 1, 2, 3, 4, 5, 6, 14] rfl, hKN.warm hW, (hD.sub (ws' := [(hB, .inr (0, [.ref h4, .ref h3, .ref l3])), (h4, .inr (4, [.ref a1, .ref a2, .ref a3, .int (nI n), .int (nI sa), .int (nI sv)])), (a1, .inl (cI, 9, .inl fg)), (a2, .inl (cI, 9, .inl fb)), (a3, .inl (cI, 9, .inl fp)), (h3, .inr (3, [.ref b1, .ref b2, .int (nI n), .int (nI c0), .int (nI y)])), (b1, .inl (cJ, 320, .inr (.inl fw))), (l3, .inl (cI, 512, .inl lp))]) [13, 1, 2, 3, 4, 5, 6, 14] (by decide) rfl).weaken (fun _ _ _ _ => trivial)⟩⟩ rfl rfl hl.1 rfl (lv_room (Nat.le_of_ble_eq_true rfl)) dX6_told_149 ⟨(show 0 + 0 ≤ mc by omega), (show 0 + 0 ≤ ms by omega)⟩) hS hP hD (fun (u : (Nat → Int32)) => [(x0, .inr (6, [.ref h4, .ref h3, .ref h2, .ref h1, .ref hB, .ref h5])), (h4, .inr (4, [.ref a1, .ref a2, .ref a3, .int (nI n), .int (nI sa), .int (nI sv)])), (a1, .inl (cI, 9, .inl fg)), (a2, .inl (cI, 9, .inl fb)), (a3, .inl (cI, 9, .inl fp)), (h3, .inr (3, [.ref b1, .ref b2, .int (nI n), .int (nI c0), .int (nI y)])), (b1, .inl (cJ, 320, .inr (.inl fw))), (h2, .inr (2, [.ref r1, .int (nI q)])), (r1, .inl (cI, 9, .inl qr)), (h1, .inr (1, [.ref h4, .ref h3, .ref h2, .ref p4, .ref p5, .ref p6, .int fr])), (p4, .inl (cI, 9, .inl fq)), (p5, .inl (cJ, len, .inr (.inl eb))), (p6, .inl (cI, len, .inl ew)), (hB, .inr (0, [.ref h4, .ref h3, .ref l3])), (l3, .inl (cI, 512, .inl u))]) [13, 1, 2, 3, 4, 5, 6, 14] [0, 7, 8, 9, 10, 11, 12] rfl rfl (fun _ => rfl) (fun _ => rfl) (fun _ => rfl) (fun _ => rfl) (by decide) (by decide) (fun r10 u10 H locs w10r hP hD hS => ?_)
            obtain ⟨u10_ul, rfl⟩ : ∃ z, z = u10 := ⟨_, rfl⟩
            have hP : va_P D vwCl [(x0, .inr (6, [.ref h4, .ref h3, .ref h2, .ref h1, .ref hB, .ref h5])), (h4, .inr (4, [.ref a1, .ref a2, .ref a3, .int (nI n), .int (nI sa), .int (nI sv)])), (a1, .inl (cI, 9, .inl fg)), (a2, .inl (cI, 9, .inl fb)), (a3, .inl (cI, 9, .inl fp)), (h3, .inr (3, [.ref b1, .ref b2, .int (nI n), .int (nI c0), .int (nI y)])), (b1, .inl (cJ, 320, .inr (.inl fw))), (h2, .inr (2, [.ref r1, .int (nI q)])), (r1, .inl (cI, 9, .inl qr)), (h1, .inr (1, [.ref h4, .ref h3, .ref h2, .ref p4, .ref p5, .ref p6, .int fr])), (p4, .inl (cI, 9, .inl fq)), (p5, .inl (cJ, len, .inr (.inl eb))), (p6, .inl (cI, len, .inl ew)), (hB, .inr (0, [.ref h4, .ref h3, .ref l3])), (l3, .inl (cI, 512, .inl u10_ul))] H := hP
            have hD : va_D A [(x0, .inr (6, [.ref h4, .ref h3, .ref h2, .ref h1, .ref hB, .ref h5])), (h4, .inr (4, [.ref a1, .ref a2, .ref a3, .int (nI n), .int (nI sa), .int (nI sv)])), (a1, .inl (cI, 9, .inl fg)), (a2, .inl (cI, 9, .inl fb)), (a3, .inl (cI, 9, .inl fp)), (h3, .inr (3, [.ref b1, .ref b2, .int (nI n), .int (nI c0), .int (nI y)])), (b1, .inl (cJ, 320, .inr (.inl fw))), (h2, .inr (2, [.ref r1, .int (nI q)])), (r1, .inl (cI, 9, .inl qr)), (h1, .inr (1, [.ref h4, .ref h3, .ref h2, .ref p4, .ref p5, .ref p6, .int fr])), (p4, .inl (cI, 9, .inl fq)), (p5, .inl (cJ, len, .inr (.inl eb))), (p6, .inl (cI, len, .inl ew)), (hB, .inr (0, [.ref h4, .ref h3, .ref l3])), (l3, .inl (cI, 512, .inl u10_ul))] := hD
            have w10 : True := w10r
            clear w10r
            refine W.widen (k := mc) (n := ms) (by omega) (by omega) ?_
            rw [← hQ]
            have hP9 := hP.sub (ws' := [(x0, .inr (6, [.ref h4, .ref h3, .ref h2, .ref h1, .ref hB, .ref h5])), (h4, .inr (4, [.ref a1, .ref a2, .ref a3, .int (nI n), .int (nI sa), .int (nI sv)])), (a1, .inl (cI, 9, .inl fg)), (a2, .inl (cI, 9, .inl fb)), (a3, .inl (cI, 9, .inl fp)), (h3, .inr (3, [.ref b1, .ref b2, .int (nI n), .int (nI c0), .int (nI y)])), (b1, .inl (cJ, 320, .inr (.inl fw))), (h2, .inr (2, [.ref r1, .int (nI q)])), (r1, .inl (cI, 9, .inl qr)), (h1, .inr (1, [.ref h4, .ref h3, .ref h2, .ref p4, .ref p5, .ref p6, .int fr])), (p4, .inl (cI, 9, .inl fq)), (p5, .inl (cJ, len, .inr (.inl eb))), (p6, .inl (cI, len, .inl ew)), (hB, .inr (0, [.ref h4, .ref h3, .ref l3])), (l3, .inl (cI, 512, .inl u10_ul))]) [0, 1, 2, 3, 4, 5, 6, 7, 8, 9, 10, 11, 12, 13, 14] rfl
            have hD9 := hD.sub (ws' := [(x0, .inr (6, [.ref h4, .ref h3, .ref h2, .ref h1, .ref hB, .ref h5])), (h4, .inr (4, [.ref a1, .ref a2, .ref a3, .int (nI n), .int (nI sa), .int (nI sv)])), (a1, .inl (cI, 9, .inl fg)), (a2, .inl (cI, 9, .inl fb)), (a3, .inl (cI, 9, .inl fp)), (h3, .inr (3, [.ref b1, .ref b2, .int (nI n), .int (nI c0), .int (nI y)])), (b1, .inl (cJ, 320, .inr (.inl fw))), (h2, .inr (2, [.ref r1, .int (nI q)])), (r1, .inl (cI, 9, .inl qr)), (h1, .inr (1, [.ref h4, .ref h3, .ref h2, .ref p4, .ref p5, .ref p6, .int fr])), (p4, .inl (cI, 9, .inl fq)), (p5, .inl (cJ, len, .inr (.inl eb))), (p6, .inl (cI, len, .inl ew)), (hB, .inr (0, [.ref h4, .ref h3, .ref l3])), (l3, .inl (cI, 512, .inl u10_ul))]) [0, 1, 2, 3, 4, 5, 6, 7, 8, 9, 10, 11, 12, 13, 14] (by decide) rfl
            exact W.lret (v := r10) hx hb hr (fun tS htS hWS => ⟨⟨r10, (p5, p6, len, fq, eb, ew, fr, u10_ul), rfl, FS.no (KT.out (by rw [e9]; decide)) hfr hlen, m_at htS hP9, hD9⟩, hS.F htS⟩) hS.2.2 dX6_told_152
          · refine cn_i (y := nI 7) e4 ?_
            refine lv_tableIn (tgt := 153) (off := 108) hx hb dX6_told_45 (by decide) (by decide) (by decide) (by decide) ?_
            have e9 := e4
            refine lv_aload_n hx hb dX6_told_153 rfl (lv_at hl 2 rfl) ?_
            refine va_get (D := D) (ci := 6) (v := .ref h1) (C := RX6) (T := TX6) (N := 6) hx hb hts hiX6 hown hK hP 0 rfl rfl 3 (by decide) hf35 (fun _ h9 => h9) rfl dX6_told_154 ?_
            refine pu_l (va_runV (As := []) (rest := []) ⟨hx, hb, hml, hown, hts⟩ (c_X1_orderMean l D cI cJ cZ h1 h4 h3 h2 p4 p5 p6 a1 a2 a3 n b1 b2 y r1 q sa sv (nI n) (nI c0) fr fw qr fg fb fp (by first | assumption | omega) (by first | assumption | omega) (by first | assumption | omega) (by first | assumption | omega) (by first | assumption | omega) (by first | assumption | omega)) (cwV 0 hts gX6_told_X1_orderMean rfl rfl rfl (by decide +kernel) ⟨Nat.le_of_ble_eq_true rfl, Nat.le_of_ble_eq_true rfl⟩) ⟨pc_blind, va_recv hK hP (ci := 1) (q0 := 9) rfl rfl, fun U hU hW => ⟨rfl, by rw [hU]; exact hP.sub (ws' := [(h1, .inr (1, [.ref h4, .ref h3, .ref h2, .ref p4, .ref p5, .ref p6, .int fr])), (h4, .inr (4, [.ref a1, .ref a2, .ref a3, .int (nI n), .int (nI sa), .int (nI sv)])), (a1, .inl (cI, 9, .inl fg)), (a2, .inl (cI, 9, .inl fb)), (a3, .inl (cI, 9, .inl fp)), (h3, .inr (3, [.ref b1, .ref b2, .int (nI n), .int (nI c0), .int (nI y)])), (b1, .inl (cJ, 320, .inr (.inl fw))), (h2, .inr (2, [.ref r1, .int (nI q)])), (r1, .inl (cI, 9, .inl qr))]) [9, 1, 2, 3, 4, 5, 6, 7, 8] rfl, hKN.warm hW⟩⟩ rfl rfl hl.1 rfl (lv_room (Nat.le_of_ble_eq_true rfl)) dX6_told_157 ⟨(show 0 + 0 ≤ mc by omega), (show 0 + 0 ≤ ms by omega)⟩) hS hP (fun r11 H locs w11r hP hS => ?_)
            have w11 : True := w11r
            clear w11r
            refine W.widen (k := mc) (n := ms) (by omega) (by omega) ?_
            rw [← hQ]
            have hP9 := hP.sub (ws' := [(x0, .inr (6, [.ref h4, .ref h3, .ref h2, .ref h1, .ref hB, .ref h5])), (h4, .inr (4, [.ref a1, .ref a2, .ref a3, .int (nI n), .int (nI sa), .int (nI sv)])), (a1, .inl (cI, 9, .inl fg)), (a2, .inl (cI, 9, .inl fb)), (a3, .inl (cI, 9, .inl fp)), (h3, .inr (3, [.ref b1, .ref b2, .int (nI n), .int (nI c0), .int (nI y)])), (b1, .inl (cJ, 320, .inr (.inl fw))), (h2, .inr (2, [.ref r1, .int (nI q)])), (r1, .inl (cI, 9, .inl qr)), (h1, .inr (1, [.ref h4, .ref h3, .ref h2, .ref p4, .ref p5, .ref p6, .int fr])), (p4, .inl (cI, 9, .inl fq)), (p5, .inl (cJ, len, .inr (.inl eb))), (p6, .inl (cI, len, .inl ew)), (hB, .inr (0, [.ref h4, .ref h3, .ref l3])), (l3, .inl (cI, 512, .inl lp))]) [0, 1, 2, 3, 4, 5, 6, 7, 8, 9, 10, 11, 12, 13, 14] rfl
            have hD9 := hD.sub (ws' := [(x0, .inr (6, [.ref h4, .ref h3, .ref h2, .ref h1, .ref hB, .ref h5])), (h4, .inr (4, [.ref a1, .ref a2, .ref a3, .int (nI n), .int (nI sa), .int (nI sv)])), (a1, .inl (cI, 9, .inl fg)), (a2, .inl (cI, 9, .inl fb)), (a3, .inl (cI, 9, .inl fp)), (h3, .inr (3, [.ref b1, .ref b2, .int (nI n), .int (nI c0), .int (nI y)])), (b1, .inl (cJ, 320, .inr (.inl fw))), (h2, .inr (2, [.ref r1, .int (nI q)])), (r1, .inl (cI, 9, .inl qr)), (h1, .inr (1, [.ref h4, .ref h3, .ref h2, .ref p4, .ref p5, .ref p6, .int fr])), (p4, .inl (cI, 9, .inl fq)), (p5, .inl (cJ, len, .inr (.inl eb))), (p6, .inl (cI, len, .inl ew)), (hB, .inr (0, [.ref h4, .ref h3, .ref l3])), (l3, .inl (cI, 512, .inl lp))]) [0, 1, 2, 3, 4, 5, 6, 7, 8, 9, 10, 11, 12, 13, 14] (by decide) rfl
            exact W.lret (v := r11) hx hb hr (fun tS htS hWS => ⟨⟨r11, (p5, p6, len, fq, eb, ew, fr, lp), rfl, FS.no (KT.out (by rw [e9]; decide)) hfr hlen, m_at htS hP9, hD9⟩, hS.F htS⟩) hS.2.2 dX6_told_160
          · refine cn_i (y := nI 8) e4 ?_
            refine lv_tableIn (tgt := 161) (off := 116) hx hb dX6_told_45 (by decide) (by decide) (by decide) (by decide) ?_
            have e9 := e4
            refine lv_aload_n hx hb dX6_told_161 rfl (lv_at hl 2 rfl) ?_
            refine va_get (D := D) (ci := 6) (v := .ref h1) (C := RX6) (T := TX6) (N := 6) hx hb hts hiX6 hown hK hP 0 rfl rfl 3 (by decide) hf35 (fun _ h9 => h9) rfl dX6_told_162 ?_
            refine pu_i (va_runV (As := []) (rest := []) ⟨hx, hb, hml, hown, hts⟩ (c_X1_orderWorst l D cI cJ cZ h1 h4 h3 h2 p4 p5 p6 a1 a2 a3 n b1 b2 y r1 q sa sv (nI n) (nI c0) fr fw qr fg fb fp (by first | assumption | omega) (by first | assumption | omega) (by first | assumption | omega) (by first | assumption | omega) (by first | assumption | omega) (by first | assumption | omega)) (cwV 0 hts gX6_told_X1_orderWorst rfl rfl rfl (by decide +kernel) ⟨Nat.le_of_ble_eq_true rfl, Nat.le_of_ble_eq_true rfl⟩) ⟨pc_blind, va_recv hK hP (ci := 1) (q0 := 9) rfl rfl, fun U hU hW => ⟨rfl, by rw [hU]; exact hP.sub (ws' := [(h1, .inr (1, [.ref h4, .ref h3, .ref h2, .ref p4, .ref p5, .ref p6, .int fr])), (h4, .inr (4, [.ref a1, .ref a2, .ref a3, .int (nI n), .int (nI sa), .int (nI sv)])), (a1, .inl (cI, 9, .inl fg)), (a2, .inl (cI, 9, .inl fb)), (a3, .inl (cI, 9, .inl fp)), (h3, .inr (3, [.ref b1, .ref b2, .int (nI n), .int (nI c0), .int (nI y)])), (b1, .inl (cJ, 320, .inr (.inl fw))), (h2, .inr (2, [.ref r1, .int (nI q)])), (r1, .inl (cI, 9, .inl qr))]) [9, 1, 2, 3, 4, 5, 6, 7, 8] rfl, hKN.warm hW⟩⟩ rfl rfl hl.1 rfl (lv_room (Nat.le_of_ble_eq_true rfl)) dX6_told_165 ⟨(show 0 + 0 ≤ mc by omega), (show 0 + 0 ≤ ms by omega)⟩) hS hP (fun r12 H locs w12r hP hS => ?_)
            have w12 : True := w12r
            clear w12r
            refine lv_i2l hx hb dX6_told_168 rfl ?_
            refine W.widen (k := mc) (n := ms) (by omega) (by omega) ?_
            rw [← hQ]
            have hP9 := hP.sub (ws' := [(x0, .inr (6, [.ref h4, .ref h3, .ref h2, .ref h1, .ref hB, .ref h5])), (h4, .inr (4, [.ref a1, .ref a2, .ref a3, .int (nI n), .int (nI sa), .int (nI sv)])), (a1, .inl (cI, 9, .inl fg)), (a2, .inl (cI, 9, .inl fb)), (a3, .inl (cI, 9, .inl fp)), (h3, .inr (3, [.ref b1, .ref b2, .int (nI n), .int (nI c0), .int (nI y)])), (b1, .inl (cJ, 320, .inr (.inl fw))), (h2, .inr (2, [.ref r1, .int (nI q)])), (r1, .inl (cI, 9, .inl qr)), (h1, .inr (1, [.ref h4, .ref h3, .ref h2, .ref p4, .ref p5, .ref p6, .int fr])), (p4, .inl (cI, 9, .inl fq)), (p5, .inl (cJ, len, .inr (.inl eb))), (p6, .inl (cI, len, .inl ew)), (hB, .inr (0, [.ref h4, .ref h3, .ref l3])), (l3, .inl (cI, 512, .inl lp))]) [0, 1, 2, 3, 4, 5, 6, 7, 8, 9, 10, 11, 12, 13, 14] rfl
            have hD9 := hD.sub (ws' := [(x0, .inr (6, [.ref h4, .ref h3, .ref h2, .ref h1, .ref hB, .ref h5])), (h4, .inr (4, [.ref a1, .ref a2, .ref a3, .int (nI n), .int (nI sa), .int (nI sv)])), (a1, .inl (cI, 9, .inl fg)), (a2, .inl (cI, 9, .inl fb)), (a3, .inl (cI, 9, .inl fp)), (h3, .inr (3, [.ref b1, .ref b2, .int (nI n), .int (nI c0), .int (nI y)])), (b1, .inl (cJ, 320, .inr (.inl fw))), (h2, .inr (2, [.ref r1, .int (nI q)])), (r1, .inl (cI, 9, .inl qr)), (h1, .inr (1, [.ref h4, .ref h3, .ref h2, .ref p4, .ref p5, .ref p6, .int fr])), (p4, .inl (cI, 9, .inl fq)), (p5, .inl (cJ, len, .inr (.inl eb))), (p6, .inl (cI, len, .inl ew)), (hB, .inr (0, [.ref h4, .ref h3, .ref l3])), (l3, .inl (cI, 512, .inl lp))]) [0, 1, 2, 3, 4, 5, 6, 7, 8, 9, 10, 11, 12, 13, 14] (by decide) rfl
            exact W.lret (v := r12.toInt64) hx hb hr (fun tS htS hWS => ⟨⟨r12.toInt64, (p5, p6, len, fq, eb, ew, fr, lp), rfl, FS.no (KT.out (by rw [e9]; decide)) hfr hlen, m_at htS hP9, hD9⟩, hS.F htS⟩) hS.2.2 dX6_told_169
      · exact absurd c3 (by first | decide | exact nz_lt (by omega) | exact fun h => h (nz_ge (by omega)))
    · exact absurd ⟨by omega, by omega⟩ w2
  · skip
    have e9 := c1
    refine lv_aload_n hx hb dX6_told_20 rfl (lv_at hl 2 rfl) ?_
    refine va_get (D := D) (ci := 6) (v := .ref h4) (C := RX6) (T := TX6) (N := 6) hx hb hts hiX6 hown hK hP 0 rfl rfl 0 (by decide) hf10 (fun _ h9 => h9) rfl dX6_told_21 ?_
    refine lv_iload_n hx hb dX6_told_24 rfl (lv_at hl 1 rfl) ?_
    refine lv_iload_n hx hb dX6_told_25 rfl (lv_at hl 0 rfl) ?_
    refine pu_l (va_runV (As := [.int (nI sa), .int (nI sv)]) (rest := []) ⟨hx, hb, hml, hown, hts⟩ (c_X4_left l D cI cJ cZ h4 a1 a2 a3 n (nI sa) (nI sv) (nI sa) (nI sv) fg fb (by first | assumption | omega)) (cwV 2 hts gX6_told_X4_left rfl rfl rfl (by decide +kernel) ⟨Nat.le_of_ble_eq_true rfl, Nat.le_of_ble_eq_true rfl⟩) ⟨pc_blind, va_recv hK hP (ci := 4) (q0 := 1) rfl rfl, fun U hU hW => ⟨rfl, by rw [hU]; exact hP.sub (ws' := [(h4, .inr (4, [.ref a1, .ref a2, .ref a3, .int (nI n), .int (nI sa), .int (nI sv)])), (a1, .inl (cI, 9, .inl fg)), (a2, .inl (cI, 9, .inl fb))]) [1, 2, 3] rfl, hKN.warm hW⟩⟩ rfl rfl hl.1 rfl (lv_room (Nat.le_of_ble_eq_true rfl)) dX6_told_26 ⟨(show 0 + 0 ≤ mc by omega), (show 0 + 0 ≤ ms by omega)⟩) hS hP (fun r13 H locs w13r hP hS => ?_)
    have w13 : r13 = lf fg fb (nI sa) (nI sv) n := w13r
    clear w13r
    refine W.widen (k := mc) (n := ms) (by omega) (by omega) ?_
    rw [← hQ]
    have hP9 := hP.sub (ws' := [(x0, .inr (6, [.ref h4, .ref h3, .ref h2, .ref h1, .ref hB, .ref h5])), (h4, .inr (4, [.ref a1, .ref a2, .ref a3, .int (nI n), .int (nI sa), .int (nI sv)])), (a1, .inl (cI, 9, .inl fg)), (a2, .inl (cI, 9, .inl fb)), (a3, .inl (cI, 9, .inl fp)), (h3, .inr (3, [.ref b1, .ref b2, .int (nI n), .int (nI c0), .int (nI y)])), (b1, .inl (cJ, 320, .inr (.inl fw))), (h2, .inr (2, [.ref r1, .int (nI q)])), (r1, .inl (cI, 9, .inl qr)), (h1, .inr (1, [.ref h4, .ref h3, .ref h2, .ref p4, .ref p5, .ref p6, .int fr])), (p4, .inl (cI, 9, .inl fq)), (p5, .inl (cJ, len, .inr (.inl eb))), (p6, .inl (cI, len, .inl ew)), (hB, .inr (0, [.ref h4, .ref h3, .ref l3])), (l3, .inl (cI, 512, .inl lp))]) [0, 1, 2, 3, 4, 5, 6, 7, 8, 9, 10, 11, 12, 13, 14] rfl
    have hD9 := hD.sub (ws' := [(x0, .inr (6, [.ref h4, .ref h3, .ref h2, .ref h1, .ref hB, .ref h5])), (h4, .inr (4, [.ref a1, .ref a2, .ref a3, .int (nI n), .int (nI sa), .int (nI sv)])), (a1, .inl (cI, 9, .inl fg)), (a2, .inl (cI, 9, .inl fb)), (a3, .inl (cI, 9, .inl fp)), (h3, .inr (3, [.ref b1, .ref b2, .int (nI n), .int (nI c0), .int (nI y)])), (b1, .inl (cJ, 320, .inr (.inl fw))), (h2, .inr (2, [.ref r1, .int (nI q)])), (r1, .inl (cI, 9, .inl qr)), (h1, .inr (1, [.ref h4, .ref h3, .ref h2, .ref p4, .ref p5, .ref p6, .int fr])), (p4, .inl (cI, 9, .inl fq)), (p5, .inl (cJ, len, .inr (.inl eb))), (p6, .inl (cI, len, .inl ew)), (hB, .inr (0, [.ref h4, .ref h3, .ref l3])), (l3, .inl (cI, 512, .inl lp))]) [0, 1, 2, 3, 4, 5, 6, 7, 8, 9, 10, 11, 12, 13, 14] (by decide) rfl
    exact W.lret (v := r13) hx hb hr (fun tS htS hWS => ⟨⟨r13, (p5, p6, len, fq, eb, ew, fr, lp), rfl, FS.no (KT.out (by rw [e9]; decide)) hfr hlen, m_at htS hP9, hD9⟩, hS.F htS⟩) hS.2.2 dX6_told_29
def rm_c_X6_of_g (mc ms : Nat) : Room := { frames := 14, cells := mc, slots := ms, locals := 387 }
set_option maxHeartbeats 400000 in
set_option maxRecDepth 100000 in
theorem c_X6_of_g (l : Launch) (D : va_G) (cI cJ cZ : ClassId) (z3 t3 : Nat) (sz : Nat) (mc ms : Nat) (x0 : Nat) (h4 : Nat) (h3 : Nat) (h2 : Nat) (h1 : Nat) (hB : Nat) (h5 : Nat) (a1 : Nat) (a2 : Nat) (a3 : Nat) (b1 : Nat) (b2 : Nat) (p4 : Nat) (p5 : Nat) (p6 : Nat) (l3 : Nat) (lk1 : Nat) (n : Nat) (c0 : Nat) (y : Nat) (sa : Nat) (sv : Nat) (len : Nat) (fr : Int32) (wh : Int32) (p0 : Int32) (fg : Nat → Int32) (fb : Nat → Int32) (fp : Nat → Int32) (fq : Nat → Int32) (eb : Nat → Int64) (ew : Nat → Int32) (fw : Nat → Int64) (hn : n ≤ 9) (h1n : 1 ≤ n) (hc : c0 ≤ 40) (hy : y < c0) (hsa : sa < 2 ^ n) (hsv : sv < 2 ^ n) (hlen : len ≤ 19683) (hfr : fr = 0 ∨ fr = nI 1 ∧ 3 ^ n ≤ len) (hbud : fr = 0 → len < 3 ^ n → (KO n sa p0 wh) → 2 ≤ mc ∧ 2 * 3 ^ n ≤ ms) (hz3 : nz3 z3 t3 [x0, h4, a1, a2, a3, h3, b1, h1, p4, p5, p6, hB]) : Met l yX6_of wsX6_of (rm_c_X6_of_g mc ms) (pnT_ D cI cJ cZ z3 t3 sz [.ref x0, .int p0, .int wh] [(x0, .inr (6, [.ref h4, .ref h3, .ref h2, .ref h1, .ref hB, .ref h5])), (h4, .inr (4, [.ref a1, .ref a2, .ref a3, .int (nI n), .int (nI sa), .int (nI sv)])), (a1, .inl (cI, 9, .inl fg)), (a2, .inl (cI, 9, .inl fb)), (a3, .inl (cI, 9, .inl fp)), (h3, .inr (3, [.ref b1, .ref b2, .int (nI n), .int (nI c0), .int (nI y)])), (b1, .inl (cJ, 320, .inr (.inl fw))), (h1, .inr (1, [.ref h4, .ref h3, .ref h2, .ref p4, .ref p5, .ref p6, .int fr])), (p4, .inl (cI, 9, .inl fq)), (p5, .inl (cJ, len, .inr (.inl eb))), (p6, .inl (cI, len, .inl ew)), (hB, .inr (0, [.ref h4, .ref h3, .ref l3]))]) (va_Ql (fun (r : Int64) (u : Nat × Nat × Nat × (Nat → Int32) × (Nat → Int64) × (Nat → Int32) × Int32) => FS fr len n (KO n sa p0 wh) u.2.2.2.2.2.2 u.2.2.1) (fun (u : Nat × Nat × Nat × (Nat → Int32) × (Nat → Int64) × (Nat → Int32) × Int32) tS => va_P D vwCl [(x0, .inr (6, [.ref h4, .ref h3, .ref h2, .ref h1, .ref hB, .ref h5])), (h4, .inr (4, [.ref a1, .ref a2, .ref a3, .int (nI n), .int (nI sa), .int (nI sv)])), (a1, .inl (cI, 9, .inl fg)), (a2, .inl (cI, 9, .inl fb)), (a3, .inl (cI, 9, .inl fp)), (h3, .inr (3, [.ref b1, .ref b2, .int (nI n), .int (nI c0), .int (nI y)])), (b1, .inl (cJ, 320, .inr (.inl fw))), (h1, .inr (1, [.ref h4, .ref h3, .ref h2, .ref p4, .ref u.1, .ref u.2.1, .int u.2.2.2.2.2.2])), (p4, .inl (cI, 9, .inl u.2.2.2.1)), (u.1, .inl (cJ, u.2.2.1, .inr (.inl u.2.2.2.2.1))), (u.2.1, .inl (cI, u.2.2.1, .inl u.2.2.2.2.2.1)), (hB, .inr (0, [.ref h4, .ref h3, .ref l3]))] tS.heap ∧ va_D (va_A [(x0, .inr (6, [.ref h4, .ref h3, .ref h2, .ref h1, .ref hB, .ref h5])), (h4, .inr (4, [.ref a1, .ref a2, .ref a3, .int (nI n), .int (nI sa), .int (nI sv)])), (a1, .inl (cI, 9, .inl fg)), (a2, .inl (cI, 9, .inl fb)), (a3, .inl (cI, 9, .inl fp)), (h3, .inr (3, [.ref b1, .ref b2, .int (nI n), .int (nI c0), .int (nI y)])), (b1, .inl (cJ, 320, .inr (.inl fw))), (h1, .inr (1, [.ref h4, .ref h3, .ref h2, .ref p4, .ref p5, .ref p6, .int fr])), (p4, .inl (cI, 9, .inl fq)), (p5, .inl (cJ, len, .inr (.inl eb))), (p6, .inl (cI, len, .inl ew)), (hB, .inr (0, [.ref h4, .ref h3, .ref l3]))] sz) [(x0, .inr (6, [.ref h4, .ref h3, .ref h2, .ref h1, .ref hB, .ref h5])), (h4, .inr (4, [.ref a1, .ref a2, .ref a3, .int (nI n), .int (nI sa), .int (nI sv)])), (a1, .inl (cI, 9, .inl fg)), (a2, .inl (cI, 9, .inl fb)), (a3, .inl (cI, 9, .inl fp)), (h3, .inr (3, [.ref b1, .ref b2, .int (nI n), .int (nI c0), .int (nI y)])), (b1, .inl (cJ, 320, .inr (.inl fw))), (h1, .inr (1, [.ref h4, .ref h3, .ref h2, .ref p4, .ref u.1, .ref u.2.1, .int u.2.2.2.2.2.2])), (p4, .inl (cI, 9, .inl u.2.2.2.1)), (u.1, .inl (cJ, u.2.2.1, .inr (.inl u.2.2.2.2.1))), (u.2.1, .inl (cI, u.2.2.1, .inl u.2.2.2.2.2.1)), (hB, .inr (0, [.ref h4, .ref h3, .ref l3]))]) (va_A [(x0, .inr (6, [.ref h4, .ref h3, .ref h2, .ref h1, .ref hB, .ref h5])), (h4, .inr (4, [.ref a1, .ref a2, .ref a3, .int (nI n), .int (nI sa), .int (nI sv)])), (a1, .inl (cI, 9, .inl fg)), (a2, .inl (cI, 9, .inl fb)), (a3, .inl (cI, 9, .inl fp)), (h3, .inr (3, [.ref b1, .ref b2, .int (nI n), .int (nI c0), .int (nI y)])), (b1, .inl (cJ, 320, .inr (.inl fw))), (h1, .inr (1, [.ref h4, .ref h3, .ref h2, .ref p4, .ref p5, .ref p6, .int fr])), (p4, .inl (cI, 9, .inl fq)), (p5, .inl (cJ, len, .inr (.inl eb))), (p6, .inl (cI, len, .inl ew)), (hB, .inr (0, [.ref h4, .ref h3, .ref l3]))] sz)) mc ms (va_A [(x0, .inr (6, [.ref h4, .ref h3, .ref h2, .ref h1, .ref hB, .ref h5])), (h4, .inr (4, [.ref a1, .ref a2, .ref a3, .int (nI n), .int (nI sa), .int (nI sv)])), (a1, .inl (cI, 9, .inl fg)), (a2, .inl (cI, 9, .inl fb)), (a3, .inl (cI, 9, .inl fp)), (h3, .inr (3, [.ref b1, .ref b2, .int (nI n), .int (nI c0), .int (nI y)])), (b1, .inl (cJ, 320, .inr (.inl fw))), (h1, .inr (1, [.ref h4, .ref h3, .ref h2, .ref p4, .ref p5, .ref p6, .int fr])), (p4, .inl (cI, 9, .inl fq)), (p5, .inl (cJ, len, .inr (.inl eb))), (p6, .inl (cI, len, .inl ew)), (hB, .inr (0, [.ref h4, .ref h3, .ref l3]))] sz) := by
  refine Met.ofW (cc := cX6_of) (maxL := 3) (ret := (some .long)) (by decide) rfl ?_
  intro p e s m args below meth c s₁ B hml hv
  obtain ⟨rfl, hsz, hP, hKN, hT0, hD0⟩ := hv
  have hK := hKN.1
  have hx := B.exec
  have hb := B.bytes
  have hr := B.returns
  have hts := atoms_spec (ws := wsX6_of) B.pre
  have hown : s.vm.findClass RX6 = some m.cls := findClass_of_methodNamed B.named
  have hlocks := B.notSynchronized
  have hiX6 : ∀ w ∈ wsX60, w ∈ wsX6_of := by decide +kernel
  have hf10 := hts (.fieldLink RX6 10 "LookBench" "shelf" "LLookBench$Shelf;") (by decide +kernel)
  have hf19 := hts (.fieldLink RX6 19 "LookBench" "rules" "LLookBench$Rules;") (by decide +kernel)
  have hf35 := hts (.fieldLink RX6 35 "LookBench" "plans" "LLookBench$Plans;") (by decide +kernel)
  have hf44 := hts (.fieldLink RX6 44 "LookBench" "bounds" "LLookBench$Bounds;") (by decide +kernel)
  subst hsz
  have hD := hD0.self (sz := s.heap.size)
  have hz9 := nz3.A (ws := [(x0, .inr (6, [.ref h4, .ref h3, .ref h2, .ref h1, .ref hB, .ref h5])), (h4, .inr (4, [.ref a1, .ref a2, .ref a3, .int (nI n), .int (nI sa), .int (nI sv)])), (a1, .inl (cI, 9, .inl fg)), (a2, .inl (cI, 9, .inl fb)), (a3, .inl (cI, 9, .inl fp)), (h3, .inr (3, [.ref b1, .ref b2, .int (nI n), .int (nI c0), .int (nI y)])), (b1, .inl (cJ, 320, .inr (.inl fw))), (h1, .inr (1, [.ref h4, .ref h3, .ref h2, .ref p4, .ref p5, .ref p6, .int fr])), (p4, .inl (cI, 9, .inl fq)), (p5, .inl (cJ, len, .inr (.inl eb))), (p6, .inl (cI, len, .inl ew)), (hB, .inr (0, [.ref h4, .ref h3, .ref l3]))]) hz3 hT0
  generalize hAe : va_A [(x0, .inr (6, [.ref h4, .ref h3, .ref h2, .ref h1, .ref hB, .ref h5])), (h4, .inr (4, [.ref a1, .ref a2, .ref a3, .int (nI n), .int (nI sa), .int (nI sv)])), (a1, .inl (cI, 9, .inl fg)), (a2, .inl (cI, 9, .inl fb)), (a3, .inl (cI, 9, .inl fp)), (h3, .inr (3, [.ref b1, .ref b2, .int (nI n), .int (nI c0), .int (nI y)])), (b1, .inl (cJ, 320, .inr (.inl fw))), (h1, .inr (1, [.ref h4, .ref h3, .ref h2, .ref p4, .ref p5, .ref p6, .int fr])), (p4, .inl (cI, 9, .inl fq)), (p5, .inl (cJ, len, .inr (.inl eb))), (p6, .inl (cI, len, .inl ew)), (hB, .inr (0, [.ref h4, .ref h3, .ref l3]))] s.heap.size = A at hD ⊢ hz9
  have hA : ∀ q : Nat, s.heap.size ≤ q → A q := fun q h => by rw [← hAe]; exact Or.inr h
  have hS : va_S A s.heap s.heap [] := va_S.rf
  have hzA := hz9.1
  have htA := hz9.2
  have hZ3 := hT0.Z hzA
  have hT3 := hT0.T htA
  have hl := lv_entry ([.ref x0, .int p0, .int wh]) (n := 3) (Nat.le_of_ble_eq_true rfl)
  rw [lg_entry_eq]
  generalize (lg_sl ([.ref x0, .int p0, .int wh]) ++ List.replicate (3 - (lg_sl ([.ref x0, .int p0, .int wh])).length) Slot.unset).toArray = ls at hl ⊢
  have hl : lv_has ls 3 [(0, .ref x0), (1, .int p0), (2, .int wh)] := hl
  generalize hQ : MQ below _ _ s _ _ _ = Q
  obtain ⟨H, hH⟩ : ∃ z, z = s.heap := ⟨_, rfl⟩
  have hP : va_P D vwCl [(x0, .inr (6, [.ref h4, .ref h3, .ref h2, .ref h1, .ref hB, .ref h5])), (h4, .inr (4, [.ref a1, .ref a2, .ref a3, .int (nI n), .int (nI sa), .int (nI sv)])), (a1, .inl (cI, 9, .inl fg)), (a2, .inl (cI, 9, .inl fb)), (a3, .inl (cI, 9, .inl fp)), (h3, .inr (3, [.ref b1, .ref b2, .int (nI n), .int (nI c0), .int (nI y)])), (b1, .inl (cJ, 320, .inr (.inl fw))), (h1, .inr (1, [.ref h4, .ref h3, .ref h2, .ref p4, .ref p5, .ref p6, .int fr])), (p4, .inl (cI, 9, .inl fq)), (p5, .inl (cJ, len, .inr (.inl eb))), (p6, .inl (cI, len, .inl ew)), (hB, .inr (0, [.ref h4, .ref h3, .ref l3]))] H := by rw [hH]; exact hP
  have hS : va_S A s.heap H [] := by rw [hH]; exact hS
  refine m_heap hH ?_
  clear hH
  have h2n := m_pow hn
  have h2p := m_powp n
  have h3n := m_3n hn
  have h3p := m_p3p n
  have ty9 : (nI y).toInt = (y : Int) := nI_toInt (by omega)
  have hy40 : y < 40 := by omega
  refine lv_aload_n hx hb dX6_of_0 rfl (lv_at hl 0 rfl) ?_
  refine va_get (D := D) (ci := 6) (v := .ref h4) (C := RX6) (T := TX6) (N := 6) hx hb hts hiX6 hown hK hP 0 rfl rfl 0 (by decide) hf10 (fun _ h9 => h9) rfl dX6_of_1 ?_
  refine lv_iload_n hx hb dX6_of_4 rfl (lv_at hl 1 rfl) ?_
  refine pu_i (va_runV (As := [.int p0]) (rest := []) ⟨hx, hb, hml, hown, hts⟩ (c_X4_has l D cI cJ cZ h4 a1 a2 a3 n (nI sa) (nI sv) p0 (by first | assumption | omega)) (cwV 1 hts gX6_of_X4_has rfl rfl rfl (by decide +kernel) ⟨Nat.le_of_ble_eq_true rfl, Nat.le_of_ble_eq_true rfl⟩) ⟨pc_blind, va_recv hK hP (ci := 4) (q0 := 1) rfl rfl, fun U hU hW => ⟨rfl, by rw [hU]; exact hP.sub (ws' := [(h4, .inr (4, [.ref a1, .ref a2, .ref a3, .int (nI n), .int (nI sa), .int (nI sv)]))]) [1] rfl, hKN.warm hW⟩⟩ rfl rfl hl.1 rfl (lv_room (Nat.le_of_ble_eq_true rfl)) dX6_of_5 ⟨(show 0 + 0 ≤ mc by omega), (show 0 + 0 ≤ ms by omega)⟩) hS hP (fun r1 H locs w1r hP hS => ?_)
  have w1 : B01 r1 (0 ≤ p0.toInt ∧ p0.toInt < n) := w1r
  clear w1r
  rcases w1 with ⟨rfl, w1⟩ | ⟨rfl, w1⟩
  · skip
    obtain ⟨j9, hj9, rfl⟩ := m_nat w1
    have tj9 : (nI j9).toInt = (j9 : Int) := nI_toInt (by omega)
    have hjt := m_tn (j := j9) (by omega)
    refine lv_if_eq (tgt := 33) hx hb dX6_of_8 (by decide) (fun c2 => ?_) (fun c2 => ?_)
    · exact absurd c2 (by first | decide | exact nz_lt (by omega) | exact fun h => h (nz_ge (by omega)))
    · skip
      refine lv_aload_n hx hb dX6_of_11 rfl (lv_at hl 0 rfl) ?_
      refine va_get (D := D) (ci := 6) (v := .ref h4) (C := RX6) (T := TX6) (N := 6) hx hb hts hiX6 hown hK hP 0 rfl rfl 0 (by decide) hf10 (fun _ h9 => h9) rfl dX6_of_12 ?_
      refine lv_iload_n hx hb dX6_of_15 rfl (lv_at hl 1 rfl) ?_
      refine pu_i (va_runV (As := [.int (nI j9)]) (rest := []) ⟨hx, hb, hml, hown, hts⟩ (c_X4_noted l D cI cJ cZ h4 a1 a2 a3 j9 (nI n) (nI sa) (nI sv)) (cwV 1 hts gX6_of_X4_noted rfl rfl rfl (by decide +kernel) ⟨Nat.le_of_ble_eq_true rfl, Nat.le_of_ble_eq_true rfl⟩) ⟨pc_blind, va_recv hK hP (ci := 4) (q0 := 1) rfl rfl, fun U hU hW => ⟨rfl, by rw [hU]; exact hP.sub (ws' := [(h4, .inr (4, [.ref a1, .ref a2, .ref a3, .int (nI n), .int (nI sa), .int (nI sv)]))]) [1] rfl, hKN.warm hW⟩⟩ rfl rfl hl.1 rfl (lv_room (Nat.le_of_ble_eq_true rfl)) dX6_of_16 ⟨(show 0 + 0 ≤ mc by omega), (show 0 + 0 ≤ ms by omega)⟩) hS hP (fun r3 H locs w3r hP hS => ?_)
      have w3 : r3 = if sb (nI sa) j9 = 0 then -1 else nI (sb (nI sv) j9) := w3r
      clear w3r
      have w16 := w3
      refine lv_iconst (v := (-1 : Int32)) hx hb dX6_of_19 (by decide) ?_
      refine lv_icmp_ne (tgt := 33) hx hb dX6_of_20 (by decide) (fun c4 => ?_) (fun c4 => ?_)
      · skip
        have hsb := nt_some w16 c4
        refine lv_ldc2 (v := (-2 : Int64)) hx hb hown (hts (.constantLong RX6 158 (-2 : Int64)) (by decide +kernel)) dX6_of_33 ?_
        refine W.widen (k := mc) (n := ms) (by omega) (by omega) ?_
        rw [← hQ]
        have hP9 := hP.sub (ws' := [(x0, .inr (6, [.ref h4, .ref h3, .ref h2, .ref h1, .ref hB, .ref h5])), (h4, .inr (4, [.ref a1, .ref a2, .ref a3, .int (nI n), .int (nI sa), .int (nI sv)])), (a1, .inl (cI, 9, .inl fg)), (a2, .inl (cI, 9, .inl fb)), (a3, .inl (cI, 9, .inl fp)), (h3, .inr (3, [.ref b1, .ref b2, .int (nI n), .int (nI c0), .int (nI y)])), (b1, .inl (cJ, 320, .inr (.inl fw))), (h1, .inr (1, [.ref h4, .ref h3, .ref h2, .ref p4, .ref p5, .ref p6, .int fr])), (p4, .inl (cI, 9, .inl fq)), (p5, .inl (cJ, len, .inr (.inl eb))), (p6, .inl (cI, len, .inl ew)), (hB, .inr (0, [.ref h4, .ref h3, .ref l3]))]) [0, 1, 2, 3, 4, 5, 6, 7, 8, 9, 10, 11] rfl
        have hD9 := hD.sub (ws' := [(x0, .inr (6, [.ref h4, .ref h3, .ref h2, .ref h1, .ref hB, .ref h5])), (h4, .inr (4, [.ref a1, .ref a2, .ref a3, .int (nI n), .int (nI sa), .int (nI sv)])), (a1, .inl (cI, 9, .inl fg)), (a2, .inl (cI, 9, .inl fb)), (a3, .inl (cI, 9, .inl fp)), (h3, .inr (3, [.ref b1, .ref b2, .int (nI n), .int (nI c0), .int (nI y)])), (b1, .inl (cJ, 320, .inr (.inl fw))), (h1, .inr (1, [.ref h4, .ref h3, .ref h2, .ref p4, .ref p5, .ref p6, .int fr])), (p4, .inl (cI, 9, .inl fq)), (p5, .inl (cJ, len, .inr (.inl eb))), (p6, .inl (cI, len, .inl ew)), (hB, .inr (0, [.ref h4, .ref h3, .ref l3]))]) [0, 1, 2, 3, 4, 5, 6, 7, 8, 9, 10, 11] (by decide) rfl
        exact W.lret (v := (-2 : Int64)) hx hb hr (fun tS htS hWS => ⟨⟨(-2 : Int64), (p5, p6, len, fq, eb, ew, fr), rfl, by first | exact FS.no (fun h => hnp h.1) hfr hlen | exact FS.no (fun h => hsb (by have g := h.2.1; rw [hjt] at g; exact g)) hfr hlen, m_at htS hP9, hD9⟩, hS.F htS⟩) hS.2.2 dX6_of_36
      · skip
        have hsb := nt_none w16 c4
        have hsm := mb_sb (a := sa) (j := j9) (by omega) (by omega)
        refine lv_aload_n hx hb dX6_of_23 rfl (lv_at hl 0 rfl) ?_
        refine va_get (D := D) (ci := 6) (v := .ref h3) (C := RX6) (T := TX6) (N := 6) hx hb hts hiX6 hown hK hP 0 rfl rfl 1 (by decide) hf19 (fun _ h9 => h9) rfl dX6_of_24 ?_
        refine pu_i (va_runV (As := []) (rest := []) ⟨hx, hb, hml, hown, hts⟩ (c_X3_hasSystem l D cI cJ cZ h3 b1 b2 c0 (nI n) (nI y) (by first | assumption | omega)) (cwV 0 hts gX6_of_X3_hasSystem rfl rfl rfl (by decide +kernel) ⟨Nat.le_of_ble_eq_true rfl, Nat.le_of_ble_eq_true rfl⟩) ⟨pc_blind, va_recv hK hP (ci := 3) (q0 := 5) rfl rfl, fun U hU hW => ⟨rfl, by rw [hU]; exact hP.sub (ws' := [(h3, .inr (3, [.ref b1, .ref b2, .int (nI n), .int (nI c0), .int (nI y)]))]) [5] rfl, hKN.warm hW⟩⟩ rfl rfl hl.1 rfl (lv_room (Nat.le_of_ble_eq_true rfl)) dX6_of_27 ⟨(show 0 + 0 ≤ mc by omega), (show 0 + 0 ≤ ms by omega)⟩) hS hP (fun r5 H locs w5r hP hS => ?_)
        have w5 : B01 r5 (0 ≤ (nI y).toInt ∧ (nI y).toInt < c0) := w5r
        clear w5r
        rcases w5 with ⟨rfl, w5⟩ | ⟨rfl, w5⟩
        · skip
          refine lv_if_ne (tgt := 37) hx hb dX6_of_30 (by decide) (fun c6 => ?_) (fun c6 => ?_)
          · skip
            refine lv_iload_n hx hb dX6_of_37 rfl (lv_at hl 2 rfl) ?_
            by_cases c7 : wh = nI 0
            · refine cn_i (y := nI 0) c7 ?_
              refine lv_lookup (tgt := 64) (off := 26) hx hb dX6_of_38 (by decide) (by decide) (by decide) ?_
              refine lv_aload_n hx hb dX6_of_64 rfl (lv_at hl 0 rfl) ?_
              refine va_get (D := D) (ci := 6) (v := .ref h1) (C := RX6) (T := TX6) (N := 6) hx hb hts hiX6 hown hK hP 0 rfl rfl 3 (by decide) hf35 (fun _ h9 => h9) rfl dX6_of_65 ?_
              refine lv_iload_n hx hb dX6_of_68 rfl (lv_at hl 1 rfl) ?_
              have hPc := hP.sub (ws' := [(h1, .inr (1, [.ref h4, .ref h3, .ref h2, .ref p4, .ref p5, .ref p6, .int fr])), (h4, .inr (4, [.ref a1, .ref a2, .ref a3, .int (nI n), .int (nI sa), .int (nI sv)])), (a1, .inl (cI, 9, .inl fg)), (a2, .inl (cI, 9, .inl fb)), (a3, .inl (cI, 9, .inl fp)), (p4, .inl (cI, 9, .inl fq)), (p5, .inl (cJ, len, .inr (.inl eb))), (p6, .inl (cI, len, .inl ew)), (h3, .inr (3, [.ref b1, .ref b2, .int (nI n), .int (nI c0), .int (nI y)])), (b1, .inl (cJ, 320, .inr (.inl fw)))]) [7, 1, 2, 3, 4, 8, 9, 10, 5, 6] rfl
              have hDc := hD.sub (ws' := [(h1, .inr (1, [.ref h4, .ref h3, .ref h2, .ref p4, .ref p5, .ref p6, .int fr])), (h4, .inr (4, [.ref a1, .ref a2, .ref a3, .int (nI n), .int (nI sa), .int (nI sv)])), (a1, .inl (cI, 9, .inl fg)), (a2, .inl (cI, 9, .inl fb)), (a3, .inl (cI, 9, .inl fp)), (p4, .inl (cI, 9, .inl fq)), (p5, .inl (cJ, len, .inr (.inl eb))), (p6, .inl (cI, len, .inl ew)), (h3, .inr (3, [.ref b1, .ref b2, .int (nI n), .int (nI c0), .int (nI y)])), (b1, .inl (cJ, 320, .inr (.inl fw)))]) [7, 1, 2, 3, 4, 8, 9, 10, 5, 6] (by decide) rfl
              have hFc := va_free (wc := [(h1, .inr (1, [.ref h4, .ref h3, .ref h2, .ref p4, .ref p5, .ref p6, .int fr])), (h4, .inr (4, [.ref a1, .ref a2, .ref a3, .int (nI n), .int (nI sa), .int (nI sv)])), (a1, .inl (cI, 9, .inl fg)), (a2, .inl (cI, 9, .inl fb)), (a3, .inl (cI, 9, .inl fp)), (p4, .inl (cI, 9, .inl fq)), (p5, .inl (cJ, len, .inr (.inl eb))), (p6, .inl (cI, len, .inl ew)), (h3, .inr (3, [.ref b1, .ref b2, .int (nI n), .int (nI c0), .int (nI y)])), (b1, .inl (cJ, 320, .inr (.inl fw)))]) hD hS hA [7, 1, 2, 3, 4, 8, 9, 10, 5, 6] rfl
              refine va_calll (va_runV (As := [.int (nI j9)]) (rest := []) ⟨hx, hb, hml, hown, hts⟩ (c_X1_gain l D cI cJ cZ z3 t3 H.size mc ms h1 h4 h3 h2 p4 p5 p6 a1 a2 a3 n b1 b2 y len (nI n) (nI c0) fr fg fb fp fq eb ew fw sa sv j9 (by first | assumption | omega) (by first | assumption | omega) (by first | assumption | omega) (by first | assumption | omega) (by first | assumption | omega) (by exact fun a b _ => hbud a b ⟨by omega, by rw [hjt]; exact hsb, by assumption⟩) (by first | assumption | omega) (by first | assumption | omega) (by first | assumption | omega) (by rw [← hsm]; exact hsb) ((nz3.D hD hzA htA).sub [7, 1, 2, 3, 4, 8, 9, 10, 5, 6] rfl)) (cwV 1 hts gX6_of_X1_gain rfl rfl rfl (by decide +kernel) ⟨Nat.le_of_ble_eq_true rfl, Nat.le_of_ble_eq_true rfl⟩) ⟨pnT_blind, va_recv hK hP (ci := 1) (q0 := 7) rfl rfl, fun U hU hW => ⟨rfl, by rw [hU], by rw [hU]; exact hPc, hKN.warm hW, hT0.go hS hzA htA hW hU, hDc.weaken (fun _ _ _ _ => trivial)⟩⟩ rfl rfl hl.1 rfl (lv_room (Nat.le_of_ble_eq_true rfl)) dX6_of_69 ⟨(show 0 + mc ≤ mc by omega), (show 0 + ms ≤ ms by omega)⟩) hS (fun q _ h => hFc q h) hFc (fun r8 u t H1 locs ht hvm hw hB hz1 hk1 hS => ?_)
              obtain ⟨u8_w5, u8_w6, u8_ul, u8_uq, u8_ub, u8_uw⟩ := u
              have w8 : FS fr len n True (nI 1) u8_ul ∧ 3 ^ n ≤ u8_ul := hw
              obtain ⟨hP1, hD1⟩ := hB
              rw [ht] at hP1
              have hP1 : va_P D vwCl [(h1, .inr (1, [.ref h4, .ref h3, .ref h2, .ref p4, .ref u8_w5, .ref u8_w6, .int (nI 1)])), (h4, .inr (4, [.ref a1, .ref a2, .ref a3, .int (nI n), .int (nI sa), .int (nI sv)])), (a1, .inl (cI, 9, .inl fg)), (a2, .inl (cI, 9, .inl fb)), (a3, .inl (cI, 9, .inl fp)), (p4, .inl (cI, 9, .inl u8_uq)), (u8_w5, .inl (cJ, u8_ul, .inr (.inl u8_ub))), (u8_w6, .inl (cI, u8_ul, .inl u8_uw)), (h3, .inr (3, [.ref b1, .ref b2, .int (nI n), .int (nI c0), .int (nI y)])), (b1, .inl (cJ, 320, .inr (.inl fw)))] H1 := hP1
              have hD1 : va_D _ [(h1, .inr (1, [.ref h4, .ref h3, .ref h2, .ref p4, .ref u8_w5, .ref u8_w6, .int (nI 1)])), (h4, .inr (4, [.ref a1, .ref a2, .ref a3, .int (nI n), .int (nI sa), .int (nI sv)])), (a1, .inl (cI, 9, .inl fg)), (a2, .inl (cI, 9, .inl fb)), (a3, .inl (cI, 9, .inl fp)), (p4, .inl (cI, 9, .inl u8_uq)), (u8_w5, .inl (cJ, u8_ul, .inr (.inl u8_ub))), (u8_w6, .inl (cI, u8_ul, .inl u8_uw)), (h3, .inr (3, [.ref b1, .ref b2, .int (nI n), .int (nI c0), .int (nI y)])), (b1, .inl (cJ, 320, .inr (.inl fw)))] := hD1
              obtain ⟨hP, hD⟩ := va_join (wr := [(x0, .inr (6, [.ref h4, .ref h3, .ref h2, .ref h1, .ref hB, .ref h5])), (hB, .inr (0, [.ref h4, .ref h3, .ref l3]))]) (w1 := [(h1, .inr (1, [.ref h4, .ref h3, .ref h2, .ref p4, .ref u8_w5, .ref u8_w6, .int (nI 1)])), (h4, .inr (4, [.ref a1, .ref a2, .ref a3, .int (nI n), .int (nI sa), .int (nI sv)])), (a1, .inl (cI, 9, .inl fg)), (a2, .inl (cI, 9, .inl fb)), (a3, .inl (cI, 9, .inl fp)), (p4, .inl (cI, 9, .inl u8_uq)), (u8_w5, .inl (cJ, u8_ul, .inr (.inl u8_ub))), (u8_w6, .inl (cI, u8_ul, .inl u8_uw)), (h3, .inr (3, [.ref b1, .ref b2, .int (nI n), .int (nI c0), .int (nI y)])), (b1, .inl (cJ, 320, .inr (.inl fw)))]) hP hD [7, 1, 2, 3, 4, 8, 9, 10, 5, 6] [0, 11] rfl rfl (by decide) (by decide) hk1 hFc hP1 hD1
              generalize H1 = H at hP hS ⊢
              have hP := hP.sub (ws' := [(x0, .inr (6, [.ref h4, .ref h3, .ref h2, .ref h1, .ref hB, .ref h5])), (h4, .inr (4, [.ref a1, .ref a2, .ref a3, .int (nI n), .int (nI sa), .int (nI sv)])), (a1, .inl (cI, 9, .inl fg)), (a2, .inl (cI, 9, .inl fb)), (a3, .inl (cI, 9, .inl fp)), (h3, .inr (3, [.ref b1, .ref b2, .int (nI n), .int (nI c0), .int (nI y)])), (b1, .inl (cJ, 320, .inr (.inl fw))), (h1, .inr (1, [.ref h4, .ref h3, .ref h2, .ref p4, .ref u8_w5, .ref u8_w6, .int (nI 1)])), (p4, .inl (cI, 9, .inl u8_uq)), (u8_w5, .inl (cJ, u8_ul, .inr (.inl u8_ub))), (u8_w6, .inl (cI, u8_ul, .inl u8_uw)), (hB, .inr (0, [.ref h4, .ref h3, .ref l3]))]) [0, 3, 4, 5, 6, 10, 11, 2, 7, 8, 9, 1] rfl
              have hD := hD.sub (ws' := [(x0, .inr (6, [.ref h4, .ref h3, .ref h2, .ref h1, .ref hB, .ref h5])), (h4, .inr (4, [.ref a1, .ref a2, .ref a3, .int (nI n), .int (nI sa), .int (nI sv)])), (a1, .inl (cI, 9, .inl fg)), (a2, .inl (cI, 9, .inl fb)), (a3, .inl (cI, 9, .inl fp)), (h3, .inr (3, [.ref b1, .ref b2, .int (nI n), .int (nI c0), .int (nI y)])), (b1, .inl (cJ, 320, .inr (.inl fw))), (h1, .inr (1, [.ref h4, .ref h3, .ref h2, .ref p4, .ref u8_w5, .ref u8_w6, .int (nI 1)])), (p4, .inl (cI, 9, .inl u8_uq)), (u8_w5, .inl (cJ, u8_ul, .inr (.inl u8_ub))), (u8_w6, .inl (cI, u8_ul, .inl u8_uw)), (hB, .inr (0, [.ref h4, .ref h3, .ref l3]))]) [0, 3, 4, 5, 6, 10, 11, 2, 7, 8, 9, 1] (by decide) rfl
              have hP : va_P D vwCl [(x0, .inr (6, [.ref h4, .ref h3, .ref h2, .ref h1, .ref hB, .ref h5])), (h4, .inr (4, [.ref a1, .ref a2, .ref a3, .int (nI n), .int (nI sa), .int (nI sv)])), (a1, .inl (cI, 9, .inl fg)), (a2, .inl (cI, 9, .inl fb)), (a3, .inl (cI, 9, .inl fp)), (h3, .inr (3, [.ref b1, .ref b2, .int (nI n), .int (nI c0), .int (nI y)])), (b1, .inl (cJ, 320, .inr (.inl fw))), (h1, .inr (1, [.ref h4, .ref h3, .ref h2, .ref p4, .ref u8_w5, .ref u8_w6, .int (nI 1)])), (p4, .inl (cI, 9, .inl u8_uq)), (u8_w5, .inl (cJ, u8_ul, .inr (.inl u8_ub))), (u8_w6, .inl (cI, u8_ul, .inl u8_uw)), (hB, .inr (0, [.ref h4, .ref h3, .ref l3]))] H := hP
              have hD : va_D A [(x0, .inr (6, [.ref h4, .ref h3, .ref h2, .ref h1, .ref hB, .ref h5])), (h4, .inr (4, [.ref a1, .ref a2, .ref a3, .int (nI n), .int (nI sa), .int (nI sv)])), (a1, .inl (cI, 9, .inl fg)), (a2, .inl (cI, 9, .inl fb)), (a3, .inl (cI, 9, .inl fp)), (h3, .inr (3, [.ref b1, .ref b2, .int (nI n), .int (nI c0), .int (nI y)])), (b1, .inl (cJ, 320, .inr (.inl fw))), (h1, .inr (1, [.ref h4, .ref h3, .ref h2, .ref p4, .ref u8_w5, .ref u8_w6, .int (nI 1)])), (p4, .inl (cI, 9, .inl u8_uq)), (u8_w5, .inl (cJ, u8_ul, .inr (.inl u8_ub))), (u8_w6, .inl (cI, u8_ul, .inl u8_uw)), (hB, .inr (0, [.ref h4, .ref h3, .ref l3]))] := hD
              refine W.widen (k := mc) (n := ms) (by omega) (by omega) ?_
              refine W.widen (k := mc) (n := ms) (by omega) (by omega) ?_
              rw [← hQ]
              have hP9 := hP.sub (ws' := [(x0, .inr (6, [.ref h4, .ref h3, .ref h2, .ref h1, .ref hB, .ref h5])), (h4, .inr (4, [.ref a1, .ref a2, .ref a3, .int (nI n), .int (nI sa), .int (nI sv)])), (a1, .inl (cI, 9, .inl fg)), (a2, .inl (cI, 9, .inl fb)), (a3, .inl (cI, 9, .inl fp)), (h3, .inr (3, [.ref b1, .ref b2, .int (nI n), .int (nI c0), .int (nI y)])), (b1, .inl (cJ, 320, .inr (.inl fw))), (h1, .inr (1, [.ref h4, .ref h3, .ref h2, .ref p4, .ref u8_w5, .ref u8_w6, .int (nI 1)])), (p4, .inl (cI, 9, .inl u8_uq)), (u8_w5, .inl (cJ, u8_ul, .inr (.inl u8_ub))), (u8_w6, .inl (cI, u8_ul, .inl u8_uw)), (hB, .inr (0, [.ref h4, .ref h3, .ref l3]))]) [0, 1, 2, 3, 4, 5, 6, 7, 8, 9, 10, 11] rfl
              have hD9 := hD.sub (ws' := [(x0, .inr (6, [.ref h4, .ref h3, .ref h2, .ref h1, .ref hB, .ref h5])), (h4, .inr (4, [.ref a1, .ref a2, .ref a3, .int (nI n), .int (nI sa), .int (nI sv)])), (a1, .inl (cI, 9, .inl fg)), (a2, .inl (cI, 9, .inl fb)), (a3, .inl (cI, 9, .inl fp)), (h3, .inr (3, [.ref b1, .ref b2, .int (nI n), .int (nI c0), .int (nI y)])), (b1, .inl (cJ, 320, .inr (.inl fw))), (h1, .inr (1, [.ref h4, .ref h3, .ref h2, .ref p4, .ref u8_w5, .ref u8_w6, .int (nI 1)])), (p4, .inl (cI, 9, .inl u8_uq)), (u8_w5, .inl (cJ, u8_ul, .inr (.inl u8_ub))), (u8_w6, .inl (cI, u8_ul, .inl u8_uw)), (hB, .inr (0, [.ref h4, .ref h3, .ref l3]))]) [0, 1, 2, 3, 4, 5, 6, 7, 8, 9, 10, 11] (by decide) rfl
              exact W.lret (v := r8) hx hb hr (fun tS htS hWS => ⟨⟨r8, (u8_w5, u8_w6, u8_ul, u8_uq, u8_ub, u8_uw, nI 1), rfl, FS.mono ⟨by omega, by rw [hjt]; exact hsb, by assumption⟩ w8.1, m_at htS hP9, hD9⟩, hS.F htS⟩) hS.2.2 dX6_of_72
            by_cases c9 : wh = nI 1
            · refine cn_i (y := nI 1) c9 ?_
              refine lv_lookup (tgt := 73) (off := 35) hx hb dX6_of_38 (by decide) (by decide) (by decide) ?_
              refine lv_aload_n hx hb dX6_of_73 rfl (lv_at hl 0 rfl) ?_
              refine va_get (D := D) (ci := 6) (v := .ref hB) (C := RX6) (T := TX6) (N := 6) hx hb hts hiX6 hown hK hP 0 rfl rfl 4 (by decide) hf44 (fun _ h9 => h9) rfl dX6_of_74 ?_
              refine lv_iload_n hx hb dX6_of_77 rfl (lv_at hl 1 rfl) ?_
              refine pu_l (va_runV (As := [.int (nI j9)]) (rest := []) ⟨hx, hb, hml, hown, hts⟩ (c_X0_matters l D cI cJ cZ hB h4 h3 l3 a1 a2 a3 b1 b2 n y j9 (nI sa) (nI sv) (nI c0) fg fb fp fw (by first | assumption | omega) (by first | assumption | omega) (by first | assumption | omega)) (cwV 1 hts gX6_of_X0_matters rfl rfl rfl (by decide +kernel) ⟨Nat.le_of_ble_eq_true rfl, Nat.le_of_ble_eq_true rfl⟩) ⟨pc_blind, va_recv hK hP (ci := 0) (q0 := 11) rfl rfl, fun U hU hW => ⟨rfl, by rw [hU]; exact hP.sub (ws' := [(hB, .inr (0, [.ref h4, .ref h3, .ref l3])), (h4, .inr (4, [.ref a1, .ref a2, .ref a3, .int (nI n), .int (nI sa), .int (nI sv)])), (a1, .inl (cI, 9, .inl fg)), (a2, .inl (cI, 9, .inl fb)), (a3, .inl (cI, 9, .inl fp)), (h3, .inr (3, [.ref b1, .ref b2, .int (nI n), .int (nI c0), .int (nI y)])), (b1, .inl (cJ, 320, .inr (.inl fw)))]) [11, 1, 2, 3, 4, 5, 6] rfl, hKN.warm hW⟩⟩ rfl rfl hl.1 rfl (lv_room (Nat.le_of_ble_eq_true rfl)) dX6_of_78 ⟨(show 0 + 0 ≤ mc by omega), (show 0 + 0 ≤ ms by omega)⟩) hS hP (fun r10 H locs w10r hP hS => ?_)
              have w10 : True := w10r
              clear w10r
              refine W.widen (k := mc) (n := ms) (by omega) (by omega) ?_
              rw [← hQ]
              have hP9 := hP.sub (ws' := [(x0, .inr (6, [.ref h4, .ref h3, .ref h2, .ref h1, .ref hB, .ref h5])), (h4, .inr (4, [.ref a1, .ref a2, .ref a3, .int (nI n), .int (nI sa), .int (nI sv)])), (a1, .inl (cI, 9, .inl fg)), (a2, .inl (cI, 9, .inl fb)), (a3, .inl (cI, 9, .inl fp)), (h3, .inr (3, [.ref b1, .ref b2, .int (nI n), .int (nI c0), .int (nI y)])), (b1, .inl (cJ, 320, .inr (.inl fw))), (h1, .inr (1, [.ref h4, .ref h3, .ref h2, .ref p4, .ref p5, .ref p6, .int fr])), (p4, .inl (cI, 9, .inl fq)), (p5, .inl (cJ, len, .inr (.inl eb))), (p6, .inl (cI, len, .inl ew)), (hB, .inr (0, [.ref h4, .ref h3, .ref l3]))]) [0, 1, 2, 3, 4, 5, 6, 7, 8, 9, 10, 11] rfl
              have hD9 := hD.sub (ws' := [(x0, .inr (6, [.ref h4, .ref h3, .ref h2, .ref h1, .ref hB, .ref h5])), (h4, .inr (4, [.ref a1, .ref a2, .ref a3, .int (nI n), .int (nI sa), .int (nI sv)])), (a1, .inl (cI, 9, .inl fg)), (a2, .inl (cI, 9, .inl fb)), (a3, .inl (cI, 9, .inl fp)), (h3, .inr (3, [.ref b1, .ref b2, .int (nI n), .int (nI c0), .int (nI y)])), (b1, .inl (cJ, 320, .inr (.inl fw))), (h1, .inr (1, [.ref h4, .ref h3, .ref h2, .ref p4, .ref p5, .ref p6, .int fr])), (p4, .inl (cI, 9, .inl fq)), (p5, .inl (cJ, len, .inr (.inl eb))), (p6, .inl (cI, len, .inl ew)), (hB, .inr (0, [.ref h4, .ref h3, .ref l3]))]) [0, 1, 2, 3, 4, 5, 6, 7, 8, 9, 10, 11] (by decide) rfl
              exact W.lret (v := r10) hx hb hr (fun tS htS hWS => ⟨⟨r10, (p5, p6, len, fq, eb, ew, fr), rfl, FS.no (fun h => absurd h.2.2 (by assumption)) hfr hlen, m_at htS hP9, hD9⟩, hS.F htS⟩) hS.2.2 dX6_of_81
            refine lv_lookup (tgt := 82) (off := 44) hx hb dX6_of_38 (by decide) (show Op.lookupswitch.offset [(0, 26), (1, 35)] 44 wh.toInt = 44 from ((lv_osw c7 (by decide)).trans ((lv_osw c9 (by decide)).trans rfl))) (by decide) ?_
            refine lv_ldc2 (v := (-2 : Int64)) hx hb hown (hts (.constantLong RX6 158 (-2 : Int64)) (by decide +kernel)) dX6_of_82 ?_
            refine W.widen (k := mc) (n := ms) (by omega) (by omega) ?_
            rw [← hQ]
            have hP9 := hP.sub (ws' := [(x0, .inr (6, [.ref h4, .ref h3, .ref h2, .ref h1, .ref hB, .ref h5])), (h4, .inr (4, [.ref a1, .ref a2, .ref a3, .int (nI n), .int (nI sa), .int (nI sv)])), (a1, .inl (cI, 9, .inl fg)), (a2, .inl (cI, 9, .inl fb)), (a3, .inl (cI, 9, .inl fp)), (h3, .inr (3, [.ref b1, .ref b2, .int (nI n), .int (nI c0), .int (nI y)])), (b1, .inl (cJ, 320, .inr (.inl fw))), (h1, .inr (1, [.ref h4, .ref h3, .ref h2, .ref p4, .ref p5, .ref p6, .int fr])), (p4, .inl (cI, 9, .inl fq)), (p5, .inl (cJ, len, .inr (.inl eb))), (p6, .inl (cI, len, .inl ew)), (hB, .inr (0, [.ref h4, .ref h3, .ref l3]))]) [0, 1, 2, 3, 4, 5, 6, 7, 8, 9, 10, 11] rfl
            have hD9 := hD.sub (ws' := [(x0, .inr (6, [.ref h4, .ref h3, .ref h2, .ref h1, .ref hB, .ref h5])), (h4, .inr (4, [.ref a1, .ref a2, .ref a3, .int (nI n), .int (nI sa), .int (nI sv)])), (a1, .inl (cI, 9, .inl fg)), (a2, .inl (cI, 9, .inl fb)), (a3, .inl (cI, 9, .inl fp)), (h3, .inr (3, [.ref b1, .ref b2, .int (nI n), .int (nI c0), .int (nI y)])), (b1, .inl (cJ, 320, .inr (.inl fw))), (h1, .inr (1, [.ref h4, .ref h3, .ref h2, .ref p4, .ref p5, .ref p6, .int fr])), (p4, .inl (cI, 9, .inl fq)), (p5, .inl (cJ, len, .inr (.inl eb))), (p6, .inl (cI, len, .inl ew)), (hB, .inr (0, [.ref h4, .ref h3, .ref l3]))]) [0, 1, 2, 3, 4, 5, 6, 7, 8, 9, 10, 11] (by decide) rfl
            exact W.lret (v := (-2 : Int64)) hx hb hr (fun tS htS hWS => ⟨⟨(-2 : Int64), (p5, p6, len, fq, eb, ew, fr), rfl, FS.no (fun h => absurd h.2.2 (by assumption)) hfr hlen, m_at htS hP9, hD9⟩, hS.F htS⟩) hS.2.2 dX6_of_85
          · exact absurd c6 (by first | decide | exact nz_lt (by omega) | exact fun h => h (nz_ge (by omega)))
        · exact absurd ⟨by omega, by omega⟩ w5
  · skip
    have hnp := w1
    refine lv_if_eq (tgt := 33) hx hb dX6_of_8 (by decide) (fun c11 => ?_) (fun c11 => ?_)
    · skip
      refine lv_ldc2 (v := (-2 : Int64)) hx hb hown (hts (.constantLong RX6 158 (-2 : Int64)) (by decide +kernel)) dX6_of_33 ?_
      refine W.widen (k := mc) (n := ms) (by omega) (by omega) ?_
      rw [← hQ]
      have hP9 := hP.sub (ws' := [(x0, .inr (6, [.ref h4, .ref h3, .ref h2, .ref h1, .ref hB, .ref h5])), (h4, .inr (4, [.ref a1, .ref a2, .ref a3, .int (nI n), .int (nI sa), .int (nI sv)])), (a1, .inl (cI, 9, .inl fg)), (a2, .inl (cI, 9, .inl fb)), (a3, .inl (cI, 9, .inl fp)), (h3, .inr (3, [.ref b1, .ref b2, .int (nI n), .int (nI c0), .int (nI y)])), (b1, .inl (cJ, 320, .inr (.inl fw))), (h1, .inr (1, [.ref h4, .ref h3, .ref h2, .ref p4, .ref p5, .ref p6, .int fr])), (p4, .inl (cI, 9, .inl fq)), (p5, .inl (cJ, len, .inr (.inl eb))), (p6, .inl (cI, len, .inl ew)), (hB, .inr (0, [.ref h4, .ref h3, .ref l3]))]) [0, 1, 2, 3, 4, 5, 6, 7, 8, 9, 10, 11] rfl
      have hD9 := hD.sub (ws' := [(x0, .inr (6, [.ref h4, .ref h3, .ref h2, .ref h1, .ref hB, .ref h5])), (h4, .inr (4, [.ref a1, .ref a2, .ref a3, .int (nI n), .int (nI sa), .int (nI sv)])), (a1, .inl (cI, 9, .inl fg)), (a2, .inl (cI, 9, .inl fb)), (a3, .inl (cI, 9, .inl fp)), (h3, .inr (3, [.ref b1, .ref b2, .int (nI n), .int (nI c0), .int (nI y)])), (b1, .inl (cJ, 320, .inr (.inl fw))), (h1, .inr (1, [.ref h4, .ref h3, .ref h2, .ref p4, .ref p5, .ref p6, .int fr])), (p4, .inl (cI, 9, .inl fq)), (p5, .inl (cJ, len, .inr (.inl eb))), (p6, .inl (cI, len, .inl ew)), (hB, .inr (0, [.ref h4, .ref h3, .ref l3]))]) [0, 1, 2, 3, 4, 5, 6, 7, 8, 9, 10, 11] (by decide) rfl
      exact W.lret (v := (-2 : Int64)) hx hb hr (fun tS htS hWS => ⟨⟨(-2 : Int64), (p5, p6, len, fq, eb, ew, fr), rfl, by first | exact FS.no (fun h => hnp h.1) hfr hlen | exact FS.no (fun h => hsb (by have g := h.2.1; rw [hjt] at g; exact g)) hfr hlen, m_at htS hP9, hD9⟩, hS.F htS⟩) hS.2.2 dX6_of_36
    · exact absurd c11 (by first | decide | exact nz_lt (by omega) | exact fun h => h (nz_ge (by omega)))
def rm_c_X6_follow_g (mc ms : Nat) : Room := { frames := 14, cells := mc, slots := ms, locals := 390 }
set_option maxHeartbeats 400000 in
set_option maxRecDepth 100000 in
theorem c_X6_follow_g (l : Launch) (D : va_G) (cI cJ cZ : ClassId) (z3 t3 : Nat) (sz : Nat) (mc ms : Nat) (x0 : Nat) (h4 : Nat) (h3 : Nat) (h2 : Nat) (h1 : Nat) (hB : Nat) (h5 : Nat) (a1 : Nat) (a2 : Nat) (a3 : Nat) (b1 : Nat) (b2 : Nat) (p4 : Nat) (p5 : Nat) (p6 : Nat) (lk1 : Nat) (n : Nat) (c0 : Nat) (y : Nat) (sa : Nat) (len : Nat) (j : Nat) (pl : Nat) (fr : Int32) (sg : Int32) (tc : Int32) (fg : Nat → Int32) (fb : Nat → Int32) (fp : Nat → Int32) (fq : Nat → Int32) (eb : Nat → Int64) (ew : Nat → Int32) (fw : Nat → Int64) (fk : Nat → Int32) (hn : n ≤ 9) (h1n : 1 ≤ n) (hc : c0 ≤ 40) (hy : y < c0) (hsa : sa < 2 ^ n) (hj : j < 512) (hlen : len ≤ 19683) (hfr : fr = 0 ∨ fr = nI 1 ∧ 3 ^ n ≤ len) (hbud : fr = 0 → len < 3 ^ n → (NV fw y (j &&& sa) ((2 ^ n - 1) ^^^ sa)) → 2 ≤ mc ∧ 2 * 3 ^ n ≤ ms) (hpl : pl < 2) (hz3 : nz3 z3 t3 [x0, h4, a1, a2, a3, h3, b1, h1, p4, p5, p6, h5, lk1]) : Met l yX6_follow wsX6_follow (rm_c_X6_follow_g mc ms) (pnT_ D cI cJ cZ z3 t3 sz [.ref x0, .int (nI pl), .int (nI j)] [(x0, .inr (6, [.ref h4, .ref h3, .ref h2, .ref h1, .ref hB, .ref h5])), (h4, .inr (4, [.ref a1, .ref a2, .ref a3, .int (nI n), .int (nI sa), .int sg])), (a1, .inl (cI, 9, .inl fg)), (a2, .inl (cI, 9, .inl fb)), (a3, .inl (cI, 9, .inl fp)), (h3, .inr (3, [.ref b1, .ref b2, .int (nI n), .int (nI c0), .int (nI y)])), (b1, .inl (cJ, 320, .inr (.inl fw))), (h1, .inr (1, [.ref h4, .ref h3, .ref h2, .ref p4, .ref p5, .ref p6, .int fr])), (p4, .inl (cI, 9, .inl fq)), (p5, .inl (cJ, len, .inr (.inl eb))), (p6, .inl (cI, len, .inl ew)), (h5, .inr (5, [.ref lk1, .int tc])), (lk1, .inl (cI, 9, .inl fk))]) (va_Qi (fun (r : Int32) (u : Nat × Nat × Nat × (Nat → Int32) × (Nat → Int64) × (Nat → Int32) × Int32 × Int32 × (Nat → Int32)) => FS fr len n (NV fw y (j &&& sa) ((2 ^ n - 1) ^^^ sa)) u.2.2.2.2.2.2.1 u.2.2.1 ∧ ∃ x, x ≤ 9 ∧ u.2.2.2.2.2.2.2.1 = nI x) (fun (u : Nat × Nat × Nat × (Nat → Int32) × (Nat → Int64) × (Nat → Int32) × Int32 × Int32 × (Nat → Int32)) tS => va_P D vwCl [(x0, .inr (6, [.ref h4, .ref h3, .ref h2, .ref h1, .ref hB, .ref h5])), (h4, .inr (4, [.ref a1, .ref a2, .ref a3, .int (nI n), .int (nI sa), .int sg])), (a1, .inl (cI, 9, .inl fg)), (a2, .inl (cI, 9, .inl fb)), (a3, .inl (cI, 9, .inl fp)), (h3, .inr (3, [.ref b1, .ref b2, .int (nI n), .int (nI c0), .int (nI y)])), (b1, .inl (cJ, 320, .inr (.inl fw))), (h1, .inr (1, [.ref h4, .ref h3, .ref h2, .ref p4, .ref u.1, .ref u.2.1, .int u.2.2.2.2.2.2.1])), (p4, .inl (cI, 9, .inl u.2.2.2.1)), (u.1, .inl (cJ, u.2.2.1, .inr (.inl u.2.2.2.2.1))), (u.2.1, .inl (cI, u.2.2.1, .inl u.2.2.2.2.2.1)), (h5, .inr (5, [.ref lk1, .int u.2.2.2.2.2.2.2.1])), (lk1, .inl (cI, 9, .inl u.2.2.2.2.2.2.2.2))] tS.heap ∧ va_D (va_A [(x0, .inr (6, [.ref h4, .ref h3, .ref h2, .ref h1, .ref hB, .ref h5])), (h4, .inr (4, [.ref a1, .ref a2, .ref a3, .int (nI n), .int (nI sa), .int sg])), (a1, .inl (cI, 9, .inl fg)), (a2, .inl (cI, 9, .inl fb)), (a3, .inl (cI, 9, .inl fp)), (h3, .inr (3, [.ref b1, .ref b2, .int (nI n), .int (nI c0), .int (nI y)])), (b1, .inl (cJ, 320, .inr (.inl fw))), (h1, .inr (1, [.ref h4, .ref h3, .ref h2, .ref p4, .ref p5, .ref p6, .int fr])), (p4, .inl (cI, 9, .inl fq)), (p5, .inl (cJ, len, .inr (.inl eb))), (p6, .inl (cI, len, .inl ew)), (h5, .inr (5, [.ref lk1, .int tc])), (lk1, .inl (cI, 9, .inl fk))] sz) [(x0, .inr (6, [.ref h4, .ref h3, .ref h2, .ref h1, .ref hB, .ref h5])), (h4, .inr (4, [.ref a1, .ref a2, .ref a3, .int (nI n), .int (nI sa), .int sg])), (a1, .inl (cI, 9, .inl fg)), (a2, .inl (cI, 9, .inl fb)), (a3, .inl (cI, 9, .inl fp)), (h3, .inr (3, [.ref b1, .ref b2, .int (nI n), .int (nI c0), .int (nI y)])), (b1, .inl (cJ, 320, .inr (.inl fw))), (h1, .inr (1, [.ref h4, .ref h3, .ref h2, .ref p4, .ref u.1, .ref u.2.1, .int u.2.2.2.2.2.2.1])), (p4, .inl (cI, 9, .inl u.2.2.2.1)), (u.1, .inl (cJ, u.2.2.1, .inr (.inl u.2.2.2.2.1))), (u.2.1, .inl (cI, u.2.2.1, .inl u.2.2.2.2.2.1)), (h5, .inr (5, [.ref lk1, .int u.2.2.2.2.2.2.2.1])), (lk1, .inl (cI, 9, .inl u.2.2.2.2.2.2.2.2))]) (va_A [(x0, .inr (6, [.ref h4, .ref h3, .ref h2, .ref h1, .ref hB, .ref h5])), (h4, .inr (4, [.ref a1, .ref a2, .ref a3, .int (nI n), .int (nI sa), .int sg])), (a1, .inl (cI, 9, .inl fg)), (a2, .inl (cI, 9, .inl fb)), (a3, .inl (cI, 9, .inl fp)), (h3, .inr (3, [.ref b1, .ref b2, .int (nI n), .int (nI c0), .int (nI y)])), (b1, .inl (cJ, 320, .inr (.inl fw))), (h1, .inr (1, [.ref h4, .ref h3, .ref h2, .ref p4, .ref p5, .ref p6, .int fr])), (p4, .inl (cI, 9, .inl fq)), (p5, .inl (cJ, len, .inr (.inl eb))), (p6, .inl (cI, len, .inl ew)), (h5, .inr (5, [.ref lk1, .int tc])), (lk1, .inl (cI, 9, .inl fk))] sz)) mc ms (va_A [(x0, .inr (6, [.ref h4, .ref h3, .ref h2, .ref h1, .ref hB, .ref h5])), (h4, .inr (4, [.ref a1, .ref a2, .ref a3, .int (nI n), .int (nI sa), .int sg])), (a1, .inl (cI, 9, .inl fg)), (a2, .inl (cI, 9, .inl fb)), (a3, .inl (cI, 9, .inl fp)), (h3, .inr (3, [.ref b1, .ref b2, .int (nI n), .int (nI c0), .int (nI y)])), (b1, .inl (cJ, 320, .inr (.inl fw))), (h1, .inr (1, [.ref h4, .ref h3, .ref h2, .ref p4, .ref p5, .ref p6, .int fr])), (p4, .inl (cI, 9, .inl fq)), (p5, .inl (cJ, len, .inr (.inl eb))), (p6, .inl (cI, len, .inl ew)), (h5, .inr (5, [.ref lk1, .int tc])), (lk1, .inl (cI, 9, .inl fk))] sz) := by
  refine Met.ofW (cc := cX6_follow) (maxL := 7) (ret := (some .int)) (by decide) rfl ?_
  intro p e s m args below meth c s₁ B hml hv
  obtain ⟨rfl, hsz, hP, hKN, hT0, hD0⟩ := hv
  have hK := hKN.1
  have hx := B.exec
  have hb := B.bytes
  have hr := B.returns
  have hts := atoms_spec (ws := wsX6_follow) B.pre
  have hown : s.vm.findClass RX6 = some m.cls := findClass_of_methodNamed B.named
  have hlocks := B.notSynchronized
  have hiX4 : ∀ w ∈ wsX40, w ∈ wsX6_follow := by decide +kernel
  have hiX5 : ∀ w ∈ wsX50, w ∈ wsX6_follow := by decide +kernel
  have hiX6 : ∀ w ∈ wsX60, w ∈ wsX6_follow := by decide +kernel
  have hf10 := hts (.fieldLink RX6 10 "LookBench" "shelf" "LLookBench$Shelf;") (by decide +kernel)
  have hf35 := hts (.fieldLink RX6 35 "LookBench" "plans" "LLookBench$Plans;") (by decide +kernel)
  have hf51 := hts (.fieldLink RX6 51 "LookBench" "trail" "LLookBench$Trail;") (by decide +kernel)
  have hf135 := va_Nw.use (A := [.ref x0, .int (nI pl), .int (nI j)].toArray) rfl (hKN.2 (.fieldLinkNest RX6 135 RX4 "prices" "[I" RX6) (by decide +kernel))
  have hf151 := va_Nw.use (A := [.ref x0, .int (nI pl), .int (nI j)].toArray) rfl (hKN.2 (.fieldLinkNest RX6 151 RX4 "seen" "I" RX6) (by decide +kernel))
  have hf212 := va_Nw.use (A := [.ref x0, .int (nI pl), .int (nI j)].toArray) rfl (hKN.2 (.fieldLinkNest RX6 212 RX5 "count" "I" RX6) (by decide +kernel))
  have hf216 := va_Nw.use (A := [.ref x0, .int (nI pl), .int (nI j)].toArray) rfl (hKN.2 (.fieldLinkNest RX6 216 RX4 "count" "I" RX6) (by decide +kernel))
  subst hsz
  have hD := hD0.self (sz := s.heap.size)
  have hz9 := nz3.A (ws := [(x0, .inr (6, [.ref h4, .ref h3, .ref h2, .ref h1, .ref hB, .ref h5])), (h4, .inr (4, [.ref a1, .ref a2, .ref a3, .int (nI n), .int (nI sa), .int sg])), (a1, .inl (cI, 9, .inl fg)), (a2, .inl (cI, 9, .inl fb)), (a3, .inl (cI, 9, .inl fp)), (h3, .inr (3, [.ref b1, .ref b2, .int (nI n), .int (nI c0), .int (nI y)])), (b1, .inl (cJ, 320, .inr (.inl fw))), (h1, .inr (1, [.ref h4, .ref h3, .ref h2, .ref p4, .ref p5, .ref p6, .int fr])), (p4, .inl (cI, 9, .inl fq)), (p5, .inl (cJ, len, .inr (.inl eb))), (p6, .inl (cI, len, .inl ew)), (h5, .inr (5, [.ref lk1, .int tc])), (lk1, .inl (cI, 9, .inl fk))]) hz3 hT0
  generalize hAe : va_A [(x0, .inr (6, [.ref h4, .ref h3, .ref h2, .ref h1, .ref hB, .ref h5])), (h4, .inr (4, [.ref a1, .ref a2, .ref a3, .int (nI n), .int (nI sa), .int sg])), (a1, .inl (cI, 9, .inl fg)), (a2, .inl (cI, 9, .inl fb)), (a3, .inl (cI, 9, .inl fp)), (h3, .inr (3, [.ref b1, .ref b2, .int (nI n), .int (nI c0), .int (nI y)])), (b1, .inl (cJ, 320, .inr (.inl fw))), (h1, .inr (1, [.ref h4, .ref h3, .ref h2, .ref p4, .ref p5, .ref p6, .int fr])), (p4, .inl (cI, 9, .inl fq)), (p5, .inl (cJ, len, .inr (.inl eb))), (p6, .inl (cI, len, .inl ew)), (h5, .inr (5, [.ref lk1, .int tc])), (lk1, .inl (cI, 9, .inl fk))] s.heap.size = A at hD ⊢ hz9
  have hA : ∀ q : Nat, s.heap.size ≤ q → A q := fun q h => by rw [← hAe]; exact Or.inr h
  have hS : va_S A s.heap s.heap [] := va_S.rf
  have hzA := hz9.1
  have htA := hz9.2
  have hZ3 := hT0.Z hzA
  have hT3 := hT0.T htA
  have hl := lv_entry ([.ref x0, .int (nI pl), .int (nI j)]) (n := 7) (Nat.le_of_ble_eq_true rfl)
  rw [lg_entry_eq]
  generalize (lg_sl ([.ref x0, .int (nI pl), .int (nI j)]) ++ List.replicate (7 - (lg_sl ([.ref x0, .int (nI pl), .int (nI j)])).length) Slot.unset).toArray = ls at hl ⊢
  have hl : lv_has ls 7 [(0, .ref x0), (1, .int (nI pl)), (2, .int (nI j))] := hl
  generalize hQ : MQ below _ _ s _ _ _ = Q
  obtain ⟨H, hH⟩ : ∃ z, z = s.heap := ⟨_, rfl⟩
  have hP : va_P D vwCl [(x0, .inr (6, [.ref h4, .ref h3, .ref h2, .ref h1, .ref hB, .ref h5])), (h4, .inr (4, [.ref a1, .ref a2, .ref a3, .int (nI n), .int (nI sa), .int sg])), (a1, .inl (cI, 9, .inl fg)), (a2, .inl (cI, 9, .inl fb)), (a3, .inl (cI, 9, .inl fp)), (h3, .inr (3, [.ref b1, .ref b2, .int (nI n), .int (nI c0), .int (nI y)])), (b1, .inl (cJ, 320, .inr (.inl fw))), (h1, .inr (1, [.ref h4, .ref h3, .ref h2, .ref p4, .ref p5, .ref p6, .int fr])), (p4, .inl (cI, 9, .inl fq)), (p5, .inl (cJ, len, .inr (.inl eb))), (p6, .inl (cI, len, .inl ew)), (h5, .inr (5, [.ref lk1, .int tc])), (lk1, .inl (cI, 9, .inl fk))] H := by rw [hH]; exact hP
  have hS : va_S A s.heap H [] := by rw [hH]; exact hS
  refine m_heap hH ?_
  clear hH
  have h2n := m_pow hn
  have h2p := m_powp n
  have h3n := m_3n hn
  have h3p := m_p3p n
  refine lv_aload_n hx hb dX6_follow_0 rfl (lv_at hl 0 rfl) ?_
  refine va_get (D := D) (ci := 6) (v := .ref h5) (C := RX6) (T := TX6) (N := 6) hx hb hts hiX6 hown hK hP 0 rfl rfl 5 (by decide) hf51 (fun _ h9 => h9) rfl dX6_follow_1 ?_
  refine lv_iconst (v := nI 0) hx hb dX6_follow_4 (by decide) ?_
  refine va_putN (D := D) (ci := 5) (v := .int (nI 0)) (ty := tyX5 1) (C := RX5) (T := TX5) (N := 2) hx hb hts hiX5 tyX5 tyX5_ok nmX5 hown hK hP hD hS 11 rfl rfl 1 (by decide) hf212 (fun _ h9 => h9) rfl (by decide +kernel) rfl rfl (Nat.le_of_ble_eq_true rfl) dX6_follow_5 (fun H locs hP hD hS => ?_)
  have hP : va_P D vwCl [(x0, .inr (6, [.ref h4, .ref h3, .ref h2, .ref h1, .ref hB, .ref h5])), (h4, .inr (4, [.ref a1, .ref a2, .ref a3, .int (nI n), .int (nI sa), .int sg])), (a1, .inl (cI, 9, .inl fg)), (a2, .inl (cI, 9, .inl fb)), (a3, .inl (cI, 9, .inl fp)), (h3, .inr (3, [.ref b1, .ref b2, .int (nI n), .int (nI c0), .int (nI y)])), (b1, .inl (cJ, 320, .inr (.inl fw))), (h1, .inr (1, [.ref h4, .ref h3, .ref h2, .ref p4, .ref p5, .ref p6, .int fr])), (p4, .inl (cI, 9, .inl fq)), (p5, .inl (cJ, len, .inr (.inl eb))), (p6, .inl (cI, len, .inl ew)), (h5, .inr (5, [.ref lk1, .int (nI 0)])), (lk1, .inl (cI, 9, .inl fk))] H := hP
  have hD : va_D A [(x0, .inr (6, [.ref h4, .ref h3, .ref h2, .ref h1, .ref hB, .ref h5])), (h4, .inr (4, [.ref a1, .ref a2, .ref a3, .int (nI n), .int (nI sa), .int sg])), (a1, .inl (cI, 9, .inl fg)), (a2, .inl (cI, 9, .inl fb)), (a3, .inl (cI, 9, .inl fp)), (h3, .inr (3, [.ref b1, .ref b2, .int (nI n), .int (nI c0), .int (nI y)])), (b1, .inl (cJ, 320, .inr (.inl fw))), (h1, .inr (1, [.ref h4, .ref h3, .ref h2, .ref p4, .ref p5, .ref p6, .int fr])), (p4, .inl (cI, 9, .inl fq)), (p5, .inl (cJ, len, .inr (.inl eb))), (p6, .inl (cI, len, .inl ew)), (h5, .inr (5, [.ref lk1, .int (nI 0)])), (lk1, .inl (cI, 9, .inl fk))] := hD
  refine lv_aload_n hx hb dX6_follow_8 rfl (lv_at hl 0 rfl) ?_
  refine va_get (D := D) (ci := 6) (v := .ref h4) (C := RX6) (T := TX6) (N := 6) hx hb hts hiX6 hown hK hP 0 rfl rfl 0 (by decide) hf10 (fun _ h9 => h9) rfl dX6_follow_9 ?_
  refine va_getN (D := D) (ci := 4) (v := .int (nI sa)) (C := RX4) (T := TX4) (N := 6) hx hb hts hiX4 hown hK hP 1 rfl rfl 4 (by decide) hf151 (fun _ h9 => h9) rfl dX6_follow_12 ?_
  refine lv_istore_n (lv' := [(3, .int (nI sa)), (0, .ref x0), (1, .int (nI pl)), (2, .int (nI j))]) hx hb dX6_follow_15 rfl hl (by decide) rfl (fun ls hl => ?_)
  refine lv_iconst (v := nI 0) hx hb dX6_follow_16 (by decide) ?_
  refine lv_istore (lv' := [(4, .int (nI 0)), (3, .int (nI sa)), (0, .ref x0), (1, .int (nI pl)), (2, .int (nI j))]) hx hb dX6_follow_17 hl (by decide) rfl (fun ls hl => ?_)
  refine lv_iconst (v := nI 0) hx hb dX6_follow_19 (by decide) ?_
  refine lv_istore (lv' := [(5, .int (nI 0)), (4, .int (nI 0)), (3, .int (nI sa)), (0, .ref x0), (1, .int (nI pl)), (2, .int (nI j))]) hx hb dX6_follow_20 hl (by decide) rfl (fun ls hl => ?_)
  refine lv_iload hx hb dX6_follow_22 (lv_at hl 0 rfl) ?_
  refine lv_aload_n hx hb dX6_follow_24 rfl (lv_at hl 3 rfl) ?_
  refine va_get (D := D) (ci := 6) (v := .ref h4) (C := RX6) (T := TX6) (N := 6) hx hb hts hiX6 hown hK hP 0 rfl rfl 0 (by decide) hf10 (fun _ h9 => h9) rfl dX6_follow_25 ?_
  refine va_getN (D := D) (ci := 4) (v := .int (nI n)) (C := RX4) (T := TX4) (N := 6) hx hb hts hiX4 hown hK hP 1 rfl rfl 3 (by decide) hf216 (fun _ h9 => h9) rfl dX6_follow_28 ?_
  refine lv_icmp_ge (tgt := 94) hx hb dX6_follow_31 (by decide) (fun c1 => ?_) (fun c1 => ?_)
  · skip
    have d1 := c1
    rw [nI_leI (by omega) (by omega)] at d1
    exact absurd d1 (by omega)
  · skip
    have d1 := c1
    rw [nI_leI (by omega) (by omega)] at d1
    refine lv_aload_n hx hb dX6_follow_34 rfl (lv_at hl 3 rfl) ?_
    refine va_get (D := D) (ci := 6) (v := .ref h1) (C := RX6) (T := TX6) (N := 6) hx hb hts hiX6 hown hK hP 0 rfl rfl 3 (by decide) hf35 (fun _ h9 => h9) rfl dX6_follow_35 ?_
    refine lv_iload_n hx hb dX6_follow_38 rfl (lv_at hl 4 rfl) ?_
    refine lv_iload_n hx hb dX6_follow_39 rfl (lv_at hl 2 rfl) ?_
    refine lv_iload_n hx hb dX6_follow_40 rfl (lv_at hl 5 rfl) ?_
    refine lv_iload_n hx hb dX6_follow_41 rfl (lv_at hl 2 rfl) ?_
    refine lv_iand hx hb dX6_follow_42 ?_
    refine cn_i (y := nI (j &&& sa)) (mb_and j sa) ?_
    have hPc := hP.sub (ws' := [(h1, .inr (1, [.ref h4, .ref h3, .ref h2, .ref p4, .ref p5, .ref p6, .int fr])), (h4, .inr (4, [.ref a1, .ref a2, .ref a3, .int (nI n), .int (nI sa), .int sg])), (a1, .inl (cI, 9, .inl fg)), (a2, .inl (cI, 9, .inl fb)), (a3, .inl (cI, 9, .inl fp)), (p4, .inl (cI, 9, .inl fq)), (p5, .inl (cJ, len, .inr (.inl eb))), (p6, .inl (cI, len, .inl ew)), (h3, .inr (3, [.ref b1, .ref b2, .int (nI n), .int (nI c0), .int (nI y)])), (b1, .inl (cJ, 320, .inr (.inl fw)))]) [7, 1, 2, 3, 4, 8, 9, 10, 5, 6] rfl
    have hDc := hD.sub (ws' := [(h1, .inr (1, [.ref h4, .ref h3, .ref h2, .ref p4, .ref p5, .ref p6, .int fr])), (h4, .inr (4, [.ref a1, .ref a2, .ref a3, .int (nI n), .int (nI sa), .int sg])), (a1, .inl (cI, 9, .inl fg)), (a2, .inl (cI, 9, .inl fb)), (a3, .inl (cI, 9, .inl fp)), (p4, .inl (cI, 9, .inl fq)), (p5, .inl (cJ, len, .inr (.inl eb))), (p6, .inl (cI, len, .inl ew)), (h3, .inr (3, [.ref b1, .ref b2, .int (nI n), .int (nI c0), .int (nI y)])), (b1, .inl (cJ, 320, .inr (.inl fw)))]) [7, 1, 2, 3, 4, 8, 9, 10, 5, 6] (by decide) rfl
    have hFc := va_free (wc := [(h1, .inr (1, [.ref h4, .ref h3, .ref h2, .ref p4, .ref p5, .ref p6, .int fr])), (h4, .inr (4, [.ref a1, .ref a2, .ref a3, .int (nI n), .int (nI sa), .int sg])), (a1, .inl (cI, 9, .inl fg)), (a2, .inl (cI, 9, .inl fb)), (a3, .inl (cI, 9, .inl fp)), (p4, .inl (cI, 9, .inl fq)), (p5, .inl (cJ, len, .inr (.inl eb))), (p6, .inl (cI, len, .inl ew)), (h3, .inr (3, [.ref b1, .ref b2, .int (nI n), .int (nI c0), .int (nI y)])), (b1, .inl (cJ, 320, .inr (.inl fw)))]) hD hS hA [7, 1, 2, 3, 4, 8, 9, 10, 5, 6] rfl
    refine va_calli (va_runV (As := [.int (nI pl), .int (nI sa), .int (nI (j &&& sa))]) (rest := []) ⟨hx, hb, hml, hown, hts⟩ (c_X1_next_g l D cI cJ cZ z3 t3 H.size mc ms h1 h4 h3 h2 p4 p5 p6 a1 a2 a3 n b1 b2 y len (nI n) (nI c0) (nI sa) sg fr fg fb fp fq eb ew fw sa (j &&& sa) pl (by first | assumption | omega) (by first | assumption | omega) (by first | assumption | omega) (by first | assumption | omega) (by first | assumption | omega) (by exact hbud) (by first | assumption | omega) (by exact Nat.lt_of_le_of_lt Nat.and_le_left hj) (by first | assumption | omega) ((nz3.D hD hzA htA).sub [7, 1, 2, 3, 4, 8, 9, 10, 5, 6] rfl)) (cwV 3 hts gX6_follow_X1_next rfl rfl rfl (by decide +kernel) ⟨Nat.le_of_ble_eq_true rfl, Nat.le_of_ble_eq_true rfl⟩) ⟨pnT_blind, va_recv hK hP (ci := 1) (q0 := 7) rfl rfl, fun U hU hW => ⟨rfl, by rw [hU], by rw [hU]; exact hPc, hKN.warm hW, hT0.go hS hzA htA hW hU, hDc.weaken (fun _ _ _ _ => trivial)⟩⟩ rfl rfl hl.1 rfl (lv_room (Nat.le_of_ble_eq_true rfl)) dX6_follow_43 ⟨(show 0 + mc ≤ mc by omega), (show 0 + ms ≤ ms by omega)⟩) hS (fun q _ h => hFc q h) hFc (fun r2 u t H1 locs ht hvm hw hB hz1 hk1 hS => ?_)
    obtain ⟨u2_w5, u2_w6, u2_ul, u2_uq, u2_ub, u2_uw, u2_uf⟩ := u
    have w2 : (r2 = -1 ∧ FS fr len n (NV fw y (j &&& sa) ((2 ^ n - 1) ^^^ sa)) u2_uf u2_ul) ∨ (∃ x, x < n ∧ r2 = nI x ∧ sa / 2 ^ x % 2 = 0 ∧ u2_uf = nI 1 ∧ FS fr len n (NV fw y (j &&& sa) ((2 ^ n - 1) ^^^ sa)) (nI 1) u2_ul) := hw
    obtain ⟨hP1, hD1⟩ := hB
    rw [ht] at hP1
    have hP1 : va_P D vwCl [(h1, .inr (1, [.ref h4, .ref h3, .ref h2, .ref p4, .ref u2_w5, .ref u2_w6, .int u2_uf])), (h4, .inr (4, [.ref a1, .ref a2, .ref a3, .int (nI n), .int (nI sa), .int sg])), (a1, .inl (cI, 9, .inl fg)), (a2, .inl (cI, 9, .inl fb)), (a3, .inl (cI, 9, .inl fp)), (p4, .inl (cI, 9, .inl u2_uq)), (u2_w5, .inl (cJ, u2_ul, .inr (.inl u2_ub))), (u2_w6, .inl (cI, u2_ul, .inl u2_uw)), (h3, .inr (3, [.ref b1, .ref b2, .int (nI n), .int (nI c0), .int (nI y)])), (b1, .inl (cJ, 320, .inr (.inl fw)))] H1 := hP1
    have hD1 : va_D _ [(h1, .inr (1, [.ref h4, .ref h3, .ref h2, .ref p4, .ref u2_w5, .ref u2_w6, .int u2_uf])), (h4, .inr (4, [.ref a1, .ref a2, .ref a3, .int (nI n), .int (nI sa), .int sg])), (a1, .inl (cI, 9, .inl fg)), (a2, .inl (cI, 9, .inl fb)), (a3, .inl (cI, 9, .inl fp)), (p4, .inl (cI, 9, .inl u2_uq)), (u2_w5, .inl (cJ, u2_ul, .inr (.inl u2_ub))), (u2_w6, .inl (cI, u2_ul, .inl u2_uw)), (h3, .inr (3, [.ref b1, .ref b2, .int (nI n), .int (nI c0), .int (nI y)])), (b1, .inl (cJ, 320, .inr (.inl fw)))] := hD1
    obtain ⟨hP, hD⟩ := va_join (wr := [(x0, .inr (6, [.ref h4, .ref h3, .ref h2, .ref h1, .ref hB, .ref h5])), (h5, .inr (5, [.ref lk1, .int (nI 0)])), (lk1, .inl (cI, 9, .inl fk))]) (w1 := [(h1, .inr (1, [.ref h4, .ref h3, .ref h2, .ref p4, .ref u2_w5, .ref u2_w6, .int u2_uf])), (h4, .inr (4, [.ref a1, .ref a2, .ref a3, .int (nI n), .int (nI sa), .int sg])), (a1, .inl (cI, 9, .inl fg)), (a2, .inl (cI, 9, .inl fb)), (a3, .inl (cI, 9, .inl fp)), (p4, .inl (cI, 9, .inl u2_uq)), (u2_w5, .inl (cJ, u2_ul, .inr (.inl u2_ub))), (u2_w6, .inl (cI, u2_ul, .inl u2_uw)), (h3, .inr (3, [.ref b1, .ref b2, .int (nI n), .int (nI c0), .int (nI y)])), (b1, .inl (cJ, 320, .inr (.inl fw)))]) hP hD [7, 1, 2, 3, 4, 8, 9, 10, 5, 6] [0, 11, 12] rfl rfl (by decide) (by decide) hk1 hFc hP1 hD1
    generalize H1 = H at hP hS ⊢
    have hP := hP.sub (ws' := [(x0, .inr (6, [.ref h4, .ref h3, .ref h2, .ref h1, .ref hB, .ref h5])), (h4, .inr (4, [.ref a1, .ref a2, .ref a3, .int (nI n), .int (nI sa), .int sg])), (a1, .inl (cI, 9, .inl fg)), (a2, .inl (cI, 9, .inl fb)), (a3, .inl (cI, 9, .inl fp)), (h3, .inr (3, [.ref b1, .ref b2, .int (nI n), .int (nI c0), .int (nI y)])), (b1, .inl (cJ, 320, .inr (.inl fw))), (h1, .inr (1, [.ref h4, .ref h3, .ref h2, .ref p4, .ref u2_w5, .ref u2_w6, .int u2_uf])), (p4, .inl (cI, 9, .inl u2_uq)), (u2_w5, .inl (cJ, u2_ul, .inr (.inl u2_ub))), (u2_w6, .inl (cI, u2_ul, .inl u2_uw)), (h5, .inr (5, [.ref lk1, .int (nI 0)])), (lk1, .inl (cI, 9, .inl fk))]) [0, 4, 5, 6, 7, 11, 12, 3, 8, 9, 10, 1, 2] rfl
    have hD := hD.sub (ws' := [(x0, .inr (6, [.ref h4, .ref h3, .ref h2, .ref h1, .ref hB, .ref h5])), (h4, .inr (4, [.ref a1, .ref a2, .ref a3, .int (nI n), .int (nI sa), .int sg])), (a1, .inl (cI, 9, .inl fg)), (a2, .inl (cI, 9, .inl fb)), (a3, .inl (cI, 9, .inl fp)), (h3, .inr (3, [.ref b1, .ref b2, .int (nI n), .int (nI c0), .int (nI y)])), (b1, .inl (cJ, 320, .inr (.inl fw))), (h1, .inr (1, [.ref h4, .ref h3, .ref h2, .ref p4, .ref u2_w5, .ref u2_w6, .int u2_uf])), (p4, .inl (cI, 9, .inl u2_uq)), (u2_w5, .inl (cJ, u2_ul, .inr (.inl u2_ub))), (u2_w6, .inl (cI, u2_ul, .inl u2_uw)), (h5, .inr (5, [.ref lk1, .int (nI 0)])), (lk1, .inl (cI, 9, .inl fk))]) [0, 4, 5, 6, 7, 11, 12, 3, 8, 9, 10, 1, 2] (by decide) rfl
    have hP : va_P D vwCl [(x0, .inr (6, [.ref h4, .ref h3, .ref h2, .ref h1, .ref hB, .ref h5])), (h4, .inr (4, [.ref a1, .ref a2, .ref a3, .int (nI n), .int (nI sa), .int sg])), (a1, .inl (cI, 9, .inl fg)), (a2, .inl (cI, 9, .inl fb)), (a3, .inl (cI, 9, .inl fp)), (h3, .inr (3, [.ref b1, .ref b2, .int (nI n), .int (nI c0), .int (nI y)])), (b1, .inl (cJ, 320, .inr (.inl fw))), (h1, .inr (1, [.ref h4, .ref h3, .ref h2, .ref p4, .ref u2_w5, .ref u2_w6, .int u2_uf])), (p4, .inl (cI, 9, .inl u2_uq)), (u2_w5, .inl (cJ, u2_ul, .inr (.inl u2_ub))), (u2_w6, .inl (cI, u2_ul, .inl u2_uw)), (h5, .inr (5, [.ref lk1, .int (nI 0)])), (lk1, .inl (cI, 9, .inl fk))] H := hP
    have hD : va_D A [(x0, .inr (6, [.ref h4, .ref h3, .ref h2, .ref h1, .ref hB, .ref h5])), (h4, .inr (4, [.ref a1, .ref a2, .ref a3, .int (nI n), .int (nI sa), .int sg])), (a1, .inl (cI, 9, .inl fg)), (a2, .inl (cI, 9, .inl fb)), (a3, .inl (cI, 9, .inl fp)), (h3, .inr (3, [.ref b1, .ref b2, .int (nI n), .int (nI c0), .int (nI y)])), (b1, .inl (cJ, 320, .inr (.inl fw))), (h1, .inr (1, [.ref h4, .ref h3, .ref h2, .ref p4, .ref u2_w5, .ref u2_w6, .int u2_uf])), (p4, .inl (cI, 9, .inl u2_uq)), (u2_w5, .inl (cJ, u2_ul, .inr (.inl u2_ub))), (u2_w6, .inl (cI, u2_ul, .inl u2_uw)), (h5, .inr (5, [.ref lk1, .int (nI 0)])), (lk1, .inl (cI, 9, .inl fk))] := hD
    refine W.widen (k := mc) (n := ms) (by omega) (by omega) ?_
    rcases w2 with ⟨rfl, w2⟩ | ⟨x9, hx9, rfl, hb9, rfl, w2⟩
    · skip
      have hF0 := w2
      refine lv_istore (lv' := [(6, .int (-1 : Int32)), (5, .int (nI 0)), (4, .int (nI 0)), (3, .int (nI sa)), (0, .ref x0), (1, .int (nI pl)), (2, .int (nI j))]) hx hb dX6_follow_46 hl (by decide) rfl (fun ls hl => ?_)
      refine lv_iload hx hb dX6_follow_48 (lv_at hl 0 rfl) ?_
      refine lv_iconst (v := (-1 : Int32)) hx hb dX6_follow_50 (by decide) ?_
      refine lv_icmp_ne (tgt := 57) hx hb dX6_follow_51 (by decide) (fun c3 => ?_) (fun c3 => ?_)
      · exact absurd c3 (by first | decide | exact nz_lt (by omega) | exact fun h => h (nz_ge (by omega)))
      · skip
        refine lv_goto (tgt := 94) hx hb dX6_follow_54 (by decide) ?_
        refine lv_iload hx hb dX6_follow_94 (lv_at hl 2 rfl) ?_
        refine W.widen (k := mc) (n := ms) (by omega) (by omega) ?_
        rw [← hQ]
        have hP9 := hP.sub (ws' := [(x0, .inr (6, [.ref h4, .ref h3, .ref h2, .ref h1, .ref hB, .ref h5])), (h4, .inr (4, [.ref a1, .ref a2, .ref a3, .int (nI n), .int (nI sa), .int sg])), (a1, .inl (cI, 9, .inl fg)), (a2, .inl (cI, 9, .inl fb)), (a3, .inl (cI, 9, .inl fp)), (h3, .inr (3, [.ref b1, .ref b2, .int (nI n), .int (nI c0), .int (nI y)])), (b1, .inl (cJ, 320, .inr (.inl fw))), (h1, .inr (1, [.ref h4, .ref h3, .ref h2, .ref p4, .ref u2_w5, .ref u2_w6, .int u2_uf])), (p4, .inl (cI, 9, .inl u2_uq)), (u2_w5, .inl (cJ, u2_ul, .inr (.inl u2_ub))), (u2_w6, .inl (cI, u2_ul, .inl u2_uw)), (h5, .inr (5, [.ref lk1, .int (nI 0)])), (lk1, .inl (cI, 9, .inl fk))]) [0, 1, 2, 3, 4, 5, 6, 7, 8, 9, 10, 11, 12] rfl
        have hD9 := hD.sub (ws' := [(x0, .inr (6, [.ref h4, .ref h3, .ref h2, .ref h1, .ref hB, .ref h5])), (h4, .inr (4, [.ref a1, .ref a2, .ref a3, .int (nI n), .int (nI sa), .int sg])), (a1, .inl (cI, 9, .inl fg)), (a2, .inl (cI, 9, .inl fb)), (a3, .inl (cI, 9, .inl fp)), (h3, .inr (3, [.ref b1, .ref b2, .int (nI n), .int (nI c0), .int (nI y)])), (b1, .inl (cJ, 320, .inr (.inl fw))), (h1, .inr (1, [.ref h4, .ref h3, .ref h2, .ref p4, .ref u2_w5, .ref u2_w6, .int u2_uf])), (p4, .inl (cI, 9, .inl u2_uq)), (u2_w5, .inl (cJ, u2_ul, .inr (.inl u2_ub))), (u2_w6, .inl (cI, u2_ul, .inl u2_uw)), (h5, .inr (5, [.ref lk1, .int (nI 0)])), (lk1, .inl (cI, 9, .inl fk))]) [0, 1, 2, 3, 4, 5, 6, 7, 8, 9, 10, 11, 12] (by decide) rfl
        exact W.iret (v := nI 0) hx hb hr (fun tS htS hWS => ⟨⟨(nI 0), (u2_w5, u2_w6, u2_ul, u2_uq, u2_ub, u2_uw, u2_uf, nI 0, fk), rfl, ⟨by first | exact hF0 | exact hF, _, by omega, rfl⟩, m_at htS hP9, hD9⟩, hS.F htS⟩) hS.2.2 dX6_follow_96
    · skip
      have hF1 := w2
      refine lv_istore (lv' := [(6, .int (nI x9)), (5, .int (nI 0)), (4, .int (nI 0)), (3, .int (nI sa)), (0, .ref x0), (1, .int (nI pl)), (2, .int (nI j))]) hx hb dX6_follow_46 hl (by decide) rfl (fun ls hl => ?_)
      refine lv_iload hx hb dX6_follow_48 (lv_at hl 0 rfl) ?_
      refine lv_iconst (v := (-1 : Int32)) hx hb dX6_follow_50 (by decide) ?_
      refine lv_icmp_ne (tgt := 57) hx hb dX6_follow_51 (by decide) (fun c4 => ?_) (fun c4 => ?_)
      · skip
        refine lv_aload_n hx hb dX6_follow_57 rfl (lv_at hl 4 rfl) ?_
        refine va_get (D := D) (ci := 6) (v := .ref h5) (C := RX6) (T := TX6) (N := 6) hx hb hts hiX6 hown hK hP 0 rfl rfl 5 (by decide) hf51 (fun _ h9 => h9) rfl dX6_follow_58 ?_
        refine lv_iload hx hb dX6_follow_61 (lv_at hl 0 rfl) ?_
        refine mu_v (n := 13) (wc := [(h5, .inr (5, [.ref lk1, .int (nI 0)])), (lk1, .inl (cI, 9, .inl fk))]) (va_runV (As := [.int (nI x9)]) (rest := []) ⟨hx, hb, hml, hown, hts⟩ (c_X5_append l D cI cJ cZ h5 lk1 0 (nI x9) fk (by first | assumption | omega)) (cwV 1 hts gX6_follow_X5_append rfl rfl rfl (by decide +kernel) ⟨Nat.le_of_ble_eq_true rfl, Nat.le_of_ble_eq_true rfl⟩) ⟨pm_blind, va_recv hK hP (ci := 5) (q0 := 11) rfl rfl, fun U hU hW => ⟨rfl, by rw [hU]; exact hP.sub (ws' := [(h5, .inr (5, [.ref lk1, .int (nI 0)])), (lk1, .inl (cI, 9, .inl fk))]) [11, 12] rfl, hKN.warm hW, (hD.sub (ws' := [(h5, .inr (5, [.ref lk1, .int (nI 0)])), (lk1, .inl (cI, 9, .inl fk))]) [11, 12] (by decide) rfl).weaken (fun _ _ _ _ => trivial)⟩⟩ rfl rfl hl.1 rfl (lv_room (Nat.le_of_ble_eq_true rfl)) dX6_follow_63 ⟨(show mc + 0 ≤ mc by omega), (show ms + 0 ≤ ms by omega)⟩) hS hP hD (fun (u : Unit) => [(x0, .inr (6, [.ref h4, .ref h3, .ref h2, .ref h1, .ref hB, .ref h5])), (h4, .inr (4, [.ref a1, .ref a2, .ref a3, .int (nI n), .int (nI sa), .int sg])), (a1, .inl (cI, 9, .inl fg)), (a2, .inl (cI, 9, .inl fb)), (a3, .inl (cI, 9, .inl fp)), (h3, .inr (3, [.ref b1, .ref b2, .int (nI n), .int (nI c0), .int (nI y)])), (b1, .inl (cJ, 320, .inr (.inl fw))), (h1, .inr (1, [.ref h4, .ref h3, .ref h2, .ref p4, .ref u2_w5, .ref u2_w6, .int (nI 1)])), (p4, .inl (cI, 9, .inl u2_uq)), (u2_w5, .inl (cJ, u2_ul, .inr (.inl u2_ub))), (u2_w6, .inl (cI, u2_ul, .inl u2_uw)), (h5, .inr (5, [.ref lk1, .int (nI (0 + 1))])), (lk1, .inl (cI, 9, .inl (upd fk 0 (nI x9))))]) [11, 12] [0, 1, 2, 3, 4, 5, 6, 7, 8, 9, 10] rfl rfl (fun _ => rfl) (fun _ => rfl) (fun _ => rfl) (fun _ => rfl) (by decide) (by decide) (fun u5 H locs w5r hP hD hS => ?_)
        have hP : va_P D vwCl [(x0, .inr (6, [.ref h4, .ref h3, .ref h2, .ref h1, .ref hB, .ref h5])), (h4, .inr (4, [.ref a1, .ref a2, .ref a3, .int (nI n), .int (nI sa), .int sg])), (a1, .inl (cI, 9, .inl fg)), (a2, .inl (cI, 9, .inl fb)), (a3, .inl (cI, 9, .inl fp)), (h3, .inr (3, [.ref b1, .ref b2, .int (nI n), .int (nI c0), .int (nI y)])), (b1, .inl (cJ, 320, .inr (.inl fw))), (h1, .inr (1, [.ref h4, .ref h3, .ref h2, .ref p4, .ref u2_w5, .ref u2_w6, .int (nI 1)])), (p4, .inl (cI, 9, .inl u2_uq)), (u2_w5, .inl (cJ, u2_ul, .inr (.inl u2_ub))), (u2_w6, .inl (cI, u2_ul, .inl u2_uw)), (h5, .inr (5, [.ref lk1, .int (nI (0 + 1))])), (lk1, .inl (cI, 9, .inl (upd fk 0 (nI x9))))] H := hP
        have hD : va_D A [(x0, .inr (6, [.ref h4, .ref h3, .ref h2, .ref h1, .ref hB, .ref h5])), (h4, .inr (4, [.ref a1, .ref a2, .ref a3, .int (nI n), .int (nI sa), .int sg])), (a1, .inl (cI, 9, .inl fg)), (a2, .inl (cI, 9, .inl fb)), (a3, .inl (cI, 9, .inl fp)), (h3, .inr (3, [.ref b1, .ref b2, .int (nI n), .int (nI c0), .int (nI y)])), (b1, .inl (cJ, 320, .inr (.inl fw))), (h1, .inr (1, [.ref h4, .ref h3, .ref h2, .ref p4, .ref u2_w5, .ref u2_w6, .int (nI 1)])), (p4, .inl (cI, 9, .inl u2_uq)), (u2_w5, .inl (cJ, u2_ul, .inr (.inl u2_ub))), (u2_w6, .inl (cI, u2_ul, .inl u2_uw)), (h5, .inr (5, [.ref lk1, .int (nI (0 + 1))])), (lk1, .inl (cI, 9, .inl (upd fk 0 (nI x9))))] := hD
        have w5 : True := w5r
        clear w5r
        refine lv_iload hx hb dX6_follow_66 (lv_at hl 2 rfl) ?_
        refine lv_aload_n hx hb dX6_follow_68 rfl (lv_at hl 4 rfl) ?_
        refine va_get (D := D) (ci := 6) (v := .ref h4) (C := RX6) (T := TX6) (N := 6) hx hb hts hiX6 hown hK hP 0 rfl rfl 0 (by decide) hf10 (fun _ h9 => h9) rfl dX6_follow_69 ?_
        refine va_getN (D := D) (ci := 4) (v := .ref a3) (C := RX4) (T := TX4) (N := 6) hx hb hts hiX4 hown hK hP 1 rfl rfl 2 (by decide) hf135 (fun _ h9 => h9) rfl dX6_follow_72 ?_
        refine lv_iload hx hb dX6_follow_75 (lv_at hl 0 rfl) ?_
        refine va_iald hx hb hK hP 4 0 rfl rfl (i := nI x9) (vp_in_nI (by omega) (by omega)) dX6_follow_77 ?_
        refine cn_i (y := fp x9) (congrArg fp (nI_clamp (by omega))) ?_
        refine lv_iadd hx hb dX6_follow_78 ?_
        refine lv_istore (lv' := [(4, .int ((nI 0) + (fp x9))), (6, .int (nI x9)), (5, .int (nI 0)), (3, .int (nI sa)), (0, .ref x0), (1, .int (nI pl)), (2, .int (nI j))]) hx hb dX6_follow_79 hl (by decide) rfl (fun ls hl => ?_)
        refine lv_iload_n hx hb dX6_follow_81 rfl (lv_at hl 3 rfl) ?_
        refine lv_iconst (v := nI 1) hx hb dX6_follow_82 (by decide) ?_
        refine lv_iload hx hb dX6_follow_83 (lv_at hl 1 rfl) ?_
        refine lv_ishl hx hb dX6_follow_85 ?_
        refine cn_i (y := nI (2 ^ x9)) (m_shl1 (by omega)) ?_
        refine lv_ior hx hb dX6_follow_86 ?_
        refine cn_i (y := nI (sa ||| (2 ^ x9))) (mb_or sa (2 ^ x9)) ?_
        refine lv_istore_n (lv' := [(3, .int (nI (sa ||| (2 ^ x9)))), (4, .int ((nI 0) + (fp x9))), (6, .int (nI x9)), (5, .int (nI 0)), (0, .ref x0), (1, .int (nI pl)), (2, .int (nI j))]) hx hb dX6_follow_87 rfl hl (by decide) rfl (fun ls hl => ?_)
        refine lv_iinc (v := nI (0 + 1)) (lv' := [(5, .int (nI (0 + 1))), (3, .int (nI (sa ||| (2 ^ x9)))), (4, .int ((nI 0) + (fp x9))), (6, .int (nI x9)), (0, .ref x0), (1, .int (nI pl)), (2, .int (nI j))]) hx hb dX6_follow_88 hl (k := 3) rfl (nI_1 0) (by decide) rfl (fun ls hl => ?_)
        refine lv_goto (tgt := 22) hx hb dX6_follow_91 (by decide) ?_
        have loop6 : ∀ (fu : Nat) (k : Nat) (v : Nat) (pv : Int32) (z5 : Nat) (z6 : Nat) (ln : Nat) (zq : Nat → Int32) (zb : Nat → Int64) (zw : Nat → Int32) (zk : Nat → Int32) (H : Heap) (locs : List Loc) (ls : Array Slot), (k ≤ n ∧ n < k + fu) → (v < 2 ^ n) → (FS fr len n (NV fw y (j &&& sa) ((2 ^ n - 1) ^^^ sa)) (nI 1) ln) → va_P D vwCl [(x0, .inr (6, [.ref h4, .ref h3, .ref h2, .ref h1, .ref hB, .ref h5])), (h4, .inr (4, [.ref a1, .ref a2, .ref a3, .int (nI n), .int (nI sa), .int sg])), (a1, .inl (cI, 9, .inl fg)), (a2, .inl (cI, 9, .inl fb)), (a3, .inl (cI, 9, .inl fp)), (h3, .inr (3, [.ref b1, .ref b2, .int (nI n), .int (nI c0), .int (nI y)])), (b1, .inl (cJ, 320, .inr (.inl fw))), (h1, .inr (1, [.ref h4, .ref h3, .ref h2, .ref p4, .ref z5, .ref z6, .int (nI 1)])), (p4, .inl (cI, 9, .inl zq)), (z5, .inl (cJ, ln, .inr (.inl zb))), (z6, .inl (cI, ln, .inl zw)), (h5, .inr (5, [.ref lk1, .int (nI k)])), (lk1, .inl (cI, 9, .inl zk))] H → va_D A [(x0, .inr (6, [.ref h4, .ref h3, .ref h2, .ref h1, .ref hB, .ref h5])), (h4, .inr (4, [.ref a1, .ref a2, .ref a3, .int (nI n), .int (nI sa), .int sg])), (a1, .inl (cI, 9, .inl fg)), (a2, .inl (cI, 9, .inl fb)), (a3, .inl (cI, 9, .inl fp)), (h3, .inr (3, [.ref b1, .ref b2, .int (nI n), .int (nI c0), .int (nI y)])), (b1, .inl (cJ, 320, .inr (.inl fw))), (h1, .inr (1, [.ref h4, .ref h3, .ref h2, .ref p4, .ref z5, .ref z6, .int (nI 1)])), (p4, .inl (cI, 9, .inl zq)), (z5, .inl (cJ, ln, .inr (.inl zb))), (z6, .inl (cI, ln, .inl zw)), (h5, .inr (5, [.ref lk1, .int (nI k)])), (lk1, .inl (cI, 9, .inl zk))] → va_S A s.heap H locs → lv_has ls 7 [(5, .int (nI k)), (3, .int (nI v)), (4, .int pv), (0, .ref x0), (1, .int (nI pl)), (2, .int (nI j))] → W p l e (headSpec wsX6_follow (rm_c_X6_follow_g mc ms)).room s m ([.ref x0, .int (nI pl), .int (nI j)] : List Value).toArray below meth c H locs mc ms Q (F0 m 22 ls []) := by
          intro fu
          induction fu with
          | zero => intro k v pv z5 z6 ln zq zb zw zk H locs ls hk hv hF; exact absurd hk (by omega)
          | succ fu ih6 =>
            intro k v pv z5 z6 ln zq zb zw zk H locs ls hk hv hF hP hD hS hl
            refine lv_iload hx hb dX6_follow_22 (lv_at hl 0 rfl) ?_
            refine lv_aload_n hx hb dX6_follow_24 rfl (lv_at hl 3 rfl) ?_
            refine va_get (D := D) (ci := 6) (v := .ref h4) (C := RX6) (T := TX6) (N := 6) hx hb hts hiX6 hown hK hP 0 rfl rfl 0 (by decide) hf10 (fun _ h9 => h9) rfl dX6_follow_25 ?_
            refine va_getN (D := D) (ci := 4) (v := .int (nI n)) (C := RX4) (T := TX4) (N := 6) hx hb hts hiX4 hown hK hP 1 rfl rfl 3 (by decide) hf216 (fun _ h9 => h9) rfl dX6_follow_28 ?_
            refine lv_icmp_ge (tgt := 94) hx hb dX6_follow_31 (by decide) (fun c7 => ?_) (fun c7 => ?_)
            · skip
              have d7 := c7
              rw [nI_leI (by omega) (by omega)] at d7
              refine lv_iload hx hb dX6_follow_94 (lv_at hl 2 rfl) ?_
              refine W.widen (k := mc) (n := ms) (by omega) (by omega) ?_
              rw [← hQ]
              have hP9 := hP.sub (ws' := [(x0, .inr (6, [.ref h4, .ref h3, .ref h2, .ref h1, .ref hB, .ref h5])), (h4, .inr (4, [.ref a1, .ref a2, .ref a3, .int (nI n), .int (nI sa), .int sg])), (a1, .inl (cI, 9, .inl fg)), (a2, .inl (cI, 9, .inl fb)), (a3, .inl (cI, 9, .inl fp)), (h3, .inr (3, [.ref b1, .ref b2, .int (nI n), .int (nI c0), .int (nI y)])), (b1, .inl (cJ, 320, .inr (.inl fw))), (h1, .inr (1, [.ref h4, .ref h3, .ref h2, .ref p4, .ref z5, .ref z6, .int (nI 1)])), (p4, .inl (cI, 9, .inl zq)), (z5, .inl (cJ, ln, .inr (.inl zb))), (z6, .inl (cI, ln, .inl zw)), (h5, .inr (5, [.ref lk1, .int (nI k)])), (lk1, .inl (cI, 9, .inl zk))]) [0, 1, 2, 3, 4, 5, 6, 7, 8, 9, 10, 11, 12] rfl
              have hD9 := hD.sub (ws' := [(x0, .inr (6, [.ref h4, .ref h3, .ref h2, .ref h1, .ref hB, .ref h5])), (h4, .inr (4, [.ref a1, .ref a2, .ref a3, .int (nI n), .int (nI sa), .int sg])), (a1, .inl (cI, 9, .inl fg)), (a2, .inl (cI, 9, .inl fb)), (a3, .inl (cI, 9, .inl fp)), (h3, .inr (3, [.ref b1, .ref b2, .int (nI n), .int (nI c0), .int (nI y)])), (b1, .inl (cJ, 320, .inr (.inl fw))), (h1, .inr (1, [.ref h4, .ref h3, .ref h2, .ref p4, .ref z5, .ref z6, .int (nI 1)])), (p4, .inl (cI, 9, .inl zq)), (z5, .inl (cJ, ln, .inr (.inl zb))), (z6, .inl (cI, ln, .inl zw)), (h5, .inr (5, [.ref lk1, .int (nI k)])), (lk1, .inl (cI, 9, .inl zk))]) [0, 1, 2, 3, 4, 5, 6, 7, 8, 9, 10, 11, 12] (by decide) rfl
              exact W.iret (v := pv) hx hb hr (fun tS htS hWS => ⟨⟨pv, (z5, z6, ln, zq, zb, zw, nI 1, nI k, zk), rfl, ⟨by first | exact hF0 | exact hF, _, by omega, rfl⟩, m_at htS hP9, hD9⟩, hS.F htS⟩) hS.2.2 dX6_follow_96
            · skip
              have d7 := c7
              rw [nI_leI (by omega) (by omega)] at d7
              refine lv_aload_n hx hb dX6_follow_34 rfl (lv_at hl 3 rfl) ?_
              refine va_get (D := D) (ci := 6) (v := .ref h1) (C := RX6) (T := TX6) (N := 6) hx hb hts hiX6 hown hK hP 0 rfl rfl 3 (by decide) hf35 (fun _ h9 => h9) rfl dX6_follow_35 ?_
              refine lv_iload_n hx hb dX6_follow_38 rfl (lv_at hl 4 rfl) ?_
              refine lv_iload_n hx hb dX6_follow_39 rfl (lv_at hl 1 rfl) ?_
              refine lv_iload_n hx hb dX6_follow_40 rfl (lv_at hl 5 rfl) ?_
              refine lv_iload_n hx hb dX6_follow_41 rfl (lv_at hl 1 rfl) ?_
              refine lv_iand hx hb dX6_follow_42 ?_
              refine cn_i (y := nI (j &&& v)) (mb_and j v) ?_
              have hPc := hP.sub (ws' := [(h1, .inr (1, [.ref h4, .ref h3, .ref h2, .ref p4, .ref z5, .ref z6, .int (nI 1)])), (h4, .inr (4, [.ref a1, .ref a2, .ref a3, .int (nI n), .int (nI sa), .int sg])), (a1, .inl (cI, 9, .inl fg)), (a2, .inl (cI, 9, .inl fb)), (a3, .inl (cI, 9, .inl fp)), (p4, .inl (cI, 9, .inl zq)), (z5, .inl (cJ, ln, .inr (.inl zb))), (z6, .inl (cI, ln, .inl zw)), (h3, .inr (3, [.ref b1, .ref b2, .int (nI n), .int (nI c0), .int (nI y)])), (b1, .inl (cJ, 320, .inr (.inl fw)))]) [7, 1, 2, 3, 4, 8, 9, 10, 5, 6] rfl
              have hDc := hD.sub (ws' := [(h1, .inr (1, [.ref h4, .ref h3, .ref h2, .ref p4, .ref z5, .ref z6, .int (nI 1)])), (h4, .inr (4, [.ref a1, .ref a2, .ref a3, .int (nI n), .int (nI sa), .int sg])), (a1, .inl (cI, 9, .inl fg)), (a2, .inl (cI, 9, .inl fb)), (a3, .inl (cI, 9, .inl fp)), (p4, .inl (cI, 9, .inl zq)), (z5, .inl (cJ, ln, .inr (.inl zb))), (z6, .inl (cI, ln, .inl zw)), (h3, .inr (3, [.ref b1, .ref b2, .int (nI n), .int (nI c0), .int (nI y)])), (b1, .inl (cJ, 320, .inr (.inl fw)))]) [7, 1, 2, 3, 4, 8, 9, 10, 5, 6] (by decide) rfl
              have hFc := va_free (wc := [(h1, .inr (1, [.ref h4, .ref h3, .ref h2, .ref p4, .ref z5, .ref z6, .int (nI 1)])), (h4, .inr (4, [.ref a1, .ref a2, .ref a3, .int (nI n), .int (nI sa), .int sg])), (a1, .inl (cI, 9, .inl fg)), (a2, .inl (cI, 9, .inl fb)), (a3, .inl (cI, 9, .inl fp)), (p4, .inl (cI, 9, .inl zq)), (z5, .inl (cJ, ln, .inr (.inl zb))), (z6, .inl (cI, ln, .inl zw)), (h3, .inr (3, [.ref b1, .ref b2, .int (nI n), .int (nI c0), .int (nI y)])), (b1, .inl (cJ, 320, .inr (.inl fw)))]) hD hS hA [7, 1, 2, 3, 4, 8, 9, 10, 5, 6] rfl
              refine va_calli (va_runV (As := [.int (nI pl), .int (nI v), .int (nI (j &&& v))]) (rest := []) ⟨hx, hb, hml, hown, hts⟩ (c_X1_next_g l D cI cJ cZ z3 t3 H.size 0 0 h1 h4 h3 h2 p4 z5 z6 a1 a2 a3 n b1 b2 y ln (nI n) (nI c0) (nI sa) sg (nI 1) fg fb fp zq zb zw fw v (j &&& v) pl (by first | assumption | omega) (by first | assumption | omega) (by first | assumption | omega) (by exact hF.1) (by exact Or.inr ⟨rfl, hF.ge⟩) (by exact fun a => absurd a (by decide)) (by first | assumption | omega) (by exact Nat.lt_of_le_of_lt Nat.and_le_left hj) (by first | assumption | omega) ((nz3.D hD hzA htA).sub [7, 1, 2, 3, 4, 8, 9, 10, 5, 6] rfl)) (cwV 3 hts gX6_follow_X1_next rfl rfl rfl (by decide +kernel) ⟨Nat.le_of_ble_eq_true rfl, Nat.le_of_ble_eq_true rfl⟩) ⟨pnT_blind, va_recv hK hP (ci := 1) (q0 := 7) rfl rfl, fun U hU hW => ⟨rfl, by rw [hU], by rw [hU]; exact hPc, hKN.warm hW, hT0.go hS hzA htA hW hU, hDc.weaken (fun _ _ _ _ => trivial)⟩⟩ rfl rfl hl.1 rfl (lv_room (Nat.le_of_ble_eq_true rfl)) dX6_follow_43 ⟨(show mc + 0 ≤ mc by omega), (show ms + 0 ≤ ms by omega)⟩) hS (fun q _ h => hFc q h) hFc (fun r8 u t H1 locs ht hvm hw hB hz1 hk1 hS => ?_)
              obtain ⟨u8_w5, u8_w6, u8_ul, u8_uq, u8_ub, u8_uw, u8_uf⟩ := u
              have w8 : (r8 = -1 ∧ FS (nI 1) ln n (NV fw y (j &&& v) ((2 ^ n - 1) ^^^ v)) u8_uf u8_ul) ∨ (∃ x, x < n ∧ r8 = nI x ∧ v / 2 ^ x % 2 = 0 ∧ u8_uf = nI 1 ∧ FS (nI 1) ln n (NV fw y (j &&& v) ((2 ^ n - 1) ^^^ v)) (nI 1) u8_ul) := hw
              obtain ⟨hP1, hD1⟩ := hB
              rw [ht] at hP1
              have hP1 : va_P D vwCl [(h1, .inr (1, [.ref h4, .ref h3, .ref h2, .ref p4, .ref u8_w5, .ref u8_w6, .int u8_uf])), (h4, .inr (4, [.ref a1, .ref a2, .ref a3, .int (nI n), .int (nI sa), .int sg])), (a1, .inl (cI, 9, .inl fg)), (a2, .inl (cI, 9, .inl fb)), (a3, .inl (cI, 9, .inl fp)), (p4, .inl (cI, 9, .inl u8_uq)), (u8_w5, .inl (cJ, u8_ul, .inr (.inl u8_ub))), (u8_w6, .inl (cI, u8_ul, .inl u8_uw)), (h3, .inr (3, [.ref b1, .ref b2, .int (nI n), .int (nI c0), .int (nI y)])), (b1, .inl (cJ, 320, .inr (.inl fw)))] H1 := hP1
              have hD1 : va_D _ [(h1, .inr (1, [.ref h4, .ref h3, .ref h2, .ref p4, .ref u8_w5, .ref u8_w6, .int u8_uf])), (h4, .inr (4, [.ref a1, .ref a2, .ref a3, .int (nI n), .int (nI sa), .int sg])), (a1, .inl (cI, 9, .inl fg)), (a2, .inl (cI, 9, .inl fb)), (a3, .inl (cI, 9, .inl fp)), (p4, .inl (cI, 9, .inl u8_uq)), (u8_w5, .inl (cJ, u8_ul, .inr (.inl u8_ub))), (u8_w6, .inl (cI, u8_ul, .inl u8_uw)), (h3, .inr (3, [.ref b1, .ref b2, .int (nI n), .int (nI c0), .int (nI y)])), (b1, .inl (cJ, 320, .inr (.inl fw)))] := hD1
              obtain ⟨hP, hD⟩ := va_join (wr := [(x0, .inr (6, [.ref h4, .ref h3, .ref h2, .ref h1, .ref hB, .ref h5])), (h5, .inr (5, [.ref lk1, .int (nI k)])), (lk1, .inl (cI, 9, .inl zk))]) (w1 := [(h1, .inr (1, [.ref h4, .ref h3, .ref h2, .ref p4, .ref u8_w5, .ref u8_w6, .int u8_uf])), (h4, .inr (4, [.ref a1, .ref a2, .ref a3, .int (nI n), .int (nI sa), .int sg])), (a1, .inl (cI, 9, .inl fg)), (a2, .inl (cI, 9, .inl fb)), (a3, .inl (cI, 9, .inl fp)), (p4, .inl (cI, 9, .inl u8_uq)), (u8_w5, .inl (cJ, u8_ul, .inr (.inl u8_ub))), (u8_w6, .inl (cI, u8_ul, .inl u8_uw)), (h3, .inr (3, [.ref b1, .ref b2, .int (nI n), .int (nI c0), .int (nI y)])), (b1, .inl (cJ, 320, .inr (.inl fw)))]) hP hD [7, 1, 2, 3, 4, 8, 9, 10, 5, 6] [0, 11, 12] rfl rfl (by decide) (by decide) hk1 hFc hP1 hD1
              generalize H1 = H at hP hS ⊢
              have hP := hP.sub (ws' := [(x0, .inr (6, [.ref h4, .ref h3, .ref h2, .ref h1, .ref hB, .ref h5])), (h4, .inr (4, [.ref a1, .ref a2, .ref a3, .int (nI n), .int (nI sa), .int sg])), (a1, .inl (cI, 9, .inl fg)), (a2, .inl (cI, 9, .inl fb)), (a3, .inl (cI, 9, .inl fp)), (h3, .inr (3, [.ref b1, .ref b2, .int (nI n), .int (nI c0), .int (nI y)])), (b1, .inl (cJ, 320, .inr (.inl fw))), (h1, .inr (1, [.ref h4, .ref h3, .ref h2, .ref p4, .ref u8_w5, .ref u8_w6, .int u8_uf])), (p4, .inl (cI, 9, .inl u8_uq)), (u8_w5, .inl (cJ, u8_ul, .inr (.inl u8_ub))), (u8_w6, .inl (cI, u8_ul, .inl u8_uw)), (h5, .inr (5, [.ref lk1, .int (nI k)])), (lk1, .inl (cI, 9, .inl zk))]) [0, 4, 5, 6, 7, 11, 12, 3, 8, 9, 10, 1, 2] rfl
              have hD := hD.sub (ws' := [(x0, .inr (6, [.ref h4, .ref h3, .ref h2, .ref h1, .ref hB, .ref h5])), (h4, .inr (4, [.ref a1, .ref a2, .ref a3, .int (nI n), .int (nI sa), .int sg])), (a1, .inl (cI, 9, .inl fg)), (a2, .inl (cI, 9, .inl fb)), (a3, .inl (cI, 9, .inl fp)), (h3, .inr (3, [.ref b1, .ref b2, .int (nI n), .int (nI c0), .int (nI y)])), (b1, .inl (cJ, 320, .inr (.inl fw))), (h1, .inr (1, [.ref h4, .ref h3, .ref h2, .ref p4, .ref u8_w5, .ref u8_w6, .int u8_uf])), (p4, .inl (cI, 9, .inl u8_uq)), (u8_w5, .inl (cJ, u8_ul, .inr (.inl u8_ub))), (u8_w6, .inl (cI, u8_ul, .inl u8_uw)), (h5, .inr (5, [.ref lk1, .int (nI k)])), (lk1, .inl (cI, 9, .inl zk))]) [0, 4, 5, 6, 7, 11, 12, 3, 8, 9, 10, 1, 2] (by decide) rfl
              have hP : va_P D vwCl [(x0, .inr (6, [.ref h4, .ref h3, .ref h2, .ref h1, .ref hB, .ref h5])), (h4, .inr (4, [.ref a1, .ref a2, .ref a3, .int (nI n), .int (nI sa), .int sg])), (a1, .inl (cI, 9, .inl fg)), (a2, .inl (cI, 9, .inl fb)), (a3, .inl (cI, 9, .inl fp)), (h3, .inr (3, [.ref b1, .ref b2, .int (nI n), .int (nI c0), .int (nI y)])), (b1, .inl (cJ, 320, .inr (.inl fw))), (h1, .inr (1, [.ref h4, .ref h3, .ref h2, .ref p4, .ref u8_w5, .ref u8_w6, .int u8_uf])), (p4, .inl (cI, 9, .inl u8_uq)), (u8_w5, .inl (cJ, u8_ul, .inr (.inl u8_ub))), (u8_w6, .inl (cI, u8_ul, .inl u8_uw)), (h5, .inr (5, [.ref lk1, .int (nI k)])), (lk1, .inl (cI, 9, .inl zk))] H := hP
              have hD : va_D A [(x0, .inr (6, [.ref h4, .ref h3, .ref h2, .ref h1, .ref hB, .ref h5])), (h4, .inr (4, [.ref a1, .ref a2, .ref a3, .int (nI n), .int (nI sa), .int sg])), (a1, .inl (cI, 9, .inl fg)), (a2, .inl (cI, 9, .inl fb)), (a3, .inl (cI, 9, .inl fp)), (h3, .inr (3, [.ref b1, .ref b2, .int (nI n), .int (nI c0), .int (nI y)])), (b1, .inl (cJ, 320, .inr (.inl fw))), (h1, .inr (1, [.ref h4, .ref h3, .ref h2, .ref p4, .ref u8_w5, .ref u8_w6, .int u8_uf])), (p4, .inl (cI, 9, .inl u8_uq)), (u8_w5, .inl (cJ, u8_ul, .inr (.inl u8_ub))), (u8_w6, .inl (cI, u8_ul, .inl u8_uw)), (h5, .inr (5, [.ref lk1, .int (nI k)])), (lk1, .inl (cI, 9, .inl zk))] := hD
              refine W.widen (k := mc) (n := ms) (by omega) (by omega) ?_
              rcases w8 with ⟨rfl, w8⟩ | ⟨x9, hx9, rfl, hb9, rfl, w8⟩
              · skip
                have hF0 := FS.trans hF w8
                refine lv_istore (lv' := [(6, .int (-1 : Int32)), (5, .int (nI k)), (3, .int (nI v)), (4, .int pv), (0, .ref x0), (1, .int (nI pl)), (2, .int (nI j))]) hx hb dX6_follow_46 hl (by decide) rfl (fun ls hl => ?_)
                refine lv_iload hx hb dX6_follow_48 (lv_at hl 0 rfl) ?_
                refine lv_iconst (v := (-1 : Int32)) hx hb dX6_follow_50 (by decide) ?_
                refine lv_icmp_ne (tgt := 57) hx hb dX6_follow_51 (by decide) (fun c9 => ?_) (fun c9 => ?_)
                · exact absurd c9 (by first | decide | exact nz_lt (by omega) | exact fun h => h (nz_ge (by omega)))
                · skip
                  refine lv_goto (tgt := 94) hx hb dX6_follow_54 (by decide) ?_
                  refine lv_iload hx hb dX6_follow_94 (lv_at hl 3 rfl) ?_
                  refine W.widen (k := mc) (n := ms) (by omega) (by omega) ?_
                  rw [← hQ]
                  have hP9 := hP.sub (ws' := [(x0, .inr (6, [.ref h4, .ref h3, .ref h2, .ref h1, .ref hB, .ref h5])), (h4, .inr (4, [.ref a1, .ref a2, .ref a3, .int (nI n), .int (nI sa), .int sg])), (a1, .inl (cI, 9, .inl fg)), (a2, .inl (cI, 9, .inl fb)), (a3, .inl (cI, 9, .inl fp)), (h3, .inr (3, [.ref b1, .ref b2, .int (nI n), .int (nI c0), .int (nI y)])), (b1, .inl (cJ, 320, .inr (.inl fw))), (h1, .inr (1, [.ref h4, .ref h3, .ref h2, .ref p4, .ref u8_w5, .ref u8_w6, .int u8_uf])), (p4, .inl (cI, 9, .inl u8_uq)), (u8_w5, .inl (cJ, u8_ul, .inr (.inl u8_ub))), (u8_w6, .inl (cI, u8_ul, .inl u8_uw)), (h5, .inr (5, [.ref lk1, .int (nI k)])), (lk1, .inl (cI, 9, .inl zk))]) [0, 1, 2, 3, 4, 5, 6, 7, 8, 9, 10, 11, 12] rfl
                  have hD9 := hD.sub (ws' := [(x0, .inr (6, [.ref h4, .ref h3, .ref h2, .ref h1, .ref hB, .ref h5])), (h4, .inr (4, [.ref a1, .ref a2, .ref a3, .int (nI n), .int (nI sa), .int sg])), (a1, .inl (cI, 9, .inl fg)), (a2, .inl (cI, 9, .inl fb)), (a3, .inl (cI, 9, .inl fp)), (h3, .inr (3, [.ref b1, .ref b2, .int (nI n), .int (nI c0), .int (nI y)])), (b1, .inl (cJ, 320, .inr (.inl fw))), (h1, .inr (1, [.ref h4, .ref h3, .ref h2, .ref p4, .ref u8_w5, .ref u8_w6, .int u8_uf])), (p4, .inl (cI, 9, .inl u8_uq)), (u8_w5, .inl (cJ, u8_ul, .inr (.inl u8_ub))), (u8_w6, .inl (cI, u8_ul, .inl u8_uw)), (h5, .inr (5, [.ref lk1, .int (nI k)])), (lk1, .inl (cI, 9, .inl zk))]) [0, 1, 2, 3, 4, 5, 6, 7, 8, 9, 10, 11, 12] (by decide) rfl
                  exact W.iret (v := pv) hx hb hr (fun tS htS hWS => ⟨⟨pv, (u8_w5, u8_w6, u8_ul, u8_uq, u8_ub, u8_uw, u8_uf, nI k, zk), rfl, ⟨by first | exact hF0 | exact hF, _, by omega, rfl⟩, m_at htS hP9, hD9⟩, hS.F htS⟩) hS.2.2 dX6_follow_96
              · skip
                have hF1 := FS.trans hF w8
                refine lv_istore (lv' := [(6, .int (nI x9)), (5, .int (nI k)), (3, .int (nI v)), (4, .int pv), (0, .ref x0), (1, .int (nI pl)), (2, .int (nI j))]) hx hb dX6_follow_46 hl (by decide) rfl (fun ls hl => ?_)
                refine lv_iload hx hb dX6_follow_48 (lv_at hl 0 rfl) ?_
                refine lv_iconst (v := (-1 : Int32)) hx hb dX6_follow_50 (by decide) ?_
                refine lv_icmp_ne (tgt := 57) hx hb dX6_follow_51 (by decide) (fun c10 => ?_) (fun c10 => ?_)
                · skip
                  refine lv_aload_n hx hb dX6_follow_57 rfl (lv_at hl 4 rfl) ?_
                  refine va_get (D := D) (ci := 6) (v := .ref h5) (C := RX6) (T := TX6) (N := 6) hx hb hts hiX6 hown hK hP 0 rfl rfl 5 (by decide) hf51 (fun _ h9 => h9) rfl dX6_follow_58 ?_
                  refine lv_iload hx hb dX6_follow_61 (lv_at hl 0 rfl) ?_
                  refine mu_v (n := 13) (wc := [(h5, .inr (5, [.ref lk1, .int (nI k)])), (lk1, .inl (cI, 9, .inl zk))]) (va_runV (As := [.int (nI x9)]) (rest := []) ⟨hx, hb, hml, hown, hts⟩ (c_X5_append l D cI cJ cZ h5 lk1 k (nI x9) zk (by first | assumption | omega)) (cwV 1 hts gX6_follow_X5_append rfl rfl rfl (by decide +kernel) ⟨Nat.le_of_ble_eq_true rfl, Nat.le_of_ble_eq_true rfl⟩) ⟨pm_blind, va_recv hK hP (ci := 5) (q0 := 11) rfl rfl, fun U hU hW => ⟨rfl, by rw [hU]; exact hP.sub (ws' := [(h5, .inr (5, [.ref lk1, .int (nI k)])), (lk1, .inl (cI, 9, .inl zk))]) [11, 12] rfl, hKN.warm hW, (hD.sub (ws' := [(h5, .inr (5, [.ref lk1, .int (nI k)])), (lk1, .inl (cI, 9, .inl zk))]) [11, 12] (by decide) rfl).weaken (fun _ _ _ _ => trivial)⟩⟩ rfl rfl hl.1 rfl (lv_room (Nat.le_of_ble_eq_true rfl)) dX6_follow_63 ⟨(show mc + 0 ≤ mc by omega), (show ms + 0 ≤ ms by omega)⟩) hS hP hD (fun (u : Unit) => [(x0, .inr (6, [.ref h4, .ref h3, .ref h2, .ref h1, .ref hB, .ref h5])), (h4, .inr (4, [.ref a1, .ref a2, .ref a3, .int (nI n), .int (nI sa), .int sg])), (a1, .inl (cI, 9, .inl fg)), (a2, .inl (cI, 9, .inl fb)), (a3, .inl (cI, 9, .inl fp)), (h3, .inr (3, [.ref b1, .ref b2, .int (nI n), .int (nI c0), .int (nI y)])), (b1, .inl (cJ, 320, .inr (.inl fw))), (h1, .inr (1, [.ref h4, .ref h3, .ref h2, .ref p4, .ref u8_w5, .ref u8_w6, .int (nI 1)])), (p4, .inl (cI, 9, .inl u8_uq)), (u8_w5, .inl (cJ, u8_ul, .inr (.inl u8_ub))), (u8_w6, .inl (cI, u8_ul, .inl u8_uw)), (h5, .inr (5, [.ref lk1, .int (nI (k + 1))])), (lk1, .inl (cI, 9, .inl (upd zk k (nI x9))))]) [11, 12] [0, 1, 2, 3, 4, 5, 6, 7, 8, 9, 10] rfl rfl (fun _ => rfl) (fun _ => rfl) (fun _ => rfl) (fun _ => rfl) (by decide) (by decide) (fun u11 H locs w11r hP hD hS => ?_)
                  have hP : va_P D vwCl [(x0, .inr (6, [.ref h4, .ref h3, .ref h2, .ref h1, .ref hB, .ref h5])), (h4, .inr (4, [.ref a1, .ref a2, .ref a3, .int (nI n), .int (nI sa), .int sg])), (a1, .inl (cI, 9, .inl fg)), (a2, .inl (cI, 9, .inl fb)), (a3, .inl (cI, 9, .inl fp)), (h3, .inr (3, [.ref b1, .ref b2, .int (nI n), .int (nI c0), .int (nI y)])), (b1, .inl (cJ, 320, .inr (.inl fw))), (h1, .inr (1, [.ref h4, .ref h3, .ref h2, .ref p4, .ref u8_w5, .ref u8_w6, .int (nI 1)])), (p4, .inl (cI, 9, .inl u8_uq)), (u8_w5, .inl (cJ, u8_ul, .inr (.inl u8_ub))), (u8_w6, .inl (cI, u8_ul, .inl u8_uw)), (h5, .inr (5, [.ref lk1, .int (nI (k + 1))])), (lk1, .inl (cI, 9, .inl (upd zk k (nI x9))))] H := hP
                  have hD : va_D A [(x0, .inr (6, [.ref h4, .ref h3, .ref h2, .ref h1, .ref hB, .ref h5])), (h4, .inr (4, [.ref a1, .ref a2, .ref a3, .int (nI n), .int (nI sa), .int sg])), (a1, .inl (cI, 9, .inl fg)), (a2, .inl (cI, 9, .inl fb)), (a3, .inl (cI, 9, .inl fp)), (h3, .inr (3, [.ref b1, .ref b2, .int (nI n), .int (nI c0), .int (nI y)])), (b1, .inl (cJ, 320, .inr (.inl fw))), (h1, .inr (1, [.ref h4, .ref h3, .ref h2, .ref p4, .ref u8_w5, .ref u8_w6, .int (nI 1)])), (p4, .inl (cI, 9, .inl u8_uq)), (u8_w5, .inl (cJ, u8_ul, .inr (.inl u8_ub))), (u8_w6, .inl (cI, u8_ul, .inl u8_uw)), (h5, .inr (5, [.ref lk1, .int (nI (k + 1))])), (lk1, .inl (cI, 9, .inl (upd zk k (nI x9))))] := hD
                  have w11 : True := w11r
                  clear w11r
                  refine lv_iload hx hb dX6_follow_66 (lv_at hl 3 rfl) ?_
                  refine lv_aload_n hx hb dX6_follow_68 rfl (lv_at hl 4 rfl) ?_
                  refine va_get (D := D) (ci := 6) (v := .ref h4) (C := RX6) (T := TX6) (N := 6) hx hb hts hiX6 hown hK hP 0 rfl rfl 0 (by decide) hf10 (fun _ h9 => h9) rfl dX6_follow_69 ?_
                  refine va_getN (D := D) (ci := 4) (v := .ref a3) (C := RX4) (T := TX4) (N := 6) hx hb hts hiX4 hown hK hP 1 rfl rfl 2 (by decide) hf135 (fun _ h9 => h9) rfl dX6_follow_72 ?_
                  refine lv_iload hx hb dX6_follow_75 (lv_at hl 0 rfl) ?_
                  refine va_iald hx hb hK hP 4 0 rfl rfl (i := nI x9) (vp_in_nI (by omega) (by omega)) dX6_follow_77 ?_
                  refine cn_i (y := fp x9) (congrArg fp (nI_clamp (by omega))) ?_
                  refine lv_iadd hx hb dX6_follow_78 ?_
                  refine lv_istore (lv' := [(4, .int (pv + (fp x9))), (6, .int (nI x9)), (5, .int (nI k)), (3, .int (nI v)), (0, .ref x0), (1, .int (nI pl)), (2, .int (nI j))]) hx hb dX6_follow_79 hl (by decide) rfl (fun ls hl => ?_)
                  refine lv_iload_n hx hb dX6_follow_81 rfl (lv_at hl 3 rfl) ?_
                  refine lv_iconst (v := nI 1) hx hb dX6_follow_82 (by decide) ?_
                  refine lv_iload hx hb dX6_follow_83 (lv_at hl 1 rfl) ?_
                  refine lv_ishl hx hb dX6_follow_85 ?_
                  refine cn_i (y := nI (2 ^ x9)) (m_shl1 (by omega)) ?_
                  refine lv_ior hx hb dX6_follow_86 ?_
                  refine cn_i (y := nI (v ||| (2 ^ x9))) (mb_or v (2 ^ x9)) ?_
                  refine lv_istore_n (lv' := [(3, .int (nI (v ||| (2 ^ x9)))), (4, .int (pv + (fp x9))), (6, .int (nI x9)), (5, .int (nI k)), (0, .ref x0), (1, .int (nI pl)), (2, .int (nI j))]) hx hb dX6_follow_87 rfl hl (by decide) rfl (fun ls hl => ?_)
                  refine lv_iinc (v := nI (k + 1)) (lv' := [(5, .int (nI (k + 1))), (3, .int (nI (v ||| (2 ^ x9)))), (4, .int (pv + (fp x9))), (6, .int (nI x9)), (0, .ref x0), (1, .int (nI pl)), (2, .int (nI j))]) hx hb dX6_follow_88 hl (k := 3) rfl (nI_1 k) (by decide) rfl (fun ls hl => ?_)
                  refine lv_goto (tgt := 22) hx hb dX6_follow_91 (by decide) ?_
                  exact ih6 (k + 1) (v ||| (2 ^ x9)) (pv + (fp x9)) u8_w5 u8_w6 u8_ul u8_uq u8_ub u8_uw (upd zk k (nI x9)) _ _ _ (by omega) (m_or9 hv (m_p2n hx9)) hF1 hP hD hS (lv_sub hl [0, 1, 2, 4, 5, 6] rfl)
                · exact absurd c10 (nI_ne1 (by omega))
        exact loop6 (n + 1) (0 + 1) (sa ||| (2 ^ x9)) ((nI 0) + (fp x9)) u2_w5 u2_w6 u2_ul u2_uq u2_ub u2_uw (upd fk 0 (nI x9)) _ _ _ (by omega) (m_or9 hsa (m_p2n hx9)) hF1 hP hD hS (lv_sub hl [0, 1, 2, 4, 5, 6] rfl)
      · exact absurd c4 (nI_ne1 (by omega))
def rm_c_X6_follow_o : Room := { frames := 4, cells := 0, slots := 0, locals := 90 }
set_option maxHeartbeats 400000 in
set_option maxRecDepth 100000 in
theorem c_X6_follow_o (l : Launch) (D : va_G) (cI cJ cZ : ClassId) (x0 : Nat) (h4 : Nat) (h3 : Nat) (h2 : Nat) (h1 : Nat) (hB : Nat) (h5 : Nat) (a1 : Nat) (a2 : Nat) (a3 : Nat) (b1 : Nat) (b2 : Nat) (r1 : Nat) (p4 : Nat) (p5 : Nat) (p6 : Nat) (lk1 : Nat) (n : Nat) (c0 : Nat) (y : Nat) (sa : Nat) (q : Nat) (j : Nat) (fr : Int32) (sg : Int32) (tc : Int32) (fg : Nat → Int32) (fb : Nat → Int32) (fp : Nat → Int32) (qr : Nat → Int32) (fw : Nat → Int64) (fk : Nat → Int32) (hn : n ≤ 9) (h1n : 1 ≤ n) (hc : c0 ≤ 40) (hy : y < c0) (hsa : sa < 2 ^ n) (hj : j < 512) (hq : q ≤ 9) (hrow : ∀ z, z < q → ∃ x, x < n ∧ qr z = nI x) : Met l yX6_follow wsX6_follow rm_c_X6_follow_o (pm_ D cI cJ cZ [.ref x0, .int (nI 2), .int (nI j)] [(x0, .inr (6, [.ref h4, .ref h3, .ref h2, .ref h1, .ref hB, .ref h5])), (h4, .inr (4, [.ref a1, .ref a2, .ref a3, .int (nI n), .int (nI sa), .int sg])), (a1, .inl (cI, 9, .inl fg)), (a2, .inl (cI, 9, .inl fb)), (a3, .inl (cI, 9, .inl fp)), (h3, .inr (3, [.ref b1, .ref b2, .int (nI n), .int (nI c0), .int (nI y)])), (b1, .inl (cJ, 320, .inr (.inl fw))), (h2, .inr (2, [.ref r1, .int (nI q)])), (r1, .inl (cI, 9, .inl qr)), (h1, .inr (1, [.ref h4, .ref h3, .ref h2, .ref p4, .ref p5, .ref p6, .int fr])), (h5, .inr (5, [.ref lk1, .int tc])), (lk1, .inl (cI, 9, .inl fk))]) (va_Qi (fun (r : Int32) (u : Int32 × (Nat → Int32)) => ∃ x, x ≤ 9 ∧ u.1 = nI x) (fun (u : Int32 × (Nat → Int32)) tS => va_P D vwCl [(x0, .inr (6, [.ref h4, .ref h3, .ref h2, .ref h1, .ref hB, .ref h5])), (h4, .inr (4, [.ref a1, .ref a2, .ref a3, .int (nI n), .int (nI sa), .int sg])), (a1, .inl (cI, 9, .inl fg)), (a2, .inl (cI, 9, .inl fb)), (a3, .inl (cI, 9, .inl fp)), (h3, .inr (3, [.ref b1, .ref b2, .int (nI n), .int (nI c0), .int (nI y)])), (b1, .inl (cJ, 320, .inr (.inl fw))), (h2, .inr (2, [.ref r1, .int (nI q)])), (r1, .inl (cI, 9, .inl qr)), (h1, .inr (1, [.ref h4, .ref h3, .ref h2, .ref p4, .ref p5, .ref p6, .int fr])), (h5, .inr (5, [.ref lk1, .int u.1])), (lk1, .inl (cI, 9, .inl u.2))] tS.heap) (aA [x0, h4, a1, a2, a3, h3, b1, h2, r1, h1, h5, lk1])) 0 0 (aA [x0, h4, a1, a2, a3, h3, b1, h2, r1, h1, h5, lk1]) := by
  refine Met.ofW (cc := cX6_follow) (maxL := 7) (ret := (some .int)) (by decide) rfl ?_
  intro p e s m args below meth c s₁ B hml hv
  obtain ⟨rfl, hP, hKN, hD0⟩ := hv
  have hK := hKN.1
  have hx := B.exec
  have hb := B.bytes
  have hr := B.returns
  have hts := atoms_spec (ws := wsX6_follow) B.pre
  have hown : s.vm.findClass RX6 = some m.cls := findClass_of_methodNamed B.named
  have hlocks := B.notSynchronized
  have hiX4 : ∀ w ∈ wsX40, w ∈ wsX6_follow := by decide +kernel
  have hiX5 : ∀ w ∈ wsX50, w ∈ wsX6_follow := by decide +kernel
  have hiX6 : ∀ w ∈ wsX60, w ∈ wsX6_follow := by decide +kernel
  have hf10 := hts (.fieldLink RX6 10 "LookBench" "shelf" "LLookBench$Shelf;") (by decide +kernel)
  have hf35 := hts (.fieldLink RX6 35 "LookBench" "plans" "LLookBench$Plans;") (by decide +kernel)
  have hf51 := hts (.fieldLink RX6 51 "LookBench" "trail" "LLookBench$Trail;") (by decide +kernel)
  have hf135 := va_Nw.use (A := [.ref x0, .int (nI 2), .int (nI j)].toArray) rfl (hKN.2 (.fieldLinkNest RX6 135 RX4 "prices" "[I" RX6) (by decide +kernel))
  have hf151 := va_Nw.use (A := [.ref x0, .int (nI 2), .int (nI j)].toArray) rfl (hKN.2 (.fieldLinkNest RX6 151 RX4 "seen" "I" RX6) (by decide +kernel))
  have hf212 := va_Nw.use (A := [.ref x0, .int (nI 2), .int (nI j)].toArray) rfl (hKN.2 (.fieldLinkNest RX6 212 RX5 "count" "I" RX6) (by decide +kernel))
  have hf216 := va_Nw.use (A := [.ref x0, .int (nI 2), .int (nI j)].toArray) rfl (hKN.2 (.fieldLinkNest RX6 216 RX4 "count" "I" RX6) (by decide +kernel))
  obtain ⟨as, has⟩ : ∃ z : List Nat, z = [x0, h4, a1, a2, a3, h3, b1, h2, r1, h1, h5, lk1] := ⟨_, rfl⟩
  have hD := hD0.addr (as := as) (by rw [has]; rfl)
  have hS : va_S (aA as) s.heap s.heap [] := va_S.rf
  have hl := lv_entry ([.ref x0, .int (nI 2), .int (nI j)]) (n := 7) (Nat.le_of_ble_eq_true rfl)
  rw [lg_entry_eq]
  generalize (lg_sl ([.ref x0, .int (nI 2), .int (nI j)]) ++ List.replicate (7 - (lg_sl ([.ref x0, .int (nI 2), .int (nI j)])).length) Slot.unset).toArray = ls at hl ⊢
  have hl : lv_has ls 7 [(0, .ref x0), (1, .int (nI 2)), (2, .int (nI j))] := hl
  generalize hQ : MQ below _ _ s _ _ _ = Q
  obtain ⟨H, hH⟩ : ∃ z, z = s.heap := ⟨_, rfl⟩
  have hP : va_P D vwCl [(x0, .inr (6, [.ref h4, .ref h3, .ref h2, .ref h1, .ref hB, .ref h5])), (h4, .inr (4, [.ref a1, .ref a2, .ref a3, .int (nI n), .int (nI sa), .int sg])), (a1, .inl (cI, 9, .inl fg)), (a2, .inl (cI, 9, .inl fb)), (a3, .inl (cI, 9, .inl fp)), (h3, .inr (3, [.ref b1, .ref b2, .int (nI n), .int (nI c0), .int (nI y)])), (b1, .inl (cJ, 320, .inr (.inl fw))), (h2, .inr (2, [.ref r1, .int (nI q)])), (r1, .inl (cI, 9, .inl qr)), (h1, .inr (1, [.ref h4, .ref h3, .ref h2, .ref p4, .ref p5, .ref p6, .int fr])), (h5, .inr (5, [.ref lk1, .int tc])), (lk1, .inl (cI, 9, .inl fk))] H := by rw [hH]; exact hP
  have hS : va_S (aA as) s.heap H [] := by rw [hH]; exact hS
  refine m_heap hH ?_
  clear hH
  have h2n := m_pow hn
  have h2p := m_powp n
  refine lv_aload_n hx hb dX6_follow_0 rfl (lv_at hl 0 rfl) ?_
  refine va_get (D := D) (ci := 6) (v := .ref h5) (C := RX6) (T := TX6) (N := 6) hx hb hts hiX6 hown hK hP 0 rfl rfl 5 (by decide) hf51 (fun _ h9 => h9) rfl dX6_follow_1 ?_
  refine lv_iconst (v := nI 0) hx hb dX6_follow_4 (by decide) ?_
  refine va_putN (D := D) (ci := 5) (v := .int (nI 0)) (ty := tyX5 1) (C := RX5) (T := TX5) (N := 2) hx hb hts hiX5 tyX5 tyX5_ok nmX5 hown hK hP hD hS 10 rfl rfl 1 (by decide) hf212 (fun _ h9 => h9) rfl (by decide +kernel) rfl rfl (Nat.le_of_ble_eq_true rfl) dX6_follow_5 (fun H locs hP hD hS => ?_)
  have hP : va_P D vwCl [(x0, .inr (6, [.ref h4, .ref h3, .ref h2, .ref h1, .ref hB, .ref h5])), (h4, .inr (4, [.ref a1, .ref a2, .ref a3, .int (nI n), .int (nI sa), .int sg])), (a1, .inl (cI, 9, .inl fg)), (a2, .inl (cI, 9, .inl fb)), (a3, .inl (cI, 9, .inl fp)), (h3, .inr (3, [.ref b1, .ref b2, .int (nI n), .int (nI c0), .int (nI y)])), (b1, .inl (cJ, 320, .inr (.inl fw))), (h2, .inr (2, [.ref r1, .int (nI q)])), (r1, .inl (cI, 9, .inl qr)), (h1, .inr (1, [.ref h4, .ref h3, .ref h2, .ref p4, .ref p5, .ref p6, .int fr])), (h5, .inr (5, [.ref lk1, .int (nI 0)])), (lk1, .inl (cI, 9, .inl fk))] H := hP
  have hD : va_D (aA as) [(x0, .inr (6, [.ref h4, .ref h3, .ref h2, .ref h1, .ref hB, .ref h5])), (h4, .inr (4, [.ref a1, .ref a2, .ref a3, .int (nI n), .int (nI sa), .int sg])), (a1, .inl (cI, 9, .inl fg)), (a2, .inl (cI, 9, .inl fb)), (a3, .inl (cI, 9, .inl fp)), (h3, .inr (3, [.ref b1, .ref b2, .int (nI n), .int (nI c0), .int (nI y)])), (b1, .inl (cJ, 320, .inr (.inl fw))), (h2, .inr (2, [.ref r1, .int (nI q)])), (r1, .inl (cI, 9, .inl qr)), (h1, .inr (1, [.ref h4, .ref h3, .ref h2, .ref p4, .ref p5, .ref p6, .int fr])), (h5, .inr (5, [.ref lk1, .int (nI 0)])), (lk1, .inl (cI, 9, .inl fk))] := hD
  refine lv_aload_n hx hb dX6_follow_8 rfl (lv_at hl 0 rfl) ?_
  refine va_get (D := D) (ci := 6) (v := .ref h4) (C := RX6) (T := TX6) (N := 6) hx hb hts hiX6 hown hK hP 0 rfl rfl 0 (by decide) hf10 (fun _ h9 => h9) rfl dX6_follow_9 ?_
  refine va_getN (D := D) (ci := 4) (v := .int (nI sa)) (C := RX4) (T := TX4) (N := 6) hx hb hts hiX4 hown hK hP 1 rfl rfl 4 (by decide) hf151 (fun _ h9 => h9) rfl dX6_follow_12 ?_
  refine lv_istore_n (lv' := [(3, .int (nI sa)), (0, .ref x0), (1, .int (nI 2)), (2, .int (nI j))]) hx hb dX6_follow_15 rfl hl (by decide) rfl (fun ls hl => ?_)
  refine lv_iconst (v := nI 0) hx hb dX6_follow_16 (by decide) ?_
  refine lv_istore (lv' := [(4, .int (nI 0)), (3, .int (nI sa)), (0, .ref x0), (1, .int (nI 2)), (2, .int (nI j))]) hx hb dX6_follow_17 hl (by decide) rfl (fun ls hl => ?_)
  refine lv_iconst (v := nI 0) hx hb dX6_follow_19 (by decide) ?_
  refine lv_istore (lv' := [(5, .int (nI 0)), (4, .int (nI 0)), (3, .int (nI sa)), (0, .ref x0), (1, .int (nI 2)), (2, .int (nI j))]) hx hb dX6_follow_20 hl (by decide) rfl (fun ls hl => ?_)
  have loop1 : ∀ (fu : Nat) (k : Nat) (v : Nat) (pv : Int32) (zk : Nat → Int32) (H : Heap) (locs : List Loc) (ls : Array Slot), (k ≤ n ∧ n < k + fu) → (v < 2 ^ n) → va_P D vwCl [(x0, .inr (6, [.ref h4, .ref h3, .ref h2, .ref h1, .ref hB, .ref h5])), (h4, .inr (4, [.ref a1, .ref a2, .ref a3, .int (nI n), .int (nI sa), .int sg])), (a1, .inl (cI, 9, .inl fg)), (a2, .inl (cI, 9, .inl fb)), (a3, .inl (cI, 9, .inl fp)), (h3, .inr (3, [.ref b1, .ref b2, .int (nI n), .int (nI c0), .int (nI y)])), (b1, .inl (cJ, 320, .inr (.inl fw))), (h2, .inr (2, [.ref r1, .int (nI q)])), (r1, .inl (cI, 9, .inl qr)), (h1, .inr (1, [.ref h4, .ref h3, .ref h2, .ref p4, .ref p5, .ref p6, .int fr])), (h5, .inr (5, [.ref lk1, .int (nI k)])), (lk1, .inl (cI, 9, .inl zk))] H → va_D (aA as) [(x0, .inr (6, [.ref h4, .ref h3, .ref h2, .ref h1, .ref hB, .ref h5])), (h4, .inr (4, [.ref a1, .ref a2, .ref a3, .int (nI n), .int (nI sa), .int sg])), (a1, .inl (cI, 9, .inl fg)), (a2, .inl (cI, 9, .inl fb)), (a3, .inl (cI, 9, .inl fp)), (h3, .inr (3, [.ref b1, .ref b2, .int (nI n), .int (nI c0), .int (nI y)])), (b1, .inl (cJ, 320, .inr (.inl fw))), (h2, .inr (2, [.ref r1, .int (nI q)])), (r1, .inl (cI, 9, .inl qr)), (h1, .inr (1, [.ref h4, .ref h3, .ref h2, .ref p4, .ref p5, .ref p6, .int fr])), (h5, .inr (5, [.ref lk1, .int (nI k)])), (lk1, .inl (cI, 9, .inl zk))] → va_S (aA as) s.heap H locs → lv_has ls 7 [(5, .int (nI k)), (4, .int pv), (3, .int (nI v)), (0, .ref x0), (1, .int (nI 2)), (2, .int (nI j))] → W p l e (headSpec wsX6_follow rm_c_X6_follow_o).room s m ([.ref x0, .int (nI 2), .int (nI j)] : List Value).toArray below meth c H locs 0 0 Q (F0 m 22 ls []) := by
    intro fu
    induction fu with
    | zero => intro k v pv zk H locs ls hk hv; exact absurd hk (by omega)
    | succ fu ih1 =>
      intro k v pv zk H locs ls hk hv hP hD hS hl
      refine lv_iload hx hb dX6_follow_22 (lv_at hl 0 rfl) ?_
      refine lv_aload_n hx hb dX6_follow_24 rfl (lv_at hl 3 rfl) ?_
      refine va_get (D := D) (ci := 6) (v := .ref h4) (C := RX6) (T := TX6) (N := 6) hx hb hts hiX6 hown hK hP 0 rfl rfl 0 (by decide) hf10 (fun _ h9 => h9) rfl dX6_follow_25 ?_
      refine va_getN (D := D) (ci := 4) (v := .int (nI n)) (C := RX4) (T := TX4) (N := 6) hx hb hts hiX4 hown hK hP 1 rfl rfl 3 (by decide) hf216 (fun _ h9 => h9) rfl dX6_follow_28 ?_
      refine lv_icmp_ge (tgt := 94) hx hb dX6_follow_31 (by decide) (fun c2 => ?_) (fun c2 => ?_)
      · skip
        have d2 := c2
        rw [nI_leI (by omega) (by omega)] at d2
        refine lv_iload hx hb dX6_follow_94 (lv_at hl 1 rfl) ?_
        rw [← hQ]
        exact W.iret (v := pv) hx hb hr (fun tS htS hWS => ⟨⟨pv, (nI k, zk), rfl, ⟨_, by omega, rfl⟩, m_at htS hP⟩, by rw [← has]; exact hS.F htS⟩) (by rw [← has]; exact hS.2.2) dX6_follow_96
      · skip
        have d2 := c2
        rw [nI_leI (by omega) (by omega)] at d2
        refine lv_aload_n hx hb dX6_follow_34 rfl (lv_at hl 3 rfl) ?_
        refine va_get (D := D) (ci := 6) (v := .ref h1) (C := RX6) (T := TX6) (N := 6) hx hb hts hiX6 hown hK hP 0 rfl rfl 3 (by decide) hf35 (fun _ h9 => h9) rfl dX6_follow_35 ?_
        refine lv_iload_n hx hb dX6_follow_38 rfl (lv_at hl 4 rfl) ?_
        refine lv_iload_n hx hb dX6_follow_39 rfl (lv_at hl 2 rfl) ?_
        refine lv_iload_n hx hb dX6_follow_40 rfl (lv_at hl 5 rfl) ?_
        refine lv_iload_n hx hb dX6_follow_41 rfl (lv_at hl 2 rfl) ?_
        refine lv_iand hx hb dX6_follow_42 ?_
        refine cn_i (y := nI (j &&& v)) (mb_and j v) ?_
        refine pu_i (va_runV (As := [.int (nI 2), .int (nI v), .int (nI (j &&& v))]) (rest := []) ⟨hx, hb, hml, hown, hts⟩ (c_X1_next_o l D cI cJ cZ h1 h4 h3 h2 p4 p5 p6 a1 a2 a3 n b1 b2 y r1 q v (j &&& v) (nI n) (nI c0) (nI sa) sg fr fw qr (by first | assumption | omega) (by first | assumption | omega) (by first | assumption | omega) (by first | assumption | omega) (by exact Nat.lt_of_le_of_lt Nat.and_le_left hj) (by first | assumption | omega)) (cwV 3 hts gX6_follow_X1_next rfl rfl rfl (by decide +kernel) ⟨Nat.le_of_ble_eq_true rfl, Nat.le_of_ble_eq_true rfl⟩) ⟨pc_blind, va_recv hK hP (ci := 1) (q0 := 9) rfl rfl, fun U hU hW => ⟨rfl, by rw [hU]; exact hP.sub (ws' := [(h1, .inr (1, [.ref h4, .ref h3, .ref h2, .ref p4, .ref p5, .ref p6, .int fr])), (h4, .inr (4, [.ref a1, .ref a2, .ref a3, .int (nI n), .int (nI sa), .int sg])), (h3, .inr (3, [.ref b1, .ref b2, .int (nI n), .int (nI c0), .int (nI y)])), (b1, .inl (cJ, 320, .inr (.inl fw))), (h2, .inr (2, [.ref r1, .int (nI q)])), (r1, .inl (cI, 9, .inl qr))]) [9, 1, 5, 6, 7, 8] rfl, hKN.warm hW⟩⟩ rfl rfl hl.1 rfl (lv_room (Nat.le_of_ble_eq_true rfl)) dX6_follow_43 ⟨Nat.le_of_ble_eq_true rfl, Nat.le_of_ble_eq_true rfl⟩) hS hP (fun r3 H locs w3r hP hS => ?_)
        have w3 : r3 = -1 ∨ ∃ x, x < n ∧ r3 = nI x ∧ v / 2 ^ x % 2 = 0 := w3r
        clear w3r
        rcases w3 with rfl | ⟨x9, hx9, rfl, hb9⟩
        · skip
          refine lv_istore (lv' := [(6, .int (-1 : Int32)), (5, .int (nI k)), (4, .int pv), (3, .int (nI v)), (0, .ref x0), (1, .int (nI 2)), (2, .int (nI j))]) hx hb dX6_follow_46 hl (by decide) rfl (fun ls hl => ?_)
          refine lv_iload hx hb dX6_follow_48 (lv_at hl 0 rfl) ?_
          refine lv_iconst (v := (-1 : Int32)) hx hb dX6_follow_50 (by decide) ?_
          refine lv_icmp_ne (tgt := 57) hx hb dX6_follow_51 (by decide) (fun c4 => ?_) (fun c4 => ?_)
          · exact absurd c4 (by first | decide | exact nz_lt (by omega) | exact fun h => h (nz_ge (by omega)))
          · skip
            refine lv_goto (tgt := 94) hx hb dX6_follow_54 (by decide) ?_
            refine lv_iload hx hb dX6_follow_94 (lv_at hl 2 rfl) ?_
            rw [← hQ]
            exact W.iret (v := pv) hx hb hr (fun tS htS hWS => ⟨⟨pv, (nI k, zk), rfl, ⟨_, by omega, rfl⟩, m_at htS hP⟩, by rw [← has]; exact hS.F htS⟩) (by rw [← has]; exact hS.2.2) dX6_follow_96
        · skip
          refine lv_istore (lv' := [(6, .int (nI x9)), (5, .int (nI k)), (4, .int pv), (3, .int (nI v)), (0, .ref x0), (1, .int (nI 2)), (2, .int (nI j))]) hx hb dX6_follow_46 hl (by decide) rfl (fun ls hl => ?_)
          refine lv_iload hx hb dX6_follow_48 (lv_at hl 0 rfl) ?_
          refine lv_iconst (v := (-1 : Int32)) hx hb dX6_follow_50 (by decide) ?_
          refine lv_icmp_ne (tgt := 57) hx hb dX6_follow_51 (by decide) (fun c5 => ?_) (fun c5 => ?_)
          · skip
            refine lv_aload_n hx hb dX6_follow_57 rfl (lv_at hl 4 rfl) ?_
            refine va_get (D := D) (ci := 6) (v := .ref h5) (C := RX6) (T := TX6) (N := 6) hx hb hts hiX6 hown hK hP 0 rfl rfl 5 (by decide) hf51 (fun _ h9 => h9) rfl dX6_follow_58 ?_
            refine lv_iload hx hb dX6_follow_61 (lv_at hl 0 rfl) ?_
            refine mu_v (n := 12) (wc := [(h5, .inr (5, [.ref lk1, .int (nI k)])), (lk1, .inl (cI, 9, .inl zk))]) (va_runV (As := [.int (nI x9)]) (rest := []) ⟨hx, hb, hml, hown, hts⟩ (c_X5_append l D cI cJ cZ h5 lk1 k (nI x9) zk (by first | assumption | omega)) (cwV 1 hts gX6_follow_X5_append rfl rfl rfl (by decide +kernel) ⟨Nat.le_of_ble_eq_true rfl, Nat.le_of_ble_eq_true rfl⟩) ⟨pm_blind, va_recv hK hP (ci := 5) (q0 := 10) rfl rfl, fun U hU hW => ⟨rfl, by rw [hU]; exact hP.sub (ws' := [(h5, .inr (5, [.ref lk1, .int (nI k)])), (lk1, .inl (cI, 9, .inl zk))]) [10, 11] rfl, hKN.warm hW, (hD.sub (ws' := [(h5, .inr (5, [.ref lk1, .int (nI k)])), (lk1, .inl (cI, 9, .inl zk))]) [10, 11] (by decide) rfl).weaken (fun _ _ _ _ => trivial)⟩⟩ rfl rfl hl.1 rfl (lv_room (Nat.le_of_ble_eq_true rfl)) dX6_follow_63 ⟨Nat.le_of_ble_eq_true rfl, Nat.le_of_ble_eq_true rfl⟩) hS hP hD (fun (u : Unit) => [(x0, .inr (6, [.ref h4, .ref h3, .ref h2, .ref h1, .ref hB, .ref h5])), (h4, .inr (4, [.ref a1, .ref a2, .ref a3, .int (nI n), .int (nI sa), .int sg])), (a1, .inl (cI, 9, .inl fg)), (a2, .inl (cI, 9, .inl fb)), (a3, .inl (cI, 9, .inl fp)), (h3, .inr (3, [.ref b1, .ref b2, .int (nI n), .int (nI c0), .int (nI y)])), (b1, .inl (cJ, 320, .inr (.inl fw))), (h2, .inr (2, [.ref r1, .int (nI q)])), (r1, .inl (cI, 9, .inl qr)), (h1, .inr (1, [.ref h4, .ref h3, .ref h2, .ref p4, .ref p5, .ref p6, .int fr])), (h5, .inr (5, [.ref lk1, .int (nI (k + 1))])), (lk1, .inl (cI, 9, .inl (upd zk k (nI x9))))]) [10, 11] [0, 1, 2, 3, 4, 5, 6, 7, 8, 9] rfl rfl (fun _ => rfl) (fun _ => rfl) (fun _ => rfl) (fun _ => rfl) (by decide) (by decide) (fun u6 H locs w6r hP hD hS => ?_)
            have hP : va_P D vwCl [(x0, .inr (6, [.ref h4, .ref h3, .ref h2, .ref h1, .ref hB, .ref h5])), (h4, .inr (4, [.ref a1, .ref a2, .ref a3, .int (nI n), .int (nI sa), .int sg])), (a1, .inl (cI, 9, .inl fg)), (a2, .inl (cI, 9, .inl fb)), (a3, .inl (cI, 9, .inl fp)), (h3, .inr (3, [.ref b1, .ref b2, .int (nI n), .int (nI c0), .int (nI y)])), (b1, .inl (cJ, 320, .inr (.inl fw))), (h2, .inr (2, [.ref r1, .int (nI q)])), (r1, .inl (cI, 9, .inl qr)), (h1, .inr (1, [.ref h4, .ref h3, .ref h2, .ref p4, .ref p5, .ref p6, .int fr])), (h5, .inr (5, [.ref lk1, .int (nI (k + 1))])), (lk1, .inl (cI, 9, .inl (upd zk k (nI x9))))] H := hP
            have hD : va_D (aA as) [(x0, .inr (6, [.ref h4, .ref h3, .ref h2, .ref h1, .ref hB, .ref h5])), (h4, .inr (4, [.ref a1, .ref a2, .ref a3, .int (nI n), .int (nI sa), .int sg])), (a1, .inl (cI, 9, .inl fg)), (a2, .inl (cI, 9, .inl fb)), (a3, .inl (cI, 9, .inl fp)), (h3, .inr (3, [.ref b1, .ref b2, .int (nI n), .int (nI c0), .int (nI y)])), (b1, .inl (cJ, 320, .inr (.inl fw))), (h2, .inr (2, [.ref r1, .int (nI q)])), (r1, .inl (cI, 9, .inl qr)), (h1, .inr (1, [.ref h4, .ref h3, .ref h2, .ref p4, .ref p5, .ref p6, .int fr])), (h5, .inr (5, [.ref lk1, .int (nI (k + 1))])), (lk1, .inl (cI, 9, .inl (upd zk k (nI x9))))] := hD
            have w6 : True := w6r
            clear w6r
            refine lv_iload hx hb dX6_follow_66 (lv_at hl 2 rfl) ?_
            refine lv_aload_n hx hb dX6_follow_68 rfl (lv_at hl 4 rfl) ?_
            refine va_get (D := D) (ci := 6) (v := .ref h4) (C := RX6) (T := TX6) (N := 6) hx hb hts hiX6 hown hK hP 0 rfl rfl 0 (by decide) hf10 (fun _ h9 => h9) rfl dX6_follow_69 ?_
            refine va_getN (D := D) (ci := 4) (v := .ref a3) (C := RX4) (T := TX4) (N := 6) hx hb hts hiX4 hown hK hP 1 rfl rfl 2 (by decide) hf135 (fun _ h9 => h9) rfl dX6_follow_72 ?_
            refine lv_iload hx hb dX6_follow_75 (lv_at hl 0 rfl) ?_
            refine va_iald hx hb hK hP 4 0 rfl rfl (i := nI x9) (vp_in_nI (by omega) (by omega)) dX6_follow_77 ?_
            refine cn_i (y := fp x9) (congrArg fp (nI_clamp (by omega))) ?_
            refine lv_iadd hx hb dX6_follow_78 ?_
            refine lv_istore (lv' := [(4, .int (pv + (fp x9))), (6, .int (nI x9)), (5, .int (nI k)), (3, .int (nI v)), (0, .ref x0), (1, .int (nI 2)), (2, .int (nI j))]) hx hb dX6_follow_79 hl (by decide) rfl (fun ls hl => ?_)
            refine lv_iload_n hx hb dX6_follow_81 rfl (lv_at hl 3 rfl) ?_
            refine lv_iconst (v := nI 1) hx hb dX6_follow_82 (by decide) ?_
            refine lv_iload hx hb dX6_follow_83 (lv_at hl 1 rfl) ?_
            refine lv_ishl hx hb dX6_follow_85 ?_
            refine cn_i (y := nI (2 ^ x9)) (m_shl1 (by omega)) ?_
            refine lv_ior hx hb dX6_follow_86 ?_
            refine cn_i (y := nI (v ||| (2 ^ x9))) (mb_or v (2 ^ x9)) ?_
            refine lv_istore_n (lv' := [(3, .int (nI (v ||| (2 ^ x9)))), (4, .int (pv + (fp x9))), (6, .int (nI x9)), (5, .int (nI k)), (0, .ref x0), (1, .int (nI 2)), (2, .int (nI j))]) hx hb dX6_follow_87 rfl hl (by decide) rfl (fun ls hl => ?_)
            refine lv_iinc (v := nI (k + 1)) (lv' := [(5, .int (nI (k + 1))), (3, .int (nI (v ||| (2 ^ x9)))), (4, .int (pv + (fp x9))), (6, .int (nI x9)), (0, .ref x0), (1, .int (nI 2)), (2, .int (nI j))]) hx hb dX6_follow_88 hl (k := 3) rfl (nI_1 k) (by decide) rfl (fun ls hl => ?_)
            refine lv_goto (tgt := 22) hx hb dX6_follow_91 (by decide) ?_
            exact ih1 (k + 1) (v ||| (2 ^ x9)) (pv + (fp x9)) (upd zk k (nI x9)) _ _ _ (by omega) (m_or9 hv (m_p2n hx9)) hP hD hS (lv_sub hl [0, 2, 1, 4, 5, 6] rfl)
          · exact absurd c5 (nI_ne1 (by omega))
  exact loop1 (n + 1) 0 sa (nI 0) fk _ _ _ (by omega) hsa hP hD hS (lv_sub hl [0, 1, 2, 3, 4, 5] rfl)
def rm_c_X6_run_g (mc ms : Nat) : Room := { frames := 15, cells := mc, slots := ms, locals := 416 }
set_option maxHeartbeats 400000 in
set_option maxRecDepth 100000 in
theorem c_X6_run_g (l : Launch) (D : va_G) (cI cJ cZ : ClassId) (z3 t3 : Nat) (sz : Nat) (mc ms : Nat) (x0 : Nat) (h4 : Nat) (h3 : Nat) (h2 : Nat) (h1 : Nat) (hB : Nat) (h5 : Nat) (a1 : Nat) (a2 : Nat) (a3 : Nat) (b1 : Nat) (b2 : Nat) (r1 : Nat) (p4 : Nat) (p5 : Nat) (p6 : Nat) (lk1 : Nat) (n : Nat) (c0 : Nat) (y : Nat) (sa : Nat) (sv : Nat) (q : Nat) (len : Nat) (tc : Nat) (fr : Int32) (wh : Int32) (st : Int32) (fg : Nat → Int32) (fb : Nat → Int32) (fp : Nat → Int32) (qr : Nat → Int32) (fq : Nat → Int32) (eb : Nat → Int64) (ew : Nat → Int32) (fw : Nat → Int64) (fk : Nat → Int32) (hn : n ≤ 9) (h1n : 1 ≤ n) (hc : c0 ≤ 40) (hy : y < c0) (hsa : sa < 2 ^ n) (hsv : sv < 2 ^ n) (hq : q ≤ 9) (hrow : ∀ z, z < q → ∃ x, x < n ∧ qr z = nI x) (hlen : len ≤ 19683) (hfr : fr = 0 ∨ fr = nI 1 ∧ 3 ^ n ≤ len) (htc : tc ≤ 9) (hbud : fr = 0 → len < 3 ^ n → (KR fw y n sa sv wh st) → 2 ≤ mc ∧ 2 * 3 ^ n ≤ ms) (hz3 : nz3 z3 t3 [x0, h4, a1, a2, a3, h3, b1, h2, r1, h1, p4, p5, p6, h5, lk1]) : Met l yX6_run wsX6_run (rm_c_X6_run_g mc ms) (pnT_ D cI cJ cZ z3 t3 sz [.ref x0, .int wh, .int st] [(x0, .inr (6, [.ref h4, .ref h3, .ref h2, .ref h1, .ref hB, .ref h5])), (h4, .inr (4, [.ref a1, .ref a2, .ref a3, .int (nI n), .int (nI sa), .int (nI sv)])), (a1, .inl (cI, 9, .inl fg)), (a2, .inl (cI, 9, .inl fb)), (a3, .inl (cI, 9, .inl fp)), (h3, .inr (3, [.ref b1, .ref b2, .int (nI n), .int (nI c0), .int (nI y)])), (b1, .inl (cJ, 320, .inr (.inl fw))), (h2, .inr (2, [.ref r1, .int (nI q)])), (r1, .inl (cI, 9, .inl qr)), (h1, .inr (1, [.ref h4, .ref h3, .ref h2, .ref p4, .ref p5, .ref p6, .int fr])), (p4, .inl (cI, 9, .inl fq)), (p5, .inl (cJ, len, .inr (.inl eb))), (p6, .inl (cI, len, .inl ew)), (h5, .inr (5, [.ref lk1, .int (nI tc)])), (lk1, .inl (cI, 9, .inl fk))]) (va_Qi (fun (r : Int32) (u : Nat × Nat × Nat × (Nat → Int32) × (Nat → Int64) × (Nat → Int32) × Int32 × Int32 × (Nat → Int32)) => FS fr len n (KR fw y n sa sv wh st) u.2.2.2.2.2.2.1 u.2.2.1 ∧ ∃ x, x ≤ 9 ∧ u.2.2.2.2.2.2.2.1 = nI x) (fun (u : Nat × Nat × Nat × (Nat → Int32) × (Nat → Int64) × (Nat → Int32) × Int32 × Int32 × (Nat → Int32)) tS => va_P D vwCl [(x0, .inr (6, [.ref h4, .ref h3, .ref h2, .ref h1, .ref hB, .ref h5])), (h4, .inr (4, [.ref a1, .ref a2, .ref a3, .int (nI n), .int (nI sa), .int (nI sv)])), (a1, .inl (cI, 9, .inl fg)), (a2, .inl (cI, 9, .inl fb)), (a3, .inl (cI, 9, .inl fp)), (h3, .inr (3, [.ref b1, .ref b2, .int (nI n), .int (nI c0), .int (nI y)])), (b1, .inl (cJ, 320, .inr (.inl fw))), (h2, .inr (2, [.ref r1, .int (nI q)])), (r1, .inl (cI, 9, .inl qr)), (h1, .inr (1, [.ref h4, .ref h3, .ref h2, .ref p4, .ref u.1, .ref u.2.1, .int u.2.2.2.2.2.2.1])), (p4, .inl (cI, 9, .inl u.2.2.2.1)), (u.1, .inl (cJ, u.2.2.1, .inr (.inl u.2.2.2.2.1))), (u.2.1, .inl (cI, u.2.2.1, .inl u.2.2.2.2.2.1)), (h5, .inr (5, [.ref lk1, .int u.2.2.2.2.2.2.2.1])), (lk1, .inl (cI, 9, .inl u.2.2.2.2.2.2.2.2))] tS.heap ∧ va_D (va_A [(x0, .inr (6, [.ref h4, .ref h3, .ref h2, .ref h1, .ref hB, .ref h5])), (h4, .inr (4, [.ref a1, .ref a2, .ref a3, .int (nI n), .int (nI sa), .int (nI sv)])), (a1, .inl (cI, 9, .inl fg)), (a2, .inl (cI, 9, .inl fb)), (a3, .inl (cI, 9, .inl fp)), (h3, .inr (3, [.ref b1, .ref b2, .int (nI n), .int (nI c0), .int (nI y)])), (b1, .inl (cJ, 320, .inr (.inl fw))), (h2, .inr (2, [.ref r1, .int (nI q)])), (r1, .inl (cI, 9, .inl qr)), (h1, .inr (1, [.ref h4, .ref h3, .ref h2, .ref p4, .ref p5, .ref p6, .int fr])), (p4, .inl (cI, 9, .inl fq)), (p5, .inl (cJ, len, .inr (.inl eb))), (p6, .inl (cI, len, .inl ew)), (h5, .inr (5, [.ref lk1, .int (nI tc)])), (lk1, .inl (cI, 9, .inl fk))] sz) [(x0, .inr (6, [.ref h4, .ref h3, .ref h2, .ref h1, .ref hB, .ref h5])), (h4, .inr (4, [.ref a1, .ref a2, .ref a3, .int (nI n), .int (nI sa), .int (nI sv)])), (a1, .inl (cI, 9, .inl fg)), (a2, .inl (cI, 9, .inl fb)), (a3, .inl (cI, 9, .inl fp)), (h3, .inr (3, [.ref b1, .ref b2, .int (nI n), .int (nI c0), .int (nI y)])), (b1, .inl (cJ, 320, .inr (.inl fw))), (h2, .inr (2, [.ref r1, .int (nI q)])), (r1, .inl (cI, 9, .inl qr)), (h1, .inr (1, [.ref h4, .ref h3, .ref h2, .ref p4, .ref u.1, .ref u.2.1, .int u.2.2.2.2.2.2.1])), (p4, .inl (cI, 9, .inl u.2.2.2.1)), (u.1, .inl (cJ, u.2.2.1, .inr (.inl u.2.2.2.2.1))), (u.2.1, .inl (cI, u.2.2.1, .inl u.2.2.2.2.2.1)), (h5, .inr (5, [.ref lk1, .int u.2.2.2.2.2.2.2.1])), (lk1, .inl (cI, 9, .inl u.2.2.2.2.2.2.2.2))]) (va_A [(x0, .inr (6, [.ref h4, .ref h3, .ref h2, .ref h1, .ref hB, .ref h5])), (h4, .inr (4, [.ref a1, .ref a2, .ref a3, .int (nI n), .int (nI sa), .int (nI sv)])), (a1, .inl (cI, 9, .inl fg)), (a2, .inl (cI, 9, .inl fb)), (a3, .inl (cI, 9, .inl fp)), (h3, .inr (3, [.ref b1, .ref b2, .int (nI n), .int (nI c0), .int (nI y)])), (b1, .inl (cJ, 320, .inr (.inl fw))), (h2, .inr (2, [.ref r1, .int (nI q)])), (r1, .inl (cI, 9, .inl qr)), (h1, .inr (1, [.ref h4, .ref h3, .ref h2, .ref p4, .ref p5, .ref p6, .int fr])), (p4, .inl (cI, 9, .inl fq)), (p5, .inl (cJ, len, .inr (.inl eb))), (p6, .inl (cI, len, .inl ew)), (h5, .inr (5, [.ref lk1, .int (nI tc)])), (lk1, .inl (cI, 9, .inl fk))] sz)) mc ms (va_A [(x0, .inr (6, [.ref h4, .ref h3, .ref h2, .ref h1, .ref hB, .ref h5])), (h4, .inr (4, [.ref a1, .ref a2, .ref a3, .int (nI n), .int (nI sa), .int (nI sv)])), (a1, .inl (cI, 9, .inl fg)), (a2, .inl (cI, 9, .inl fb)), (a3, .inl (cI, 9, .inl fp)), (h3, .inr (3, [.ref b1, .ref b2, .int (nI n), .int (nI c0), .int (nI y)])), (b1, .inl (cJ, 320, .inr (.inl fw))), (h2, .inr (2, [.ref r1, .int (nI q)])), (r1, .inl (cI, 9, .inl qr)), (h1, .inr (1, [.ref h4, .ref h3, .ref h2, .ref p4, .ref p5, .ref p6, .int fr])), (p4, .inl (cI, 9, .inl fq)), (p5, .inl (cJ, len, .inr (.inl eb))), (p6, .inl (cI, len, .inl ew)), (h5, .inr (5, [.ref lk1, .int (nI tc)])), (lk1, .inl (cI, 9, .inl fk))] sz) := by
  refine Met.ofW (cc := cX6_run) (maxL := 3) (ret := (some .int)) (by decide) rfl ?_
  intro p e s m args below meth c s₁ B hml hv
  obtain ⟨rfl, hsz, hP, hKN, hT0, hD0⟩ := hv
  have hK := hKN.1
  have hx := B.exec
  have hb := B.bytes
  have hr := B.returns
  have hts := atoms_spec (ws := wsX6_run) B.pre
  have hown : s.vm.findClass RX6 = some m.cls := findClass_of_methodNamed B.named
  have hlocks := B.notSynchronized
  have hiX6 : ∀ w ∈ wsX60, w ∈ wsX6_run := by decide +kernel
  have hf10 := hts (.fieldLink RX6 10 "LookBench" "shelf" "LLookBench$Shelf;") (by decide +kernel)
  have hf19 := hts (.fieldLink RX6 19 "LookBench" "rules" "LLookBench$Rules;") (by decide +kernel)
  subst hsz
  have hD := hD0.self (sz := s.heap.size)
  have hz9 := nz3.A (ws := [(x0, .inr (6, [.ref h4, .ref h3, .ref h2, .ref h1, .ref hB, .ref h5])), (h4, .inr (4, [.ref a1, .ref a2, .ref a3, .int (nI n), .int (nI sa), .int (nI sv)])), (a1, .inl (cI, 9, .inl fg)), (a2, .inl (cI, 9, .inl fb)), (a3, .inl (cI, 9, .inl fp)), (h3, .inr (3, [.ref b1, .ref b2, .int (nI n), .int (nI c0), .int (nI y)])), (b1, .inl (cJ, 320, .inr (.inl fw))), (h2, .inr (2, [.ref r1, .int (nI q)])), (r1, .inl (cI, 9, .inl qr)), (h1, .inr (1, [.ref h4, .ref h3, .ref h2, .ref p4, .ref p5, .ref p6, .int fr])), (p4, .inl (cI, 9, .inl fq)), (p5, .inl (cJ, len, .inr (.inl eb))), (p6, .inl (cI, len, .inl ew)), (h5, .inr (5, [.ref lk1, .int (nI tc)])), (lk1, .inl (cI, 9, .inl fk))]) hz3 hT0
  generalize hAe : va_A [(x0, .inr (6, [.ref h4, .ref h3, .ref h2, .ref h1, .ref hB, .ref h5])), (h4, .inr (4, [.ref a1, .ref a2, .ref a3, .int (nI n), .int (nI sa), .int (nI sv)])), (a1, .inl (cI, 9, .inl fg)), (a2, .inl (cI, 9, .inl fb)), (a3, .inl (cI, 9, .inl fp)), (h3, .inr (3, [.ref b1, .ref b2, .int (nI n), .int (nI c0), .int (nI y)])), (b1, .inl (cJ, 320, .inr (.inl fw))), (h2, .inr (2, [.ref r1, .int (nI q)])), (r1, .inl (cI, 9, .inl qr)), (h1, .inr (1, [.ref h4, .ref h3, .ref h2, .ref p4, .ref p5, .ref p6, .int fr])), (p4, .inl (cI, 9, .inl fq)), (p5, .inl (cJ, len, .inr (.inl eb))), (p6, .inl (cI, len, .inl ew)), (h5, .inr (5, [.ref lk1, .int (nI tc)])), (lk1, .inl (cI, 9, .inl fk))] s.heap.size = A at hD ⊢ hz9
  have hA : ∀ q : Nat, s.heap.size ≤ q → A q := fun q h => by rw [← hAe]; exact Or.inr h
  have hS : va_S A s.heap s.heap [] := va_S.rf
  have hzA := hz9.1
  have htA := hz9.2
  have hZ3 := hT0.Z hzA
  have hT3 := hT0.T htA
  have hl := lv_entry ([.ref x0, .int wh, .int st]) (n := 3) (Nat.le_of_ble_eq_true rfl)
  rw [lg_entry_eq]
  generalize (lg_sl ([.ref x0, .int wh, .int st]) ++ List.replicate (3 - (lg_sl ([.ref x0, .int wh, .int st])).length) Slot.unset).toArray = ls at hl ⊢
  have hl : lv_has ls 3 [(0, .ref x0), (1, .int wh), (2, .int st)] := hl
  generalize hQ : MQ below _ _ s _ _ _ = Q
  obtain ⟨H, hH⟩ : ∃ z, z = s.heap := ⟨_, rfl⟩
  have hP : va_P D vwCl [(x0, .inr (6, [.ref h4, .ref h3, .ref h2, .ref h1, .ref hB, .ref h5])), (h4, .inr (4, [.ref a1, .ref a2, .ref a3, .int (nI n), .int (nI sa), .int (nI sv)])), (a1, .inl (cI, 9, .inl fg)), (a2, .inl (cI, 9, .inl fb)), (a3, .inl (cI, 9, .inl fp)), (h3, .inr (3, [.ref b1, .ref b2, .int (nI n), .int (nI c0), .int (nI y)])), (b1, .inl (cJ, 320, .inr (.inl fw))), (h2, .inr (2, [.ref r1, .int (nI q)])), (r1, .inl (cI, 9, .inl qr)), (h1, .inr (1, [.ref h4, .ref h3, .ref h2, .ref p4, .ref p5, .ref p6, .int fr])), (p4, .inl (cI, 9, .inl fq)), (p5, .inl (cJ, len, .inr (.inl eb))), (p6, .inl (cI, len, .inl ew)), (h5, .inr (5, [.ref lk1, .int (nI tc)])), (lk1, .inl (cI, 9, .inl fk))] H := by rw [hH]; exact hP
  have hS : va_S A s.heap H [] := by rw [hH]; exact hS
  refine m_heap hH ?_
  clear hH
  have h2n := m_pow hn
  have h2p := m_powp n
  have h3n := m_3n hn
  have h3p := m_p3p n
  have ty9 : (nI y).toInt = (y : Int) := nI_toInt (by omega)
  have hy40 : y < 40 := by omega
  refine lv_iload_n hx hb dX6_run_0 rfl (lv_at hl 1 rfl) ?_
  refine lv_if_lt (tgt := 19) hx hb dX6_run_1 (by decide) (fun c1 => ?_) (fun c1 => ?_)
  · skip
    have d1 := c1
    rw [i_lt, i_z] at d1
    refine lv_iconst (v := (-1 : Int32)) hx hb dX6_run_19 (by decide) ?_
    refine W.widen (k := mc) (n := ms) (by omega) (by omega) ?_
    rw [← hQ]
    have hP9 := hP.sub (ws' := [(x0, .inr (6, [.ref h4, .ref h3, .ref h2, .ref h1, .ref hB, .ref h5])), (h4, .inr (4, [.ref a1, .ref a2, .ref a3, .int (nI n), .int (nI sa), .int (nI sv)])), (a1, .inl (cI, 9, .inl fg)), (a2, .inl (cI, 9, .inl fb)), (a3, .inl (cI, 9, .inl fp)), (h3, .inr (3, [.ref b1, .ref b2, .int (nI n), .int (nI c0), .int (nI y)])), (b1, .inl (cJ, 320, .inr (.inl fw))), (h2, .inr (2, [.ref r1, .int (nI q)])), (r1, .inl (cI, 9, .inl qr)), (h1, .inr (1, [.ref h4, .ref h3, .ref h2, .ref p4, .ref p5, .ref p6, .int fr])), (p4, .inl (cI, 9, .inl fq)), (p5, .inl (cJ, len, .inr (.inl eb))), (p6, .inl (cI, len, .inl ew)), (h5, .inr (5, [.ref lk1, .int (nI tc)])), (lk1, .inl (cI, 9, .inl fk))]) [0, 1, 2, 3, 4, 5, 6, 7, 8, 9, 10, 11, 12, 13, 14] rfl
    have hD9 := hD.sub (ws' := [(x0, .inr (6, [.ref h4, .ref h3, .ref h2, .ref h1, .ref hB, .ref h5])), (h4, .inr (4, [.ref a1, .ref a2, .ref a3, .int (nI n), .int (nI sa), .int (nI sv)])), (a1, .inl (cI, 9, .inl fg)), (a2, .inl (cI, 9, .inl fb)), (a3, .inl (cI, 9, .inl fp)), (h3, .inr (3, [.ref b1, .ref b2, .int (nI n), .int (nI c0), .int (nI y)])), (b1, .inl (cJ, 320, .inr (.inl fw))), (h2, .inr (2, [.ref r1, .int (nI q)])), (r1, .inl (cI, 9, .inl qr)), (h1, .inr (1, [.ref h4, .ref h3, .ref h2, .ref p4, .ref p5, .ref p6, .int fr])), (p4, .inl (cI, 9, .inl fq)), (p5, .inl (cJ, len, .inr (.inl eb))), (p6, .inl (cI, len, .inl ew)), (h5, .inr (5, [.ref lk1, .int (nI tc)])), (lk1, .inl (cI, 9, .inl fk))]) [0, 1, 2, 3, 4, 5, 6, 7, 8, 9, 10, 11, 12, 13, 14] (by decide) rfl
    exact W.iret (v := (-1 : Int32)) hx hb hr (fun tS htS hWS => ⟨⟨(-1 : Int32), (p5, p6, len, fq, eb, ew, fr, nI tc, fk), rfl, ⟨FS.no (fun h => by have := h.w; omega) hfr hlen, tc, htc, rfl⟩, m_at htS hP9, hD9⟩, hS.F htS⟩) hS.2.2 dX6_run_20
  · skip
    have d1 := c1
    rw [i_lt, i_z] at d1
    refine lv_iload_n hx hb dX6_run_4 rfl (lv_at hl 1 rfl) ?_
    refine lv_iconst (v := nI 2) hx hb dX6_run_5 (by decide) ?_
    refine lv_icmp_gt (tgt := 19) hx hb dX6_run_6 (by decide) (fun c2 => ?_) (fun c2 => ?_)
    · skip
      have d2 := c2
      rw [i_lt, nI_toInt (n := 2) (by omega)] at d2
      refine lv_iconst (v := (-1 : Int32)) hx hb dX6_run_19 (by decide) ?_
      refine W.widen (k := mc) (n := ms) (by omega) (by omega) ?_
      rw [← hQ]
      have hP9 := hP.sub (ws' := [(x0, .inr (6, [.ref h4, .ref h3, .ref h2, .ref h1, .ref hB, .ref h5])), (h4, .inr (4, [.ref a1, .ref a2, .ref a3, .int (nI n), .int (nI sa), .int (nI sv)])), (a1, .inl (cI, 9, .inl fg)), (a2, .inl (cI, 9, .inl fb)), (a3, .inl (cI, 9, .inl fp)), (h3, .inr (3, [.ref b1, .ref b2, .int (nI n), .int (nI c0), .int (nI y)])), (b1, .inl (cJ, 320, .inr (.inl fw))), (h2, .inr (2, [.ref r1, .int (nI q)])), (r1, .inl (cI, 9, .inl qr)), (h1, .inr (1, [.ref h4, .ref h3, .ref h2, .ref p4, .ref p5, .ref p6, .int fr])), (p4, .inl (cI, 9, .inl fq)), (p5, .inl (cJ, len, .inr (.inl eb))), (p6, .inl (cI, len, .inl ew)), (h5, .inr (5, [.ref lk1, .int (nI tc)])), (lk1, .inl (cI, 9, .inl fk))]) [0, 1, 2, 3, 4, 5, 6, 7, 8, 9, 10, 11, 12, 13, 14] rfl
      have hD9 := hD.sub (ws' := [(x0, .inr (6, [.ref h4, .ref h3, .ref h2, .ref h1, .ref hB, .ref h5])), (h4, .inr (4, [.ref a1, .ref a2, .ref a3, .int (nI n), .int (nI sa), .int (nI sv)])), (a1, .inl (cI, 9, .inl fg)), (a2, .inl (cI, 9, .inl fb)), (a3, .inl (cI, 9, .inl fp)), (h3, .inr (3, [.ref b1, .ref b2, .int (nI n), .int (nI c0), .int (nI y)])), (b1, .inl (cJ, 320, .inr (.inl fw))), (h2, .inr (2, [.ref r1, .int (nI q)])), (r1, .inl (cI, 9, .inl qr)), (h1, .inr (1, [.ref h4, .ref h3, .ref h2, .ref p4, .ref p5, .ref p6, .int fr])), (p4, .inl (cI, 9, .inl fq)), (p5, .inl (cJ, len, .inr (.inl eb))), (p6, .inl (cI, len, .inl ew)), (h5, .inr (5, [.ref lk1, .int (nI tc)])), (lk1, .inl (cI, 9, .inl fk))]) [0, 1, 2, 3, 4, 5, 6, 7, 8, 9, 10, 11, 12, 13, 14] (by decide) rfl
      exact W.iret (v := (-1 : Int32)) hx hb hr (fun tS htS hWS => ⟨⟨(-1 : Int32), (p5, p6, len, fq, eb, ew, fr, nI tc, fk), rfl, ⟨FS.no (fun h => by have := h.w; omega) hfr hlen, tc, htc, rfl⟩, m_at htS hP9, hD9⟩, hS.F htS⟩) hS.2.2 dX6_run_20
    · skip
      have d2 := c2
      rw [i_lt, nI_toInt (n := 2) (by omega)] at d2
      refine lv_aload_n hx hb dX6_run_9 rfl (lv_at hl 0 rfl) ?_
      refine va_get (D := D) (ci := 6) (v := .ref h3) (C := RX6) (T := TX6) (N := 6) hx hb hts hiX6 hown hK hP 0 rfl rfl 1 (by decide) hf19 (fun _ h9 => h9) rfl dX6_run_10 ?_
      refine pu_i (va_runV (As := []) (rest := []) ⟨hx, hb, hml, hown, hts⟩ (c_X3_hasSystem l D cI cJ cZ h3 b1 b2 c0 (nI n) (nI y) (by first | assumption | omega)) (cwV 0 hts gX6_run_X3_hasSystem rfl rfl rfl (by decide +kernel) ⟨Nat.le_of_ble_eq_true rfl, Nat.le_of_ble_eq_true rfl⟩) ⟨pc_blind, va_recv hK hP (ci := 3) (q0 := 5) rfl rfl, fun U hU hW => ⟨rfl, by rw [hU]; exact hP.sub (ws' := [(h3, .inr (3, [.ref b1, .ref b2, .int (nI n), .int (nI c0), .int (nI y)]))]) [5] rfl, hKN.warm hW⟩⟩ rfl rfl hl.1 rfl (lv_room (Nat.le_of_ble_eq_true rfl)) dX6_run_13 ⟨(show 0 + 0 ≤ mc by omega), (show 0 + 0 ≤ ms by omega)⟩) hS hP (fun r3 H locs w3r hP hS => ?_)
      have w3 : B01 r3 (0 ≤ (nI y).toInt ∧ (nI y).toInt < c0) := w3r
      clear w3r
      rcases w3 with ⟨rfl, w3⟩ | ⟨rfl, w3⟩
      · skip
        refine lv_if_ne (tgt := 21) hx hb dX6_run_16 (by decide) (fun c4 => ?_) (fun c4 => ?_)
        · skip
          refine lv_aload_n hx hb dX6_run_21 rfl (lv_at hl 0 rfl) ?_
          refine va_get (D := D) (ci := 6) (v := .ref h4) (C := RX6) (T := TX6) (N := 6) hx hb hts hiX6 hown hK hP 0 rfl rfl 0 (by decide) hf10 (fun _ h9 => h9) rfl dX6_run_22 ?_
          refine lv_iload_n hx hb dX6_run_25 rfl (lv_at hl 2 rfl) ?_
          refine pu_i (va_runV (As := [.int st]) (rest := []) ⟨hx, hb, hml, hown, hts⟩ (c_X4_hasSet l D cI cJ cZ h4 a1 a2 a3 n (nI sa) (nI sv) st (by first | assumption | omega)) (cwV 1 hts gX6_run_X4_hasSet rfl rfl rfl (by decide +kernel) ⟨Nat.le_of_ble_eq_true rfl, Nat.le_of_ble_eq_true rfl⟩) ⟨pc_blind, va_recv hK hP (ci := 4) (q0 := 1) rfl rfl, fun U hU hW => ⟨rfl, by rw [hU]; exact hP.sub (ws' := [(h4, .inr (4, [.ref a1, .ref a2, .ref a3, .int (nI n), .int (nI sa), .int (nI sv)]))]) [1] rfl, hKN.warm hW⟩⟩ rfl rfl hl.1 rfl (lv_room (Nat.le_of_ble_eq_true rfl)) dX6_run_26 ⟨(show 0 + 0 ≤ mc by omega), (show 0 + 0 ≤ ms by omega)⟩) hS hP (fun r5 H locs w5r hP hS => ?_)
          have w5 : B01 r5 (0 ≤ st.toInt ∧ st.toInt < (2 ^ n : Nat)) := w5r
          clear w5r
          rcases w5 with ⟨rfl, w5⟩ | ⟨rfl, w5⟩
          · skip
            obtain ⟨j8, hj8, rfl⟩ := m_nat w5
            have tj8 : (nI j8).toInt = (j8 : Int) := nI_toInt (by omega)
            refine lv_if_eq (tgt := 43) hx hb dX6_run_29 (by decide) (fun c6 => ?_) (fun c6 => ?_)
            · exact absurd c6 (by first | decide | exact nz_lt (by omega) | exact fun h => h (nz_ge (by omega)))
            · skip
              refine lv_aload_n hx hb dX6_run_32 rfl (lv_at hl 0 rfl) ?_
              refine va_get (D := D) (ci := 6) (v := .ref h4) (C := RX6) (T := TX6) (N := 6) hx hb hts hiX6 hown hK hP 0 rfl rfl 0 (by decide) hf10 (fun _ h9 => h9) rfl dX6_run_33 ?_
              refine lv_iload_n hx hb dX6_run_36 rfl (lv_at hl 2 rfl) ?_
              refine pu_i (va_runV (As := [.int (nI j8)]) (rest := []) ⟨hx, hb, hml, hown, hts⟩ (c_X4_fits l D cI cJ cZ h4 a1 a2 a3 (nI n) (nI sa) (nI sv) (nI j8)) (cwV 1 hts gX6_run_X4_fits rfl rfl rfl (by decide +kernel) ⟨Nat.le_of_ble_eq_true rfl, Nat.le_of_ble_eq_true rfl⟩) ⟨pc_blind, va_recv hK hP (ci := 4) (q0 := 1) rfl rfl, fun U hU hW => ⟨rfl, by rw [hU]; exact hP.sub (ws' := [(h4, .inr (4, [.ref a1, .ref a2, .ref a3, .int (nI n), .int (nI sa), .int (nI sv)]))]) [1] rfl, hKN.warm hW⟩⟩ rfl rfl hl.1 rfl (lv_room (Nat.le_of_ble_eq_true rfl)) dX6_run_37 ⟨(show 0 + 0 ≤ mc by omega), (show 0 + 0 ≤ ms by omega)⟩) hS hP (fun r7 H locs w7r hP hS => ?_)
              have w7 : B01 r7 ((nI j8) &&& (nI sa) = (nI sv)) := w7r
              clear w7r
              rcases w7 with ⟨rfl, w7⟩ | ⟨rfl, w7⟩
              · skip
                have hfit := w7
                refine lv_if_ne (tgt := 45) hx hb dX6_run_40 (by decide) (fun c8 => ?_) (fun c8 => ?_)
                · skip
                  rcases m_w02 (x := wh) (by omega) with rfl | rfl | rfl
                  · skip
                    refine lv_aload_n hx hb dX6_run_45 rfl (lv_at hl 0 rfl) ?_
                    refine lv_iload_n hx hb dX6_run_46 rfl (lv_at hl 1 rfl) ?_
                    refine lv_iload_n hx hb dX6_run_47 rfl (lv_at hl 2 rfl) ?_
                    have hPc := hP.sub (ws' := [(x0, .inr (6, [.ref h4, .ref h3, .ref h2, .ref h1, .ref hB, .ref h5])), (h4, .inr (4, [.ref a1, .ref a2, .ref a3, .int (nI n), .int (nI sa), .int (nI sv)])), (a1, .inl (cI, 9, .inl fg)), (a2, .inl (cI, 9, .inl fb)), (a3, .inl (cI, 9, .inl fp)), (h3, .inr (3, [.ref b1, .ref b2, .int (nI n), .int (nI c0), .int (nI y)])), (b1, .inl (cJ, 320, .inr (.inl fw))), (h1, .inr (1, [.ref h4, .ref h3, .ref h2, .ref p4, .ref p5, .ref p6, .int fr])), (p4, .inl (cI, 9, .inl fq)), (p5, .inl (cJ, len, .inr (.inl eb))), (p6, .inl (cI, len, .inl ew)), (h5, .inr (5, [.ref lk1, .int (nI tc)])), (lk1, .inl (cI, 9, .inl fk))]) [0, 1, 2, 3, 4, 5, 6, 9, 10, 11, 12, 13, 14] rfl
                    have hDc := hD.sub (ws' := [(x0, .inr (6, [.ref h4, .ref h3, .ref h2, .ref h1, .ref hB, .ref h5])), (h4, .inr (4, [.ref a1, .ref a2, .ref a3, .int (nI n), .int (nI sa), .int (nI sv)])), (a1, .inl (cI, 9, .inl fg)), (a2, .inl (cI, 9, .inl fb)), (a3, .inl (cI, 9, .inl fp)), (h3, .inr (3, [.ref b1, .ref b2, .int (nI n), .int (nI c0), .int (nI y)])), (b1, .inl (cJ, 320, .inr (.inl fw))), (h1, .inr (1, [.ref h4, .ref h3, .ref h2, .ref p4, .ref p5, .ref p6, .int fr])), (p4, .inl (cI, 9, .inl fq)), (p5, .inl (cJ, len, .inr (.inl eb))), (p6, .inl (cI, len, .inl ew)), (h5, .inr (5, [.ref lk1, .int (nI tc)])), (lk1, .inl (cI, 9, .inl fk))]) [0, 1, 2, 3, 4, 5, 6, 9, 10, 11, 12, 13, 14] (by decide) rfl
                    have hFc := va_free (wc := [(x0, .inr (6, [.ref h4, .ref h3, .ref h2, .ref h1, .ref hB, .ref h5])), (h4, .inr (4, [.ref a1, .ref a2, .ref a3, .int (nI n), .int (nI sa), .int (nI sv)])), (a1, .inl (cI, 9, .inl fg)), (a2, .inl (cI, 9, .inl fb)), (a3, .inl (cI, 9, .inl fp)), (h3, .inr (3, [.ref b1, .ref b2, .int (nI n), .int (nI c0), .int (nI y)])), (b1, .inl (cJ, 320, .inr (.inl fw))), (h1, .inr (1, [.ref h4, .ref h3, .ref h2, .ref p4, .ref p5, .ref p6, .int fr])), (p4, .inl (cI, 9, .inl fq)), (p5, .inl (cJ, len, .inr (.inl eb))), (p6, .inl (cI, len, .inl ew)), (h5, .inr (5, [.ref lk1, .int (nI tc)])), (lk1, .inl (cI, 9, .inl fk))]) hD hS hA [0, 1, 2, 3, 4, 5, 6, 9, 10, 11, 12, 13, 14] rfl
                    refine va_calli (va_runV (As := [.int (nI 0), .int (nI j8)]) (rest := []) ⟨hx, hb, hml, hown, hts⟩ (c_X6_follow_g l D cI cJ cZ z3 t3 H.size mc ms x0 h4 h3 h2 h1 hB h5 a1 a2 a3 b1 b2 p4 p5 p6 lk1 n c0 y sa len j8 0 fr (nI sv) (nI tc) fg fb fp fq eb ew fw fk (by first | assumption | omega) (by first | assumption | omega) (by first | assumption | omega) (by first | assumption | omega) (by first | assumption | omega) (by first | assumption | omega) (by first | assumption | omega) (by first | assumption | omega) (by exact fun a b g => hbud a b ⟨by first | exact Or.inl rfl | exact Or.inr rfl, by omega, hfit, by rw [m_tn (by omega)]; exact g⟩) (by first | assumption | omega) ((nz3.D hD hzA htA).sub [0, 1, 2, 3, 4, 5, 6, 9, 10, 11, 12, 13, 14] rfl)) (cwV 2 hts gX6_run_X6_follow rfl rfl rfl (by decide +kernel) ⟨Nat.le_of_ble_eq_true rfl, Nat.le_of_ble_eq_true rfl⟩) ⟨pnT_blind, va_recv hK hP (ci := 6) (q0 := 0) rfl rfl, fun U hU hW => ⟨rfl, by rw [hU], by rw [hU]; exact hPc, hKN.warm hW, hT0.go hS hzA htA hW hU, hDc.weaken (fun _ _ _ _ => trivial)⟩⟩ rfl rfl hl.1 rfl (lv_room (Nat.le_of_ble_eq_true rfl)) dX6_run_48 ⟨(show 0 + mc ≤ mc by omega), (show 0 + ms ≤ ms by omega)⟩) hS (fun q _ h => hFc q h) hFc (fun r9 u t H1 locs ht hvm hw hB hz1 hk1 hS => ?_)
                    obtain ⟨u9_w5, u9_w6, u9_ul, u9_uq, u9_ub, u9_uw, u9_uf, u9_utc, u9_ufk⟩ := u
                    have w9 : FS fr len n (NV fw y (j8 &&& sa) ((2 ^ n - 1) ^^^ sa)) u9_uf u9_ul ∧ ∃ x, x ≤ 9 ∧ u9_utc = nI x := hw
                    obtain ⟨hP1, hD1⟩ := hB
                    rw [ht] at hP1
                    have hP1 : va_P D vwCl [(x0, .inr (6, [.ref h4, .ref h3, .ref h2, .ref h1, .ref hB, .ref h5])), (h4, .inr (4, [.ref a1, .ref a2, .ref a3, .int (nI n), .int (nI sa), .int (nI sv)])), (a1, .inl (cI, 9, .inl fg)), (a2, .inl (cI, 9, .inl fb)), (a3, .inl (cI, 9, .inl fp)), (h3, .inr (3, [.ref b1, .ref b2, .int (nI n), .int (nI c0), .int (nI y)])), (b1, .inl (cJ, 320, .inr (.inl fw))), (h1, .inr (1, [.ref h4, .ref h3, .ref h2, .ref p4, .ref u9_w5, .ref u9_w6, .int u9_uf])), (p4, .inl (cI, 9, .inl u9_uq)), (u9_w5, .inl (cJ, u9_ul, .inr (.inl u9_ub))), (u9_w6, .inl (cI, u9_ul, .inl u9_uw)), (h5, .inr (5, [.ref lk1, .int u9_utc])), (lk1, .inl (cI, 9, .inl u9_ufk))] H1 := hP1
                    have hD1 : va_D _ [(x0, .inr (6, [.ref h4, .ref h3, .ref h2, .ref h1, .ref hB, .ref h5])), (h4, .inr (4, [.ref a1, .ref a2, .ref a3, .int (nI n), .int (nI sa), .int (nI sv)])), (a1, .inl (cI, 9, .inl fg)), (a2, .inl (cI, 9, .inl fb)), (a3, .inl (cI, 9, .inl fp)), (h3, .inr (3, [.ref b1, .ref b2, .int (nI n), .int (nI c0), .int (nI y)])), (b1, .inl (cJ, 320, .inr (.inl fw))), (h1, .inr (1, [.ref h4, .ref h3, .ref h2, .ref p4, .ref u9_w5, .ref u9_w6, .int u9_uf])), (p4, .inl (cI, 9, .inl u9_uq)), (u9_w5, .inl (cJ, u9_ul, .inr (.inl u9_ub))), (u9_w6, .inl (cI, u9_ul, .inl u9_uw)), (h5, .inr (5, [.ref lk1, .int u9_utc])), (lk1, .inl (cI, 9, .inl u9_ufk))] := hD1
                    obtain ⟨hP, hD⟩ := va_join (wr := [(h2, .inr (2, [.ref r1, .int (nI q)])), (r1, .inl (cI, 9, .inl qr))]) (w1 := [(x0, .inr (6, [.ref h4, .ref h3, .ref h2, .ref h1, .ref hB, .ref h5])), (h4, .inr (4, [.ref a1, .ref a2, .ref a3, .int (nI n), .int (nI sa), .int (nI sv)])), (a1, .inl (cI, 9, .inl fg)), (a2, .inl (cI, 9, .inl fb)), (a3, .inl (cI, 9, .inl fp)), (h3, .inr (3, [.ref b1, .ref b2, .int (nI n), .int (nI c0), .int (nI y)])), (b1, .inl (cJ, 320, .inr (.inl fw))), (h1, .inr (1, [.ref h4, .ref h3, .ref h2, .ref p4, .ref u9_w5, .ref u9_w6, .int u9_uf])), (p4, .inl (cI, 9, .inl u9_uq)), (u9_w5, .inl (cJ, u9_ul, .inr (.inl u9_ub))), (u9_w6, .inl (cI, u9_ul, .inl u9_uw)), (h5, .inr (5, [.ref lk1, .int u9_utc])), (lk1, .inl (cI, 9, .inl u9_ufk))]) hP hD [0, 1, 2, 3, 4, 5, 6, 9, 10, 11, 12, 13, 14] [7, 8] rfl rfl (by decide) (by decide) hk1 hFc hP1 hD1
                    generalize H1 = H at hP hS ⊢
                    have hP := hP.sub (ws' := [(x0, .inr (6, [.ref h4, .ref h3, .ref h2, .ref h1, .ref hB, .ref h5])), (h4, .inr (4, [.ref a1, .ref a2, .ref a3, .int (nI n), .int (nI sa), .int (nI sv)])), (a1, .inl (cI, 9, .inl fg)), (a2, .inl (cI, 9, .inl fb)), (a3, .inl (cI, 9, .inl fp)), (h3, .inr (3, [.ref b1, .ref b2, .int (nI n), .int (nI c0), .int (nI y)])), (b1, .inl (cJ, 320, .inr (.inl fw))), (h2, .inr (2, [.ref r1, .int (nI q)])), (r1, .inl (cI, 9, .inl qr)), (h1, .inr (1, [.ref h4, .ref h3, .ref h2, .ref p4, .ref u9_w5, .ref u9_w6, .int u9_uf])), (p4, .inl (cI, 9, .inl u9_uq)), (u9_w5, .inl (cJ, u9_ul, .inr (.inl u9_ub))), (u9_w6, .inl (cI, u9_ul, .inl u9_uw)), (h5, .inr (5, [.ref lk1, .int u9_utc])), (lk1, .inl (cI, 9, .inl u9_ufk))]) [2, 3, 4, 5, 6, 7, 8, 0, 1, 9, 10, 11, 12, 13, 14] rfl
                    have hD := hD.sub (ws' := [(x0, .inr (6, [.ref h4, .ref h3, .ref h2, .ref h1, .ref hB, .ref h5])), (h4, .inr (4, [.ref a1, .ref a2, .ref a3, .int (nI n), .int (nI sa), .int (nI sv)])), (a1, .inl (cI, 9, .inl fg)), (a2, .inl (cI, 9, .inl fb)), (a3, .inl (cI, 9, .inl fp)), (h3, .inr (3, [.ref b1, .ref b2, .int (nI n), .int (nI c0), .int (nI y)])), (b1, .inl (cJ, 320, .inr (.inl fw))), (h2, .inr (2, [.ref r1, .int (nI q)])), (r1, .inl (cI, 9, .inl qr)), (h1, .inr (1, [.ref h4, .ref h3, .ref h2, .ref p4, .ref u9_w5, .ref u9_w6, .int u9_uf])), (p4, .inl (cI, 9, .inl u9_uq)), (u9_w5, .inl (cJ, u9_ul, .inr (.inl u9_ub))), (u9_w6, .inl (cI, u9_ul, .inl u9_uw)), (h5, .inr (5, [.ref lk1, .int u9_utc])), (lk1, .inl (cI, 9, .inl u9_ufk))]) [2, 3, 4, 5, 6, 7, 8, 0, 1, 9, 10, 11, 12, 13, 14] (by decide) rfl
                    have hP : va_P D vwCl [(x0, .inr (6, [.ref h4, .ref h3, .ref h2, .ref h1, .ref hB, .ref h5])), (h4, .inr (4, [.ref a1, .ref a2, .ref a3, .int (nI n), .int (nI sa), .int (nI sv)])), (a1, .inl (cI, 9, .inl fg)), (a2, .inl (cI, 9, .inl fb)), (a3, .inl (cI, 9, .inl fp)), (h3, .inr (3, [.ref b1, .ref b2, .int (nI n), .int (nI c0), .int (nI y)])), (b1, .inl (cJ, 320, .inr (.inl fw))), (h2, .inr (2, [.ref r1, .int (nI q)])), (r1, .inl (cI, 9, .inl qr)), (h1, .inr (1, [.ref h4, .ref h3, .ref h2, .ref p4, .ref u9_w5, .ref u9_w6, .int u9_uf])), (p4, .inl (cI, 9, .inl u9_uq)), (u9_w5, .inl (cJ, u9_ul, .inr (.inl u9_ub))), (u9_w6, .inl (cI, u9_ul, .inl u9_uw)), (h5, .inr (5, [.ref lk1, .int u9_utc])), (lk1, .inl (cI, 9, .inl u9_ufk))] H := hP
                    have hD : va_D A [(x0, .inr (6, [.ref h4, .ref h3, .ref h2, .ref h1, .ref hB, .ref h5])), (h4, .inr (4, [.ref a1, .ref a2, .ref a3, .int (nI n), .int (nI sa), .int (nI sv)])), (a1, .inl (cI, 9, .inl fg)), (a2, .inl (cI, 9, .inl fb)), (a3, .inl (cI, 9, .inl fp)), (h3, .inr (3, [.ref b1, .ref b2, .int (nI n), .int (nI c0), .int (nI y)])), (b1, .inl (cJ, 320, .inr (.inl fw))), (h2, .inr (2, [.ref r1, .int (nI q)])), (r1, .inl (cI, 9, .inl qr)), (h1, .inr (1, [.ref h4, .ref h3, .ref h2, .ref p4, .ref u9_w5, .ref u9_w6, .int u9_uf])), (p4, .inl (cI, 9, .inl u9_uq)), (u9_w5, .inl (cJ, u9_ul, .inr (.inl u9_ub))), (u9_w6, .inl (cI, u9_ul, .inl u9_uw)), (h5, .inr (5, [.ref lk1, .int u9_utc])), (lk1, .inl (cI, 9, .inl u9_ufk))] := hD
                    refine W.widen (k := mc) (n := ms) (by omega) (by omega) ?_
                    refine W.widen (k := mc) (n := ms) (by omega) (by omega) ?_
                    rw [← hQ]
                    have hP9 := hP.sub (ws' := [(x0, .inr (6, [.ref h4, .ref h3, .ref h2, .ref h1, .ref hB, .ref h5])), (h4, .inr (4, [.ref a1, .ref a2, .ref a3, .int (nI n), .int (nI sa), .int (nI sv)])), (a1, .inl (cI, 9, .inl fg)), (a2, .inl (cI, 9, .inl fb)), (a3, .inl (cI, 9, .inl fp)), (h3, .inr (3, [.ref b1, .ref b2, .int (nI n), .int (nI c0), .int (nI y)])), (b1, .inl (cJ, 320, .inr (.inl fw))), (h2, .inr (2, [.ref r1, .int (nI q)])), (r1, .inl (cI, 9, .inl qr)), (h1, .inr (1, [.ref h4, .ref h3, .ref h2, .ref p4, .ref u9_w5, .ref u9_w6, .int u9_uf])), (p4, .inl (cI, 9, .inl u9_uq)), (u9_w5, .inl (cJ, u9_ul, .inr (.inl u9_ub))), (u9_w6, .inl (cI, u9_ul, .inl u9_uw)), (h5, .inr (5, [.ref lk1, .int u9_utc])), (lk1, .inl (cI, 9, .inl u9_ufk))]) [0, 1, 2, 3, 4, 5, 6, 7, 8, 9, 10, 11, 12, 13, 14] rfl
                    have hD9 := hD.sub (ws' := [(x0, .inr (6, [.ref h4, .ref h3, .ref h2, .ref h1, .ref hB, .ref h5])), (h4, .inr (4, [.ref a1, .ref a2, .ref a3, .int (nI n), .int (nI sa), .int (nI sv)])), (a1, .inl (cI, 9, .inl fg)), (a2, .inl (cI, 9, .inl fb)), (a3, .inl (cI, 9, .inl fp)), (h3, .inr (3, [.ref b1, .ref b2, .int (nI n), .int (nI c0), .int (nI y)])), (b1, .inl (cJ, 320, .inr (.inl fw))), (h2, .inr (2, [.ref r1, .int (nI q)])), (r1, .inl (cI, 9, .inl qr)), (h1, .inr (1, [.ref h4, .ref h3, .ref h2, .ref p4, .ref u9_w5, .ref u9_w6, .int u9_uf])), (p4, .inl (cI, 9, .inl u9_uq)), (u9_w5, .inl (cJ, u9_ul, .inr (.inl u9_ub))), (u9_w6, .inl (cI, u9_ul, .inl u9_uw)), (h5, .inr (5, [.ref lk1, .int u9_utc])), (lk1, .inl (cI, 9, .inl u9_ufk))]) [0, 1, 2, 3, 4, 5, 6, 7, 8, 9, 10, 11, 12, 13, 14] (by decide) rfl
                    exact W.iret (v := r9) hx hb hr (fun tS htS hWS => ⟨⟨r9, (u9_w5, u9_w6, u9_ul, u9_uq, u9_ub, u9_uw, u9_uf, u9_utc, u9_ufk), rfl, by first | exact ⟨FS.iff (KR.iff (by first | exact Or.inl rfl | exact Or.inr rfl) hj8 hn hfit) w9.1, w9.2⟩ | exact ⟨FS.no (fun h => by rcases h.1 with e | e <;> exact absurd e (by decide)) hfr hlen, w9⟩, m_at htS hP9, hD9⟩, hS.F htS⟩) hS.2.2 dX6_run_51
                  · skip
                    refine lv_aload_n hx hb dX6_run_45 rfl (lv_at hl 0 rfl) ?_
                    refine lv_iload_n hx hb dX6_run_46 rfl (lv_at hl 1 rfl) ?_
                    refine lv_iload_n hx hb dX6_run_47 rfl (lv_at hl 2 rfl) ?_
                    have hPc := hP.sub (ws' := [(x0, .inr (6, [.ref h4, .ref h3, .ref h2, .ref h1, .ref hB, .ref h5])), (h4, .inr (4, [.ref a1, .ref a2, .ref a3, .int (nI n), .int (nI sa), .int (nI sv)])), (a1, .inl (cI, 9, .inl fg)), (a2, .inl (cI, 9, .inl fb)), (a3, .inl (cI, 9, .inl fp)), (h3, .inr (3, [.ref b1, .ref b2, .int (nI n), .int (nI c0), .int (nI y)])), (b1, .inl (cJ, 320, .inr (.inl fw))), (h1, .inr (1, [.ref h4, .ref h3, .ref h2, .ref p4, .ref p5, .ref p6, .int fr])), (p4, .inl (cI, 9, .inl fq)), (p5, .inl (cJ, len, .inr (.inl eb))), (p6, .inl (cI, len, .inl ew)), (h5, .inr (5, [.ref lk1, .int (nI tc)])), (lk1, .inl (cI, 9, .inl fk))]) [0, 1, 2, 3, 4, 5, 6, 9, 10, 11, 12, 13, 14] rfl
                    have hDc := hD.sub (ws' := [(x0, .inr (6, [.ref h4, .ref h3, .ref h2, .ref h1, .ref hB, .ref h5])), (h4, .inr (4, [.ref a1, .ref a2, .ref a3, .int (nI n), .int (nI sa), .int (nI sv)])), (a1, .inl (cI, 9, .inl fg)), (a2, .inl (cI, 9, .inl fb)), (a3, .inl (cI, 9, .inl fp)), (h3, .inr (3, [.ref b1, .ref b2, .int (nI n), .int (nI c0), .int (nI y)])), (b1, .inl (cJ, 320, .inr (.inl fw))), (h1, .inr (1, [.ref h4, .ref h3, .ref h2, .ref p4, .ref p5, .ref p6, .int fr])), (p4, .inl (cI, 9, .inl fq)), (p5, .inl (cJ, len, .inr (.inl eb))), (p6, .inl (cI, len, .inl ew)), (h5, .inr (5, [.ref lk1, .int (nI tc)])), (lk1, .inl (cI, 9, .inl fk))]) [0, 1, 2, 3, 4, 5, 6, 9, 10, 11, 12, 13, 14] (by decide) rfl
                    have hFc := va_free (wc := [(x0, .inr (6, [.ref h4, .ref h3, .ref h2, .ref h1, .ref hB, .ref h5])), (h4, .inr (4, [.ref a1, .ref a2, .ref a3, .int (nI n), .int (nI sa), .int (nI sv)])), (a1, .inl (cI, 9, .inl fg)), (a2, .inl (cI, 9, .inl fb)), (a3, .inl (cI, 9, .inl fp)), (h3, .inr (3, [.ref b1, .ref b2, .int (nI n), .int (nI c0), .int (nI y)])), (b1, .inl (cJ, 320, .inr (.inl fw))), (h1, .inr (1, [.ref h4, .ref h3, .ref h2, .ref p4, .ref p5, .ref p6, .int fr])), (p4, .inl (cI, 9, .inl fq)), (p5, .inl (cJ, len, .inr (.inl eb))), (p6, .inl (cI, len, .inl ew)), (h5, .inr (5, [.ref lk1, .int (nI tc)])), (lk1, .inl (cI, 9, .inl fk))]) hD hS hA [0, 1, 2, 3, 4, 5, 6, 9, 10, 11, 12, 13, 14] rfl
                    refine va_calli (va_runV (As := [.int (nI 1), .int (nI j8)]) (rest := []) ⟨hx, hb, hml, hown, hts⟩ (c_X6_follow_g l D cI cJ cZ z3 t3 H.size mc ms x0 h4 h3 h2 h1 hB h5 a1 a2 a3 b1 b2 p4 p5 p6 lk1 n c0 y sa len j8 1 fr (nI sv) (nI tc) fg fb fp fq eb ew fw fk (by first | assumption | omega) (by first | assumption | omega) (by first | assumption | omega) (by first | assumption | omega) (by first | assumption | omega) (by first | assumption | omega) (by first | assumption | omega) (by first | assumption | omega) (by exact fun a b g => hbud a b ⟨by first | exact Or.inl rfl | exact Or.inr rfl, by omega, hfit, by rw [m_tn (by omega)]; exact g⟩) (by first | assumption | omega) ((nz3.D hD hzA htA).sub [0, 1, 2, 3, 4, 5, 6, 9, 10, 11, 12, 13, 14] rfl)) (cwV 2 hts gX6_run_X6_follow rfl rfl rfl (by decide +kernel) ⟨Nat.le_of_ble_eq_true rfl, Nat.le_of_ble_eq_true rfl⟩) ⟨pnT_blind, va_recv hK hP (ci := 6) (q0 := 0) rfl rfl, fun U hU hW => ⟨rfl, by rw [hU], by rw [hU]; exact hPc, hKN.warm hW, hT0.go hS hzA htA hW hU, hDc.weaken (fun _ _ _ _ => trivial)⟩⟩ rfl rfl hl.1 rfl (lv_room (Nat.le_of_ble_eq_true rfl)) dX6_run_48 ⟨(show 0 + mc ≤ mc by omega), (show 0 + ms ≤ ms by omega)⟩) hS (fun q _ h => hFc q h) hFc (fun r10 u t H1 locs ht hvm hw hB hz1 hk1 hS => ?_)
                    obtain ⟨u10_w5, u10_w6, u10_ul, u10_uq, u10_ub, u10_uw, u10_uf, u10_utc, u10_ufk⟩ := u
                    have w10 : FS fr len n (NV fw y (j8 &&& sa) ((2 ^ n - 1) ^^^ sa)) u10_uf u10_ul ∧ ∃ x, x ≤ 9 ∧ u10_utc = nI x := hw
                    obtain ⟨hP1, hD1⟩ := hB
                    rw [ht] at hP1
                    have hP1 : va_P D vwCl [(x0, .inr (6, [.ref h4, .ref h3, .ref h2, .ref h1, .ref hB, .ref h5])), (h4, .inr (4, [.ref a1, .ref a2, .ref a3, .int (nI n), .int (nI sa), .int (nI sv)])), (a1, .inl (cI, 9, .inl fg)), (a2, .inl (cI, 9, .inl fb)), (a3, .inl (cI, 9, .inl fp)), (h3, .inr (3, [.ref b1, .ref b2, .int (nI n), .int (nI c0), .int (nI y)])), (b1, .inl (cJ, 320, .inr (.inl fw))), (h1, .inr (1, [.ref h4, .ref h3, .ref h2, .ref p4, .ref u10_w5, .ref u10_w6, .int u10_uf])), (p4, .inl (cI, 9, .inl u10_uq)), (u10_w5, .inl (cJ, u10_ul, .inr (.inl u10_ub))), (u10_w6, .inl (cI, u10_ul, .inl u10_uw)), (h5, .inr (5, [.ref lk1, .int u10_utc])), (lk1, .inl (cI, 9, .inl u10_ufk))] H1 := hP1
                    have hD1 : va_D _ [(x0, .inr (6, [.ref h4, .ref h3, .ref h2, .ref h1, .ref hB, .ref h5])), (h4, .inr (4, [.ref a1, .ref a2, .ref a3, .int (nI n), .int (nI sa), .int (nI sv)])), (a1, .inl (cI, 9, .inl fg)), (a2, .inl (cI, 9, .inl fb)), (a3, .inl (cI, 9, .inl fp)), (h3, .inr (3, [.ref b1, .ref b2, .int (nI n), .int (nI c0), .int (nI y)])), (b1, .inl (cJ, 320, .inr (.inl fw))), (h1, .inr (1, [.ref h4, .ref h3, .ref h2, .ref p4, .ref u10_w5, .ref u10_w6, .int u10_uf])), (p4, .inl (cI, 9, .inl u10_uq)), (u10_w5, .inl (cJ, u10_ul, .inr (.inl u10_ub))), (u10_w6, .inl (cI, u10_ul, .inl u10_uw)), (h5, .inr (5, [.ref lk1, .int u10_utc])), (lk1, .inl (cI, 9, .inl u10_ufk))] := hD1
                    obtain ⟨hP, hD⟩ := va_join (wr := [(h2, .inr (2, [.ref r1, .int (nI q)])), (r1, .inl (cI, 9, .inl qr))]) (w1 := [(x0, .inr (6, [.ref h4, .ref h3, .ref h2, .ref h1, .ref hB, .ref h5])), (h4, .inr (4, [.ref a1, .ref a2, .ref a3, .int (nI n), .int (nI sa), .int (nI sv)])), (a1, .inl (cI, 9, .inl fg)), (a2, .inl (cI, 9, .inl fb)), (a3, .inl (cI, 9, .inl fp)), (h3, .inr (3, [.ref b1, .ref b2, .int (nI n), .int (nI c0), .int (nI y)])), (b1, .inl (cJ, 320, .inr (.inl fw))), (h1, .inr (1, [.ref h4, .ref h3, .ref h2, .ref p4, .ref u10_w5, .ref u10_w6, .int u10_uf])), (p4, .inl (cI, 9, .inl u10_uq)), (u10_w5, .inl (cJ, u10_ul, .inr (.inl u10_ub))), (u10_w6, .inl (cI, u10_ul, .inl u10_uw)), (h5, .inr (5, [.ref lk1, .int u10_utc])), (lk1, .inl (cI, 9, .inl u10_ufk))]) hP hD [0, 1, 2, 3, 4, 5, 6, 9, 10, 11, 12, 13, 14] [7, 8] rfl rfl (by decide) (by decide) hk1 hFc hP1 hD1
                    generalize H1 = H at hP hS ⊢
                    have hP := hP.sub (ws' := [(x0, .inr (6, [.ref h4, .ref h3, .ref h2, .ref h1, .ref hB, .ref h5])), (h4, .inr (4, [.ref a1, .ref a2, .ref a3, .int (nI n), .int (nI sa), .int (nI sv)])), (a1, .inl (cI, 9, .inl fg)), (a2, .inl (cI, 9, .inl fb)), (a3, .inl (cI, 9, .inl fp)), (h3, .inr (3, [.ref b1, .ref b2, .int (nI n), .int (nI c0), .int (nI y)])), (b1, .inl (cJ, 320, .inr (.inl fw))), (h2, .inr (2, [.ref r1, .int (nI q)])), (r1, .inl (cI, 9, .inl qr)), (h1, .inr (1, [.ref h4, .ref h3, .ref h2, .ref p4, .ref u10_w5, .ref u10_w6, .int u10_uf])), (p4, .inl (cI, 9, .inl u10_uq)), (u10_w5, .inl (cJ, u10_ul, .inr (.inl u10_ub))), (u10_w6, .inl (cI, u10_ul, .inl u10_uw)), (h5, .inr (5, [.ref lk1, .int u10_utc])), (lk1, .inl (cI, 9, .inl u10_ufk))]) [2, 3, 4, 5, 6, 7, 8, 0, 1, 9, 10, 11, 12, 13, 14] rfl
                    have hD := hD.sub (ws' := [(x0, .inr (6, [.ref h4, .ref h3, .ref h2, .ref h1, .ref hB, .ref h5])), (h4, .inr (4, [.ref a1, .ref a2, .ref a3, .int (nI n), .int (nI sa), .int (nI sv)])), (a1, .inl (cI, 9, .inl fg)), (a2, .inl (cI, 9, .inl fb)), (a3, .inl (cI, 9, .inl fp)), (h3, .inr (3, [.ref b1, .ref b2, .int (nI n), .int (nI c0), .int (nI y)])), (b1, .inl (cJ, 320, .inr (.inl fw))), (h2, .inr (2, [.ref r1, .int (nI q)])), (r1, .inl (cI, 9, .inl qr)), (h1, .inr (1, [.ref h4, .ref h3, .ref h2, .ref p4, .ref u10_w5, .ref u10_w6, .int u10_uf])), (p4, .inl (cI, 9, .inl u10_uq)), (u10_w5, .inl (cJ, u10_ul, .inr (.inl u10_ub))), (u10_w6, .inl (cI, u10_ul, .inl u10_uw)), (h5, .inr (5, [.ref lk1, .int u10_utc])), (lk1, .inl (cI, 9, .inl u10_ufk))]) [2, 3, 4, 5, 6, 7, 8, 0, 1, 9, 10, 11, 12, 13, 14] (by decide) rfl
                    have hP : va_P D vwCl [(x0, .inr (6, [.ref h4, .ref h3, .ref h2, .ref h1, .ref hB, .ref h5])), (h4, .inr (4, [.ref a1, .ref a2, .ref a3, .int (nI n), .int (nI sa), .int (nI sv)])), (a1, .inl (cI, 9, .inl fg)), (a2, .inl (cI, 9, .inl fb)), (a3, .inl (cI, 9, .inl fp)), (h3, .inr (3, [.ref b1, .ref b2, .int (nI n), .int (nI c0), .int (nI y)])), (b1, .inl (cJ, 320, .inr (.inl fw))), (h2, .inr (2, [.ref r1, .int (nI q)])), (r1, .inl (cI, 9, .inl qr)), (h1, .inr (1, [.ref h4, .ref h3, .ref h2, .ref p4, .ref u10_w5, .ref u10_w6, .int u10_uf])), (p4, .inl (cI, 9, .inl u10_uq)), (u10_w5, .inl (cJ, u10_ul, .inr (.inl u10_ub))), (u10_w6, .inl (cI, u10_ul, .inl u10_uw)), (h5, .inr (5, [.ref lk1, .int u10_utc])), (lk1, .inl (cI, 9, .inl u10_ufk))] H := hP
                    have hD : va_D A [(x0, .inr (6, [.ref h4, .ref h3, .ref h2, .ref h1, .ref hB, .ref h5])), (h4, .inr (4, [.ref a1, .ref a2, .ref a3, .int (nI n), .int (nI sa), .int (nI sv)])), (a1, .inl (cI, 9, .inl fg)), (a2, .inl (cI, 9, .inl fb)), (a3, .inl (cI, 9, .inl fp)), (h3, .inr (3, [.ref b1, .ref b2, .int (nI n), .int (nI c0), .int (nI y)])), (b1, .inl (cJ, 320, .inr (.inl fw))), (h2, .inr (2, [.ref r1, .int (nI q)])), (r1, .inl (cI, 9, .inl qr)), (h1, .inr (1, [.ref h4, .ref h3, .ref h2, .ref p4, .ref u10_w5, .ref u10_w6, .int u10_uf])), (p4, .inl (cI, 9, .inl u10_uq)), (u10_w5, .inl (cJ, u10_ul, .inr (.inl u10_ub))), (u10_w6, .inl (cI, u10_ul, .inl u10_uw)), (h5, .inr (5, [.ref lk1, .int u10_utc])), (lk1, .inl (cI, 9, .inl u10_ufk))] := hD
                    refine W.widen (k := mc) (n := ms) (by omega) (by omega) ?_
                    refine W.widen (k := mc) (n := ms) (by omega) (by omega) ?_
                    rw [← hQ]
                    have hP9 := hP.sub (ws' := [(x0, .inr (6, [.ref h4, .ref h3, .ref h2, .ref h1, .ref hB, .ref h5])), (h4, .inr (4, [.ref a1, .ref a2, .ref a3, .int (nI n), .int (nI sa), .int (nI sv)])), (a1, .inl (cI, 9, .inl fg)), (a2, .inl (cI, 9, .inl fb)), (a3, .inl (cI, 9, .inl fp)), (h3, .inr (3, [.ref b1, .ref b2, .int (nI n), .int (nI c0), .int (nI y)])), (b1, .inl (cJ, 320, .inr (.inl fw))), (h2, .inr (2, [.ref r1, .int (nI q)])), (r1, .inl (cI, 9, .inl qr)), (h1, .inr (1, [.ref h4, .ref h3, .ref h2, .ref p4, .ref u10_w5, .ref u10_w6, .int u10_uf])), (p4, .inl (cI, 9, .inl u10_uq)), (u10_w5, .inl (cJ, u10_ul, .inr (.inl u10_ub))), (u10_w6, .inl (cI, u10_ul, .inl u10_uw)), (h5, .inr (5, [.ref lk1, .int u10_utc])), (lk1, .inl (cI, 9, .inl u10_ufk))]) [0, 1, 2, 3, 4, 5, 6, 7, 8, 9, 10, 11, 12, 13, 14] rfl
                    have hD9 := hD.sub (ws' := [(x0, .inr (6, [.ref h4, .ref h3, .ref h2, .ref h1, .ref hB, .ref h5])), (h4, .inr (4, [.ref a1, .ref a2, .ref a3, .int (nI n), .int (nI sa), .int (nI sv)])), (a1, .inl (cI, 9, .inl fg)), (a2, .inl (cI, 9, .inl fb)), (a3, .inl (cI, 9, .inl fp)), (h3, .inr (3, [.ref b1, .ref b2, .int (nI n), .int (nI c0), .int (nI y)])), (b1, .inl (cJ, 320, .inr (.inl fw))), (h2, .inr (2, [.ref r1, .int (nI q)])), (r1, .inl (cI, 9, .inl qr)), (h1, .inr (1, [.ref h4, .ref h3, .ref h2, .ref p4, .ref u10_w5, .ref u10_w6, .int u10_uf])), (p4, .inl (cI, 9, .inl u10_uq)), (u10_w5, .inl (cJ, u10_ul, .inr (.inl u10_ub))), (u10_w6, .inl (cI, u10_ul, .inl u10_uw)), (h5, .inr (5, [.ref lk1, .int u10_utc])), (lk1, .inl (cI, 9, .inl u10_ufk))]) [0, 1, 2, 3, 4, 5, 6, 7, 8, 9, 10, 11, 12, 13, 14] (by decide) rfl
                    exact W.iret (v := r10) hx hb hr (fun tS htS hWS => ⟨⟨r10, (u10_w5, u10_w6, u10_ul, u10_uq, u10_ub, u10_uw, u10_uf, u10_utc, u10_ufk), rfl, by first | exact ⟨FS.iff (KR.iff (by first | exact Or.inl rfl | exact Or.inr rfl) hj8 hn hfit) w10.1, w10.2⟩ | exact ⟨FS.no (fun h => by rcases h.1 with e | e <;> exact absurd e (by decide)) hfr hlen, w10⟩, m_at htS hP9, hD9⟩, hS.F htS⟩) hS.2.2 dX6_run_51
                  · skip
                    refine lv_aload_n hx hb dX6_run_45 rfl (lv_at hl 0 rfl) ?_
                    refine lv_iload_n hx hb dX6_run_46 rfl (lv_at hl 1 rfl) ?_
                    refine lv_iload_n hx hb dX6_run_47 rfl (lv_at hl 2 rfl) ?_
                    refine mu_i (n := 15) (wc := [(x0, .inr (6, [.ref h4, .ref h3, .ref h2, .ref h1, .ref hB, .ref h5])), (h4, .inr (4, [.ref a1, .ref a2, .ref a3, .int (nI n), .int (nI sa), .int (nI sv)])), (a1, .inl (cI, 9, .inl fg)), (a2, .inl (cI, 9, .inl fb)), (a3, .inl (cI, 9, .inl fp)), (h3, .inr (3, [.ref b1, .ref b2, .int (nI n), .int (nI c0), .int (nI y)])), (b1, .inl (cJ, 320, .inr (.inl fw))), (h2, .inr (2, [.ref r1, .int (nI q)])), (r1, .inl (cI, 9, .inl qr)), (h1, .inr (1, [.ref h4, .ref h3, .ref h2, .ref p4, .ref p5, .ref p6, .int fr])), (h5, .inr (5, [.ref lk1, .int (nI tc)])), (lk1, .inl (cI, 9, .inl fk))]) (va_runV (As := [.int (nI 2), .int (nI j8)]) (rest := []) ⟨hx, hb, hml, hown, hts⟩ (c_X6_follow_o l D cI cJ cZ x0 h4 h3 h2 h1 hB h5 a1 a2 a3 b1 b2 r1 p4 p5 p6 lk1 n c0 y sa q j8 fr (nI sv) (nI tc) fg fb fp qr fw fk (by first | assumption | omega) (by first | assumption | omega) (by first | assumption | omega) (by first | assumption | omega) (by first | assumption | omega) (by first | assumption | omega) (by first | assumption | omega) (by first | assumption | omega)) (cwV 2 hts gX6_run_X6_follow rfl rfl rfl (by decide +kernel) ⟨Nat.le_of_ble_eq_true rfl, Nat.le_of_ble_eq_true rfl⟩) ⟨pm_blind, va_recv hK hP (ci := 6) (q0 := 0) rfl rfl, fun U hU hW => ⟨rfl, by rw [hU]; exact hP.sub (ws' := [(x0, .inr (6, [.ref h4, .ref h3, .ref h2, .ref h1, .ref hB, .ref h5])), (h4, .inr (4, [.ref a1, .ref a2, .ref a3, .int (nI n), .int (nI sa), .int (nI sv)])), (a1, .inl (cI, 9, .inl fg)), (a2, .inl (cI, 9, .inl fb)), (a3, .inl (cI, 9, .inl fp)), (h3, .inr (3, [.ref b1, .ref b2, .int (nI n), .int (nI c0), .int (nI y)])), (b1, .inl (cJ, 320, .inr (.inl fw))), (h2, .inr (2, [.ref r1, .int (nI q)])), (r1, .inl (cI, 9, .inl qr)), (h1, .inr (1, [.ref h4, .ref h3, .ref h2, .ref p4, .ref p5, .ref p6, .int fr])), (h5, .inr (5, [.ref lk1, .int (nI tc)])), (lk1, .inl (cI, 9, .inl fk))]) [0, 1, 2, 3, 4, 5, 6, 7, 8, 9, 13, 14] rfl, hKN.warm hW, (hD.sub (ws' := [(x0, .inr (6, [.ref h4, .ref h3, .ref h2, .ref h1, .ref hB, .ref h5])), (h4, .inr (4, [.ref a1, .ref a2, .ref a3, .int (nI n), .int (nI sa), .int (nI sv)])), (a1, .inl (cI, 9, .inl fg)), (a2, .inl (cI, 9, .inl fb)), (a3, .inl (cI, 9, .inl fp)), (h3, .inr (3, [.ref b1, .ref b2, .int (nI n), .int (nI c0), .int (nI y)])), (b1, .inl (cJ, 320, .inr (.inl fw))), (h2, .inr (2, [.ref r1, .int (nI q)])), (r1, .inl (cI, 9, .inl qr)), (h1, .inr (1, [.ref h4, .ref h3, .ref h2, .ref p4, .ref p5, .ref p6, .int fr])), (h5, .inr (5, [.ref lk1, .int (nI tc)])), (lk1, .inl (cI, 9, .inl fk))]) [0, 1, 2, 3, 4, 5, 6, 7, 8, 9, 13, 14] (by decide) rfl).weaken (fun _ _ _ _ => trivial)⟩⟩ rfl rfl hl.1 rfl (lv_room (Nat.le_of_ble_eq_true rfl)) dX6_run_48 ⟨(show 0 + 0 ≤ mc by omega), (show 0 + 0 ≤ ms by omega)⟩) hS hP hD (fun (u : Int32 × (Nat → Int32)) => [(x0, .inr (6, [.ref h4, .ref h3, .ref h2, .ref h1, .ref hB, .ref h5])), (h4, .inr (4, [.ref a1, .ref a2, .ref a3, .int (nI n), .int (nI sa), .int (nI sv)])), (a1, .inl (cI, 9, .inl fg)), (a2, .inl (cI, 9, .inl fb)), (a3, .inl (cI, 9, .inl fp)), (h3, .inr (3, [.ref b1, .ref b2, .int (nI n), .int (nI c0), .int (nI y)])), (b1, .inl (cJ, 320, .inr (.inl fw))), (h2, .inr (2, [.ref r1, .int (nI q)])), (r1, .inl (cI, 9, .inl qr)), (h1, .inr (1, [.ref h4, .ref h3, .ref h2, .ref p4, .ref p5, .ref p6, .int fr])), (p4, .inl (cI, 9, .inl fq)), (p5, .inl (cJ, len, .inr (.inl eb))), (p6, .inl (cI, len, .inl ew)), (h5, .inr (5, [.ref lk1, .int u.1])), (lk1, .inl (cI, 9, .inl u.2))]) [0, 1, 2, 3, 4, 5, 6, 7, 8, 9, 13, 14] [10, 11, 12] rfl rfl (fun _ => rfl) (fun _ => rfl) (fun _ => rfl) (fun _ => rfl) (by decide) (by decide) (fun r11 u11 H locs w11r hP hD hS => ?_)
                    obtain ⟨u11_utc, u11_ufk⟩ := u11
                    have hP : va_P D vwCl [(x0, .inr (6, [.ref h4, .ref h3, .ref h2, .ref h1, .ref hB, .ref h5])), (h4, .inr (4, [.ref a1, .ref a2, .ref a3, .int (nI n), .int (nI sa), .int (nI sv)])), (a1, .inl (cI, 9, .inl fg)), (a2, .inl (cI, 9, .inl fb)), (a3, .inl (cI, 9, .inl fp)), (h3, .inr (3, [.ref b1, .ref b2, .int (nI n), .int (nI c0), .int (nI y)])), (b1, .inl (cJ, 320, .inr (.inl fw))), (h2, .inr (2, [.ref r1, .int (nI q)])), (r1, .inl (cI, 9, .inl qr)), (h1, .inr (1, [.ref h4, .ref h3, .ref h2, .ref p4, .ref p5, .ref p6, .int fr])), (p4, .inl (cI, 9, .inl fq)), (p5, .inl (cJ, len, .inr (.inl eb))), (p6, .inl (cI, len, .inl ew)), (h5, .inr (5, [.ref lk1, .int u11_utc])), (lk1, .inl (cI, 9, .inl u11_ufk))] H := hP
                    have hD : va_D A [(x0, .inr (6, [.ref h4, .ref h3, .ref h2, .ref h1, .ref hB, .ref h5])), (h4, .inr (4, [.ref a1, .ref a2, .ref a3, .int (nI n), .int (nI sa), .int (nI sv)])), (a1, .inl (cI, 9, .inl fg)), (a2, .inl (cI, 9, .inl fb)), (a3, .inl (cI, 9, .inl fp)), (h3, .inr (3, [.ref b1, .ref b2, .int (nI n), .int (nI c0), .int (nI y)])), (b1, .inl (cJ, 320, .inr (.inl fw))), (h2, .inr (2, [.ref r1, .int (nI q)])), (r1, .inl (cI, 9, .inl qr)), (h1, .inr (1, [.ref h4, .ref h3, .ref h2, .ref p4, .ref p5, .ref p6, .int fr])), (p4, .inl (cI, 9, .inl fq)), (p5, .inl (cJ, len, .inr (.inl eb))), (p6, .inl (cI, len, .inl ew)), (h5, .inr (5, [.ref lk1, .int u11_utc])), (lk1, .inl (cI, 9, .inl u11_ufk))] := hD
                    have w11 : ∃ x, x ≤ 9 ∧ u11_utc = nI x := w11r
                    clear w11r
                    refine W.widen (k := mc) (n := ms) (by omega) (by omega) ?_
                    rw [← hQ]
                    have hP9 := hP.sub (ws' := [(x0, .inr (6, [.ref h4, .ref h3, .ref h2, .ref h1, .ref hB, .ref h5])), (h4, .inr (4, [.ref a1, .ref a2, .ref a3, .int (nI n), .int (nI sa), .int (nI sv)])), (a1, .inl (cI, 9, .inl fg)), (a2, .inl (cI, 9, .inl fb)), (a3, .inl (cI, 9, .inl fp)), (h3, .inr (3, [.ref b1, .ref b2, .int (nI n), .int (nI c0), .int (nI y)])), (b1, .inl (cJ, 320, .inr (.inl fw))), (h2, .inr (2, [.ref r1, .int (nI q)])), (r1, .inl (cI, 9, .inl qr)), (h1, .inr (1, [.ref h4, .ref h3, .ref h2, .ref p4, .ref p5, .ref p6, .int fr])), (p4, .inl (cI, 9, .inl fq)), (p5, .inl (cJ, len, .inr (.inl eb))), (p6, .inl (cI, len, .inl ew)), (h5, .inr (5, [.ref lk1, .int u11_utc])), (lk1, .inl (cI, 9, .inl u11_ufk))]) [0, 1, 2, 3, 4, 5, 6, 7, 8, 9, 10, 11, 12, 13, 14] rfl
                    have hD9 := hD.sub (ws' := [(x0, .inr (6, [.ref h4, .ref h3, .ref h2, .ref h1, .ref hB, .ref h5])), (h4, .inr (4, [.ref a1, .ref a2, .ref a3, .int (nI n), .int (nI sa), .int (nI sv)])), (a1, .inl (cI, 9, .inl fg)), (a2, .inl (cI, 9, .inl fb)), (a3, .inl (cI, 9, .inl fp)), (h3, .inr (3, [.ref b1, .ref b2, .int (nI n), .int (nI c0), .int (nI y)])), (b1, .inl (cJ, 320, .inr (.inl fw))), (h2, .inr (2, [.ref r1, .int (nI q)])), (r1, .inl (cI, 9, .inl qr)), (h1, .inr (1, [.ref h4, .ref h3, .ref h2, .ref p4, .ref p5, .ref p6, .int fr])), (p4, .inl (cI, 9, .inl fq)), (p5, .inl (cJ, len, .inr (.inl eb))), (p6, .inl (cI, len, .inl ew)), (h5, .inr (5, [.ref lk1, .int u11_utc])), (lk1, .inl (cI, 9, .inl u11_ufk))]) [0, 1, 2, 3, 4, 5, 6, 7, 8, 9, 10, 11, 12, 13, 14] (by decide) rfl
                    exact W.iret (v := r11) hx hb hr (fun tS htS hWS => ⟨⟨r11, (p5, p6, len, fq, eb, ew, fr, u11_utc, u11_ufk), rfl, by first | exact ⟨FS.iff (KR.iff (by first | exact Or.inl rfl | exact Or.inr rfl) hj8 hn hfit) w11.1, w11.2⟩ | exact ⟨FS.no (fun h => by rcases h.1 with e | e <;> exact absurd e (by decide)) hfr hlen, w11⟩, m_at htS hP9, hD9⟩, hS.F htS⟩) hS.2.2 dX6_run_51
                · exact absurd c8 (by first | decide | exact nz_lt (by omega) | exact fun h => h (nz_ge (by omega)))
              · skip
                have hnf := w7
                refine lv_if_ne (tgt := 45) hx hb dX6_run_40 (by decide) (fun c12 => ?_) (fun c12 => ?_)
                · exact absurd c12 (by first | decide | exact nz_lt (by omega) | exact fun h => h (nz_ge (by omega)))
                · skip
                  refine lv_iconst (v := (-1 : Int32)) hx hb dX6_run_43 (by decide) ?_
                  refine W.widen (k := mc) (n := ms) (by omega) (by omega) ?_
                  rw [← hQ]
                  have hP9 := hP.sub (ws' := [(x0, .inr (6, [.ref h4, .ref h3, .ref h2, .ref h1, .ref hB, .ref h5])), (h4, .inr (4, [.ref a1, .ref a2, .ref a3, .int (nI n), .int (nI sa), .int (nI sv)])), (a1, .inl (cI, 9, .inl fg)), (a2, .inl (cI, 9, .inl fb)), (a3, .inl (cI, 9, .inl fp)), (h3, .inr (3, [.ref b1, .ref b2, .int (nI n), .int (nI c0), .int (nI y)])), (b1, .inl (cJ, 320, .inr (.inl fw))), (h2, .inr (2, [.ref r1, .int (nI q)])), (r1, .inl (cI, 9, .inl qr)), (h1, .inr (1, [.ref h4, .ref h3, .ref h2, .ref p4, .ref p5, .ref p6, .int fr])), (p4, .inl (cI, 9, .inl fq)), (p5, .inl (cJ, len, .inr (.inl eb))), (p6, .inl (cI, len, .inl ew)), (h5, .inr (5, [.ref lk1, .int (nI tc)])), (lk1, .inl (cI, 9, .inl fk))]) [0, 1, 2, 3, 4, 5, 6, 7, 8, 9, 10, 11, 12, 13, 14] rfl
                  have hD9 := hD.sub (ws' := [(x0, .inr (6, [.ref h4, .ref h3, .ref h2, .ref h1, .ref hB, .ref h5])), (h4, .inr (4, [.ref a1, .ref a2, .ref a3, .int (nI n), .int (nI sa), .int (nI sv)])), (a1, .inl (cI, 9, .inl fg)), (a2, .inl (cI, 9, .inl fb)), (a3, .inl (cI, 9, .inl fp)), (h3, .inr (3, [.ref b1, .ref b2, .int (nI n), .int (nI c0), .int (nI y)])), (b1, .inl (cJ, 320, .inr (.inl fw))), (h2, .inr (2, [.ref r1, .int (nI q)])), (r1, .inl (cI, 9, .inl qr)), (h1, .inr (1, [.ref h4, .ref h3, .ref h2, .ref p4, .ref p5, .ref p6, .int fr])), (p4, .inl (cI, 9, .inl fq)), (p5, .inl (cJ, len, .inr (.inl eb))), (p6, .inl (cI, len, .inl ew)), (h5, .inr (5, [.ref lk1, .int (nI tc)])), (lk1, .inl (cI, 9, .inl fk))]) [0, 1, 2, 3, 4, 5, 6, 7, 8, 9, 10, 11, 12, 13, 14] (by decide) rfl
                  exact W.iret (v := (-1 : Int32)) hx hb hr (fun tS htS hWS => ⟨⟨(-1 : Int32), (p5, p6, len, fq, eb, ew, fr, nI tc, fk), rfl, by first | exact ⟨FS.no (fun h => hns h.2.1) hfr hlen, tc, htc, rfl⟩ | exact ⟨FS.no (fun h => hnf h.2.2.1) hfr hlen, tc, htc, rfl⟩, m_at htS hP9, hD9⟩, hS.F htS⟩) hS.2.2 dX6_run_44
          · skip
            have hns := w5
            refine lv_if_eq (tgt := 43) hx hb dX6_run_29 (by decide) (fun c13 => ?_) (fun c13 => ?_)
            · skip
              refine lv_iconst (v := (-1 : Int32)) hx hb dX6_run_43 (by decide) ?_
              refine W.widen (k := mc) (n := ms) (by omega) (by omega) ?_
              rw [← hQ]
              have hP9 := hP.sub (ws' := [(x0, .inr (6, [.ref h4, .ref h3, .ref h2, .ref h1, .ref hB, .ref h5])), (h4, .inr (4, [.ref a1, .ref a2, .ref a3, .int (nI n), .int (nI sa), .int (nI sv)])), (a1, .inl (cI, 9, .inl fg)), (a2, .inl (cI, 9, .inl fb)), (a3, .inl (cI, 9, .inl fp)), (h3, .inr (3, [.ref b1, .ref b2, .int (nI n), .int (nI c0), .int (nI y)])), (b1, .inl (cJ, 320, .inr (.inl fw))), (h2, .inr (2, [.ref r1, .int (nI q)])), (r1, .inl (cI, 9, .inl qr)), (h1, .inr (1, [.ref h4, .ref h3, .ref h2, .ref p4, .ref p5, .ref p6, .int fr])), (p4, .inl (cI, 9, .inl fq)), (p5, .inl (cJ, len, .inr (.inl eb))), (p6, .inl (cI, len, .inl ew)), (h5, .inr (5, [.ref lk1, .int (nI tc)])), (lk1, .inl (cI, 9, .inl fk))]) [0, 1, 2, 3, 4, 5, 6, 7, 8, 9, 10, 11, 12, 13, 14] rfl
              have hD9 := hD.sub (ws' := [(x0, .inr (6, [.ref h4, .ref h3, .ref h2, .ref h1, .ref hB, .ref h5])), (h4, .inr (4, [.ref a1, .ref a2, .ref a3, .int (nI n), .int (nI sa), .int (nI sv)])), (a1, .inl (cI, 9, .inl fg)), (a2, .inl (cI, 9, .inl fb)), (a3, .inl (cI, 9, .inl fp)), (h3, .inr (3, [.ref b1, .ref b2, .int (nI n), .int (nI c0), .int (nI y)])), (b1, .inl (cJ, 320, .inr (.inl fw))), (h2, .inr (2, [.ref r1, .int (nI q)])), (r1, .inl (cI, 9, .inl qr)), (h1, .inr (1, [.ref h4, .ref h3, .ref h2, .ref p4, .ref p5, .ref p6, .int fr])), (p4, .inl (cI, 9, .inl fq)), (p5, .inl (cJ, len, .inr (.inl eb))), (p6, .inl (cI, len, .inl ew)), (h5, .inr (5, [.ref lk1, .int (nI tc)])), (lk1, .inl (cI, 9, .inl fk))]) [0, 1, 2, 3, 4, 5, 6, 7, 8, 9, 10, 11, 12, 13, 14] (by decide) rfl
              exact W.iret (v := (-1 : Int32)) hx hb hr (fun tS htS hWS => ⟨⟨(-1 : Int32), (p5, p6, len, fq, eb, ew, fr, nI tc, fk), rfl, by first | exact ⟨FS.no (fun h => hns h.2.1) hfr hlen, tc, htc, rfl⟩ | exact ⟨FS.no (fun h => hnf h.2.2.1) hfr hlen, tc, htc, rfl⟩, m_at htS hP9, hD9⟩, hS.F htS⟩) hS.2.2 dX6_run_44
            · exact absurd c13 (by first | decide | exact nz_lt (by omega) | exact fun h => h (nz_ge (by omega)))
        · exact absurd c4 (by first | decide | exact nz_lt (by omega) | exact fun h => h (nz_ge (by omega)))
      · exact absurd ⟨by omega, by omega⟩ w3
def rm_c_X6_sets_n : Room := { frames := 2, cells := 0, slots := 0, locals := 41 }
set_option maxHeartbeats 400000 in
set_option maxRecDepth 100000 in
theorem c_X6_sets_n (l : Launch) (D : va_G) (cI cJ cZ : ClassId) (x0 : Nat) (h4 : Nat) (h3 : Nat) (h2 : Nat) (h1 : Nat) (hB : Nat) (h5 : Nat) (b1 : Nat) (b2 : Nat) (c0 : Nat) (pt : Int32) (p0 : Int32) (hc : c0 ≤ 40) : Met l yX6_sets wsX6_sets rm_c_X6_sets_n (pc_ D cI cJ cZ [.ref x0, .int p0] [(x0, .inr (6, [.ref h4, .ref h3, .ref h2, .ref h1, .ref hB, .ref h5])), (h3, .inr (3, [.ref b1, .ref b2, .int pt, .int (nI c0), .int (-1 : Int32)]))]) (va_Qi (fun (r : Int32) (_ : Unit) => r = -1) (fun _ _ => True) aN) 0 0 aN := by
  refine Met.ofW (cc := cX6_sets) (maxL := 2) (ret := (some .int)) (by decide) rfl ?_
  intro p e s m args below meth c s₁ B hml hv
  obtain ⟨rfl, hP, hKN⟩ := hv
  have hK := hKN.1
  have hx := B.exec
  have hb := B.bytes
  have hr := B.returns
  have hts := atoms_spec (ws := wsX6_sets) B.pre
  have hown : s.vm.findClass RX6 = some m.cls := findClass_of_methodNamed B.named
  have hlocks := B.notSynchronized
  have hiX6 : ∀ w ∈ wsX60, w ∈ wsX6_sets := by decide +kernel
  have hf19 := hts (.fieldLink RX6 19 "LookBench" "rules" "LLookBench$Rules;") (by decide +kernel)
  have hS : va_S aN s.heap s.heap [] := va_S.rf
  have hl := lv_entry ([.ref x0, .int p0]) (n := 2) (Nat.le_of_ble_eq_true rfl)
  rw [lg_entry_eq]
  generalize (lg_sl ([.ref x0, .int p0]) ++ List.replicate (2 - (lg_sl ([.ref x0, .int p0])).length) Slot.unset).toArray = ls at hl ⊢
  have hl : lv_has ls 2 [(0, .ref x0), (1, .int p0)] := hl
  generalize hQ : MQ below _ _ s _ _ _ = Q
  obtain ⟨H, hH⟩ : ∃ z, z = s.heap := ⟨_, rfl⟩
  have hP : va_P D vwCl [(x0, .inr (6, [.ref h4, .ref h3, .ref h2, .ref h1, .ref hB, .ref h5])), (h3, .inr (3, [.ref b1, .ref b2, .int pt, .int (nI c0), .int (-1 : Int32)]))] H := by rw [hH]; exact hP
  have hS : va_S aN s.heap H [] := by rw [hH]; exact hS
  refine m_heap hH ?_
  clear hH
  refine lv_iload_n hx hb dX6_sets_0 rfl (lv_at hl 1 rfl) ?_
  refine lv_if_lt (tgt := 19) hx hb dX6_sets_1 (by decide) (fun c1 => ?_) (fun c1 => ?_)
  · skip
    have d1 := c1
    rw [i_lt, i_z] at d1
    refine lv_iconst (v := (-1 : Int32)) hx hb dX6_sets_19 (by decide) ?_
    rw [← hQ]
    exact W.iret (v := (-1 : Int32)) hx hb hr (fun tS htS hWS => ⟨⟨(-1 : Int32), (), rfl, rfl, trivial⟩, hS.F htS⟩) hS.2.2 dX6_sets_20
  · skip
    have d1 := c1
    rw [i_lt, i_z] at d1
    refine lv_iload_n hx hb dX6_sets_4 rfl (lv_at hl 1 rfl) ?_
    refine lv_iconst (v := nI 1) hx hb dX6_sets_5 (by decide) ?_
    refine lv_icmp_gt (tgt := 19) hx hb dX6_sets_6 (by decide) (fun c2 => ?_) (fun c2 => ?_)
    · skip
      have d2 := c2
      rw [i_lt, nI_toInt (n := 1) (by omega)] at d2
      refine lv_iconst (v := (-1 : Int32)) hx hb dX6_sets_19 (by decide) ?_
      rw [← hQ]
      exact W.iret (v := (-1 : Int32)) hx hb hr (fun tS htS hWS => ⟨⟨(-1 : Int32), (), rfl, rfl, trivial⟩, hS.F htS⟩) hS.2.2 dX6_sets_20
    · skip
      have d2 := c2
      rw [i_lt, nI_toInt (n := 1) (by omega)] at d2
      refine lv_aload_n hx hb dX6_sets_9 rfl (lv_at hl 0 rfl) ?_
      refine va_get (D := D) (ci := 6) (v := .ref h3) (C := RX6) (T := TX6) (N := 6) hx hb hts hiX6 hown hK hP 0 rfl rfl 1 (by decide) hf19 (fun _ h9 => h9) rfl dX6_sets_10 ?_
      refine pu_i (va_runV (As := []) (rest := []) ⟨hx, hb, hml, hown, hts⟩ (c_X3_hasSystem l D cI cJ cZ h3 b1 b2 c0 pt (-1 : Int32) (by first | assumption | omega)) (cwV 0 hts gX6_sets_X3_hasSystem rfl rfl rfl (by decide +kernel) ⟨Nat.le_of_ble_eq_true rfl, Nat.le_of_ble_eq_true rfl⟩) ⟨pc_blind, va_recv hK hP (ci := 3) (q0 := 1) rfl rfl, fun U hU hW => ⟨rfl, by rw [hU]; exact hP.sub (ws' := [(h3, .inr (3, [.ref b1, .ref b2, .int pt, .int (nI c0), .int (-1 : Int32)]))]) [1] rfl, hKN.warm hW⟩⟩ rfl rfl hl.1 rfl (lv_room (Nat.le_of_ble_eq_true rfl)) dX6_sets_13 ⟨Nat.le_of_ble_eq_true rfl, Nat.le_of_ble_eq_true rfl⟩) hS hP (fun r3 H locs w3r hP hS => ?_)
      have w3 : B01 r3 (0 ≤ (-1 : Int32).toInt ∧ (-1 : Int32).toInt < c0) := w3r
      clear w3r
      rcases w3 with ⟨rfl, w3⟩ | ⟨rfl, w3⟩
      · exact absurd w3 (by rw [show ((-1 : Int32)).toInt = -1 by decide]; omega)
      · skip
        refine lv_if_ne (tgt := 21) hx hb dX6_sets_16 (by decide) (fun c4 => ?_) (fun c4 => ?_)
        · exact absurd c4 (by first | decide | exact nz_lt (by omega) | exact fun h => h (nz_ge (by omega)))
        · skip
          refine lv_iconst (v := (-1 : Int32)) hx hb dX6_sets_19 (by decide) ?_
          rw [← hQ]
          exact W.iret (v := (-1 : Int32)) hx hb hr (fun tS htS hWS => ⟨⟨(-1 : Int32), (), rfl, rfl, trivial⟩, hS.F htS⟩) hS.2.2 dX6_sets_20
def rm_c_X6_set_n : Room := { frames := 2, cells := 0, slots := 0, locals := 41 }
set_option maxHeartbeats 400000 in
set_option maxRecDepth 100000 in
theorem c_X6_set_n (l : Launch) (D : va_G) (cI cJ cZ : ClassId) (x0 : Nat) (h4 : Nat) (h3 : Nat) (h2 : Nat) (h1 : Nat) (hB : Nat) (h5 : Nat) (b1 : Nat) (b2 : Nat) (c0 : Nat) (pt : Int32) (p0 : Int32) (p1 : Int32) (hc : c0 ≤ 40) : Met l yX6_set wsX6_set rm_c_X6_set_n (pc_ D cI cJ cZ [.ref x0, .int p0, .int p1] [(x0, .inr (6, [.ref h4, .ref h3, .ref h2, .ref h1, .ref hB, .ref h5])), (h3, .inr (3, [.ref b1, .ref b2, .int pt, .int (nI c0), .int (-1 : Int32)]))]) (va_Qi (fun (r : Int32) (_ : Unit) => r = -1) (fun _ _ => True) aN) 0 0 aN := by
  refine Met.ofW (cc := cX6_set) (maxL := 3) (ret := (some .int)) (by decide) rfl ?_
  intro p e s m args below meth c s₁ B hml hv
  obtain ⟨rfl, hP, hKN⟩ := hv
  have hK := hKN.1
  have hx := B.exec
  have hb := B.bytes
  have hr := B.returns
  have hts := atoms_spec (ws := wsX6_set) B.pre
  have hown : s.vm.findClass RX6 = some m.cls := findClass_of_methodNamed B.named
  have hlocks := B.notSynchronized
  have hiX6 : ∀ w ∈ wsX60, w ∈ wsX6_set := by decide +kernel
  have hf19 := hts (.fieldLink RX6 19 "LookBench" "rules" "LLookBench$Rules;") (by decide +kernel)
  have hS : va_S aN s.heap s.heap [] := va_S.rf
  have hl := lv_entry ([.ref x0, .int p0, .int p1]) (n := 3) (Nat.le_of_ble_eq_true rfl)
  rw [lg_entry_eq]
  generalize (lg_sl ([.ref x0, .int p0, .int p1]) ++ List.replicate (3 - (lg_sl ([.ref x0, .int p0, .int p1])).length) Slot.unset).toArray = ls at hl ⊢
  have hl : lv_has ls 3 [(0, .ref x0), (1, .int p0), (2, .int p1)] := hl
  generalize hQ : MQ below _ _ s _ _ _ = Q
  obtain ⟨H, hH⟩ : ∃ z, z = s.heap := ⟨_, rfl⟩
  have hP : va_P D vwCl [(x0, .inr (6, [.ref h4, .ref h3, .ref h2, .ref h1, .ref hB, .ref h5])), (h3, .inr (3, [.ref b1, .ref b2, .int pt, .int (nI c0), .int (-1 : Int32)]))] H := by rw [hH]; exact hP
  have hS : va_S aN s.heap H [] := by rw [hH]; exact hS
  refine m_heap hH ?_
  clear hH
  refine lv_iload_n hx hb dX6_set_0 rfl (lv_at hl 1 rfl) ?_
  refine lv_if_lt (tgt := 23) hx hb dX6_set_1 (by decide) (fun c1 => ?_) (fun c1 => ?_)
  · skip
    have d1 := c1
    rw [i_lt, i_z] at d1
    refine lv_iconst (v := (-1 : Int32)) hx hb dX6_set_23 (by decide) ?_
    rw [← hQ]
    exact W.iret (v := (-1 : Int32)) hx hb hr (fun tS htS hWS => ⟨⟨(-1 : Int32), (), rfl, rfl, trivial⟩, hS.F htS⟩) hS.2.2 dX6_set_24
  · skip
    have d1 := c1
    rw [i_lt, i_z] at d1
    refine lv_iload_n hx hb dX6_set_4 rfl (lv_at hl 1 rfl) ?_
    refine lv_iconst (v := nI 1) hx hb dX6_set_5 (by decide) ?_
    refine lv_icmp_gt (tgt := 23) hx hb dX6_set_6 (by decide) (fun c2 => ?_) (fun c2 => ?_)
    · skip
      have d2 := c2
      rw [i_lt, nI_toInt (n := 1) (by omega)] at d2
      refine lv_iconst (v := (-1 : Int32)) hx hb dX6_set_23 (by decide) ?_
      rw [← hQ]
      exact W.iret (v := (-1 : Int32)) hx hb hr (fun tS htS hWS => ⟨⟨(-1 : Int32), (), rfl, rfl, trivial⟩, hS.F htS⟩) hS.2.2 dX6_set_24
    · skip
      have d2 := c2
      rw [i_lt, nI_toInt (n := 1) (by omega)] at d2
      refine lv_iload_n hx hb dX6_set_9 rfl (lv_at hl 2 rfl) ?_
      refine lv_if_lt (tgt := 23) hx hb dX6_set_10 (by decide) (fun c3 => ?_) (fun c3 => ?_)
      · skip
        have d3 := c3
        rw [i_lt, i_z] at d3
        refine lv_iconst (v := (-1 : Int32)) hx hb dX6_set_23 (by decide) ?_
        rw [← hQ]
        exact W.iret (v := (-1 : Int32)) hx hb hr (fun tS htS hWS => ⟨⟨(-1 : Int32), (), rfl, rfl, trivial⟩, hS.F htS⟩) hS.2.2 dX6_set_24
      · skip
        have d3 := c3
        rw [i_lt, i_z] at d3
        refine lv_aload_n hx hb dX6_set_13 rfl (lv_at hl 0 rfl) ?_
        refine va_get (D := D) (ci := 6) (v := .ref h3) (C := RX6) (T := TX6) (N := 6) hx hb hts hiX6 hown hK hP 0 rfl rfl 1 (by decide) hf19 (fun _ h9 => h9) rfl dX6_set_14 ?_
        refine pu_i (va_runV (As := []) (rest := []) ⟨hx, hb, hml, hown, hts⟩ (c_X3_hasSystem l D cI cJ cZ h3 b1 b2 c0 pt (-1 : Int32) (by first | assumption | omega)) (cwV 0 hts gX6_set_X3_hasSystem rfl rfl rfl (by decide +kernel) ⟨Nat.le_of_ble_eq_true rfl, Nat.le_of_ble_eq_true rfl⟩) ⟨pc_blind, va_recv hK hP (ci := 3) (q0 := 1) rfl rfl, fun U hU hW => ⟨rfl, by rw [hU]; exact hP.sub (ws' := [(h3, .inr (3, [.ref b1, .ref b2, .int pt, .int (nI c0), .int (-1 : Int32)]))]) [1] rfl, hKN.warm hW⟩⟩ rfl rfl hl.1 rfl (lv_room (Nat.le_of_ble_eq_true rfl)) dX6_set_17 ⟨Nat.le_of_ble_eq_true rfl, Nat.le_of_ble_eq_true rfl⟩) hS hP (fun r4 H locs w4r hP hS => ?_)
        have w4 : B01 r4 (0 ≤ (-1 : Int32).toInt ∧ (-1 : Int32).toInt < c0) := w4r
        clear w4r
        rcases w4 with ⟨rfl, w4⟩ | ⟨rfl, w4⟩
        · exact absurd w4 (by rw [show ((-1 : Int32)).toInt = -1 by decide]; omega)
        · skip
          refine lv_if_ne (tgt := 25) hx hb dX6_set_20 (by decide) (fun c5 => ?_) (fun c5 => ?_)
          · exact absurd c5 (by first | decide | exact nz_lt (by omega) | exact fun h => h (nz_ge (by omega)))
          · skip
            refine lv_iconst (v := (-1 : Int32)) hx hb dX6_set_23 (by decide) ?_
            rw [← hQ]
            exact W.iret (v := (-1 : Int32)) hx hb hr (fun tS htS hWS => ⟨⟨(-1 : Int32), (), rfl, rfl, trivial⟩, hS.F htS⟩) hS.2.2 dX6_set_24
def rm_c_X6_sure_n : Room := { frames := 2, cells := 0, slots := 0, locals := 41 }
set_option maxHeartbeats 400000 in
set_option maxRecDepth 100000 in
theorem c_X6_sure_n (l : Launch) (D : va_G) (cI cJ cZ : ClassId) (x0 : Nat) (h4 : Nat) (h3 : Nat) (h2 : Nat) (h1 : Nat) (hB : Nat) (h5 : Nat) (b1 : Nat) (b2 : Nat) (c0 : Nat) (pt : Int32) (hc : c0 ≤ 40) : Met l yX6_sure wsX6_sure rm_c_X6_sure_n (pc_ D cI cJ cZ [.ref x0] [(x0, .inr (6, [.ref h4, .ref h3, .ref h2, .ref h1, .ref hB, .ref h5])), (h3, .inr (3, [.ref b1, .ref b2, .int pt, .int (nI c0), .int (-1 : Int32)]))]) (va_Qi (fun (r : Int32) (_ : Unit) => r = -2) (fun _ _ => True) aN) 0 0 aN := by
  refine Met.ofW (cc := cX6_sure) (maxL := 1) (ret := (some .int)) (by decide) rfl ?_
  intro p e s m args below meth c s₁ B hml hv
  obtain ⟨rfl, hP, hKN⟩ := hv
  have hK := hKN.1
  have hx := B.exec
  have hb := B.bytes
  have hr := B.returns
  have hts := atoms_spec (ws := wsX6_sure) B.pre
  have hown : s.vm.findClass RX6 = some m.cls := findClass_of_methodNamed B.named
  have hlocks := B.notSynchronized
  have hiX6 : ∀ w ∈ wsX60, w ∈ wsX6_sure := by decide +kernel
  have hf19 := hts (.fieldLink RX6 19 "LookBench" "rules" "LLookBench$Rules;") (by decide +kernel)
  have hS : va_S aN s.heap s.heap [] := va_S.rf
  have hl := lv_entry ([.ref x0]) (n := 1) (Nat.le_of_ble_eq_true rfl)
  rw [lg_entry_eq]
  generalize (lg_sl ([.ref x0]) ++ List.replicate (1 - (lg_sl ([.ref x0])).length) Slot.unset).toArray = ls at hl ⊢
  have hl : lv_has ls 1 [(0, .ref x0)] := hl
  generalize hQ : MQ below _ _ s _ _ _ = Q
  obtain ⟨H, hH⟩ : ∃ z, z = s.heap := ⟨_, rfl⟩
  have hP : va_P D vwCl [(x0, .inr (6, [.ref h4, .ref h3, .ref h2, .ref h1, .ref hB, .ref h5])), (h3, .inr (3, [.ref b1, .ref b2, .int pt, .int (nI c0), .int (-1 : Int32)]))] H := by rw [hH]; exact hP
  have hS : va_S aN s.heap H [] := by rw [hH]; exact hS
  refine m_heap hH ?_
  clear hH
  refine lv_aload_n hx hb dX6_sure_0 rfl (lv_at hl 0 rfl) ?_
  refine va_get (D := D) (ci := 6) (v := .ref h3) (C := RX6) (T := TX6) (N := 6) hx hb hts hiX6 hown hK hP 0 rfl rfl 1 (by decide) hf19 (fun _ h9 => h9) rfl dX6_sure_1 ?_
  refine pu_i (va_runV (As := []) (rest := []) ⟨hx, hb, hml, hown, hts⟩ (c_X3_hasSystem l D cI cJ cZ h3 b1 b2 c0 pt (-1 : Int32) (by first | assumption | omega)) (cwV 0 hts gX6_sure_X3_hasSystem rfl rfl rfl (by decide +kernel) ⟨Nat.le_of_ble_eq_true rfl, Nat.le_of_ble_eq_true rfl⟩) ⟨pc_blind, va_recv hK hP (ci := 3) (q0 := 1) rfl rfl, fun U hU hW => ⟨rfl, by rw [hU]; exact hP.sub (ws' := [(h3, .inr (3, [.ref b1, .ref b2, .int pt, .int (nI c0), .int (-1 : Int32)]))]) [1] rfl, hKN.warm hW⟩⟩ rfl rfl hl.1 rfl (lv_room (Nat.le_of_ble_eq_true rfl)) dX6_sure_4 ⟨Nat.le_of_ble_eq_true rfl, Nat.le_of_ble_eq_true rfl⟩) hS hP (fun r1 H locs w1r hP hS => ?_)
  have w1 : B01 r1 (0 ≤ (-1 : Int32).toInt ∧ (-1 : Int32).toInt < c0) := w1r
  clear w1r
  rcases w1 with ⟨rfl, w1⟩ | ⟨rfl, w1⟩
  · exact absurd w1 (by rw [show ((-1 : Int32)).toInt = -1 by decide]; omega)
  · skip
    refine lv_if_eq (tgt := 34) hx hb dX6_sure_7 (by decide) (fun c2 => ?_) (fun c2 => ?_)
    · skip
      refine lv_bipush (v := (-2 : Int32)) hx hb dX6_sure_34 (by decide) ?_
      rw [← hQ]
      exact W.iret (v := (-2 : Int32)) hx hb hr (fun tS htS hWS => ⟨⟨(-2 : Int32), (), rfl, rfl, trivial⟩, hS.F htS⟩) hS.2.2 dX6_sure_36
    · exact absurd c2 (by first | decide | exact nz_lt (by omega) | exact fun h => h (nz_ge (by omega)))
def rm_c_X6_run_n : Room := { frames := 2, cells := 0, slots := 0, locals := 41 }
set_option maxHeartbeats 400000 in
set_option maxRecDepth 100000 in
theorem c_X6_run_n (l : Launch) (D : va_G) (cI cJ cZ : ClassId) (x0 : Nat) (h4 : Nat) (h3 : Nat) (h2 : Nat) (h1 : Nat) (hB : Nat) (h5 : Nat) (b1 : Nat) (b2 : Nat) (c0 : Nat) (pt : Int32) (p0 : Int32) (p1 : Int32) (hc : c0 ≤ 40) : Met l yX6_run wsX6_run rm_c_X6_run_n (pc_ D cI cJ cZ [.ref x0, .int p0, .int p1] [(x0, .inr (6, [.ref h4, .ref h3, .ref h2, .ref h1, .ref hB, .ref h5])), (h3, .inr (3, [.ref b1, .ref b2, .int pt, .int (nI c0), .int (-1 : Int32)]))]) (va_Qi (fun (r : Int32) (_ : Unit) => r = -1) (fun _ _ => True) aN) 0 0 aN := by
  refine Met.ofW (cc := cX6_run) (maxL := 3) (ret := (some .int)) (by decide) rfl ?_
  intro p e s m args below meth c s₁ B hml hv
  obtain ⟨rfl, hP, hKN⟩ := hv
  have hK := hKN.1
  have hx := B.exec
  have hb := B.bytes
  have hr := B.returns
  have hts := atoms_spec (ws := wsX6_run) B.pre
  have hown : s.vm.findClass RX6 = some m.cls := findClass_of_methodNamed B.named
  have hlocks := B.notSynchronized
  have hiX6 : ∀ w ∈ wsX60, w ∈ wsX6_run := by decide +kernel
  have hf19 := hts (.fieldLink RX6 19 "LookBench" "rules" "LLookBench$Rules;") (by decide +kernel)
  have hS : va_S aN s.heap s.heap [] := va_S.rf
  have hl := lv_entry ([.ref x0, .int p0, .int p1]) (n := 3) (Nat.le_of_ble_eq_true rfl)
  rw [lg_entry_eq]
  generalize (lg_sl ([.ref x0, .int p0, .int p1]) ++ List.replicate (3 - (lg_sl ([.ref x0, .int p0, .int p1])).length) Slot.unset).toArray = ls at hl ⊢
  have hl : lv_has ls 3 [(0, .ref x0), (1, .int p0), (2, .int p1)] := hl
  generalize hQ : MQ below _ _ s _ _ _ = Q
  obtain ⟨H, hH⟩ : ∃ z, z = s.heap := ⟨_, rfl⟩
  have hP : va_P D vwCl [(x0, .inr (6, [.ref h4, .ref h3, .ref h2, .ref h1, .ref hB, .ref h5])), (h3, .inr (3, [.ref b1, .ref b2, .int pt, .int (nI c0), .int (-1 : Int32)]))] H := by rw [hH]; exact hP
  have hS : va_S aN s.heap H [] := by rw [hH]; exact hS
  refine m_heap hH ?_
  clear hH
  refine lv_iload_n hx hb dX6_run_0 rfl (lv_at hl 1 rfl) ?_
  refine lv_if_lt (tgt := 19) hx hb dX6_run_1 (by decide) (fun c1 => ?_) (fun c1 => ?_)
  · skip
    have d1 := c1
    rw [i_lt, i_z] at d1
    refine lv_iconst (v := (-1 : Int32)) hx hb dX6_run_19 (by decide) ?_
    rw [← hQ]
    exact W.iret (v := (-1 : Int32)) hx hb hr (fun tS htS hWS => ⟨⟨(-1 : Int32), (), rfl, rfl, trivial⟩, hS.F htS⟩) hS.2.2 dX6_run_20
  · skip
    have d1 := c1
    rw [i_lt, i_z] at d1
    refine lv_iload_n hx hb dX6_run_4 rfl (lv_at hl 1 rfl) ?_
    refine lv_iconst (v := nI 2) hx hb dX6_run_5 (by decide) ?_
    refine lv_icmp_gt (tgt := 19) hx hb dX6_run_6 (by decide) (fun c2 => ?_) (fun c2 => ?_)
    · skip
      have d2 := c2
      rw [i_lt, nI_toInt (n := 2) (by omega)] at d2
      refine lv_iconst (v := (-1 : Int32)) hx hb dX6_run_19 (by decide) ?_
      rw [← hQ]
      exact W.iret (v := (-1 : Int32)) hx hb hr (fun tS htS hWS => ⟨⟨(-1 : Int32), (), rfl, rfl, trivial⟩, hS.F htS⟩) hS.2.2 dX6_run_20
    · skip
      have d2 := c2
      rw [i_lt, nI_toInt (n := 2) (by omega)] at d2
      refine lv_aload_n hx hb dX6_run_9 rfl (lv_at hl 0 rfl) ?_
      refine va_get (D := D) (ci := 6) (v := .ref h3) (C := RX6) (T := TX6) (N := 6) hx hb hts hiX6 hown hK hP 0 rfl rfl 1 (by decide) hf19 (fun _ h9 => h9) rfl dX6_run_10 ?_
      refine pu_i (va_runV (As := []) (rest := []) ⟨hx, hb, hml, hown, hts⟩ (c_X3_hasSystem l D cI cJ cZ h3 b1 b2 c0 pt (-1 : Int32) (by first | assumption | omega)) (cwV 0 hts gX6_run_X3_hasSystem rfl rfl rfl (by decide +kernel) ⟨Nat.le_of_ble_eq_true rfl, Nat.le_of_ble_eq_true rfl⟩) ⟨pc_blind, va_recv hK hP (ci := 3) (q0 := 1) rfl rfl, fun U hU hW => ⟨rfl, by rw [hU]; exact hP.sub (ws' := [(h3, .inr (3, [.ref b1, .ref b2, .int pt, .int (nI c0), .int (-1 : Int32)]))]) [1] rfl, hKN.warm hW⟩⟩ rfl rfl hl.1 rfl (lv_room (Nat.le_of_ble_eq_true rfl)) dX6_run_13 ⟨Nat.le_of_ble_eq_true rfl, Nat.le_of_ble_eq_true rfl⟩) hS hP (fun r3 H locs w3r hP hS => ?_)
      have w3 : B01 r3 (0 ≤ (-1 : Int32).toInt ∧ (-1 : Int32).toInt < c0) := w3r
      clear w3r
      rcases w3 with ⟨rfl, w3⟩ | ⟨rfl, w3⟩
      · exact absurd w3 (by rw [show ((-1 : Int32)).toInt = -1 by decide]; omega)
      · skip
        refine lv_if_ne (tgt := 21) hx hb dX6_run_16 (by decide) (fun c4 => ?_) (fun c4 => ?_)
        · exact absurd c4 (by first | decide | exact nz_lt (by omega) | exact fun h => h (nz_ge (by omega)))
        · skip
          refine lv_iconst (v := (-1 : Int32)) hx hb dX6_run_19 (by decide) ?_
          rw [← hQ]
          exact W.iret (v := (-1 : Int32)) hx hb hr (fun tS htS hWS => ⟨⟨(-1 : Int32), (), rfl, rfl, trivial⟩, hS.F htS⟩) hS.2.2 dX6_run_20
def rm_c_X6_told_n : Room := { frames := 2, cells := 0, slots := 0, locals := 41 }
set_option maxHeartbeats 400000 in
set_option maxRecDepth 100000 in
theorem c_X6_told_n (l : Launch) (D : va_G) (cI cJ cZ : ClassId) (x0 : Nat) (h4 : Nat) (h3 : Nat) (h2 : Nat) (h1 : Nat) (hB : Nat) (h5 : Nat) (b1 : Nat) (b2 : Nat) (c0 : Nat) (pt : Int32) (a1 : Nat) (a2 : Nat) (a3 : Nat) (n : Nat) (sn : Int32) (sg : Int32) (wh : Int32) (fg : Nat → Int32) (fb : Nat → Int32) (hc : c0 ≤ 40) (hn : n ≤ 9) : Met l yX6_told wsX6_told rm_c_X6_told_n (pc_ D cI cJ cZ [.ref x0, .int wh] [(x0, .inr (6, [.ref h4, .ref h3, .ref h2, .ref h1, .ref hB, .ref h5])), (h4, .inr (4, [.ref a1, .ref a2, .ref a3, .int (nI n), .int sn, .int sg])), (a1, .inl (cI, 9, .inl fg)), (a2, .inl (cI, 9, .inl fb)), (h3, .inr (3, [.ref b1, .ref b2, .int pt, .int (nI c0), .int (-1 : Int32)]))]) (va_Ql (fun (r : Int64) (_ : Unit) => r = if wh = 0 then lf fg fb sn sg n else -2) (fun _ _ => True) aN) 0 0 aN := by
  refine Met.ofW (cc := cX6_told) (maxL := 4) (ret := (some .long)) (by decide) rfl ?_
  intro p e s m args below meth c s₁ B hml hv
  obtain ⟨rfl, hP, hKN⟩ := hv
  have hK := hKN.1
  have hx := B.exec
  have hb := B.bytes
  have hr := B.returns
  have hts := atoms_spec (ws := wsX6_told) B.pre
  have hown : s.vm.findClass RX6 = some m.cls := findClass_of_methodNamed B.named
  have hlocks := B.notSynchronized
  have hiX4 : ∀ w ∈ wsX40, w ∈ wsX6_told := by decide +kernel
  have hiX6 : ∀ w ∈ wsX60, w ∈ wsX6_told := by decide +kernel
  have hf10 := hts (.fieldLink RX6 10 "LookBench" "shelf" "LLookBench$Shelf;") (by decide +kernel)
  have hf19 := hts (.fieldLink RX6 19 "LookBench" "rules" "LLookBench$Rules;") (by decide +kernel)
  have hf141 := va_Nw.use (A := [.ref x0, .int wh].toArray) rfl (hKN.2 (.fieldLinkNest RX6 141 RX4 "seenGood" "I" RX6) (by decide +kernel))
  have hf151 := va_Nw.use (A := [.ref x0, .int wh].toArray) rfl (hKN.2 (.fieldLinkNest RX6 151 RX4 "seen" "I" RX6) (by decide +kernel))
  have hS : va_S aN s.heap s.heap [] := va_S.rf
  have hl := lv_entry ([.ref x0, .int wh]) (n := 4) (Nat.le_of_ble_eq_true rfl)
  rw [lg_entry_eq]
  generalize (lg_sl ([.ref x0, .int wh]) ++ List.replicate (4 - (lg_sl ([.ref x0, .int wh])).length) Slot.unset).toArray = ls at hl ⊢
  have hl : lv_has ls 4 [(0, .ref x0), (1, .int wh)] := hl
  generalize hQ : MQ below _ _ s _ _ _ = Q
  obtain ⟨H, hH⟩ : ∃ z, z = s.heap := ⟨_, rfl⟩
  have hP : va_P D vwCl [(x0, .inr (6, [.ref h4, .ref h3, .ref h2, .ref h1, .ref hB, .ref h5])), (h4, .inr (4, [.ref a1, .ref a2, .ref a3, .int (nI n), .int sn, .int sg])), (a1, .inl (cI, 9, .inl fg)), (a2, .inl (cI, 9, .inl fb)), (h3, .inr (3, [.ref b1, .ref b2, .int pt, .int (nI c0), .int (-1 : Int32)]))] H := by rw [hH]; exact hP
  have hS : va_S aN s.heap H [] := by rw [hH]; exact hS
  refine m_heap hH ?_
  clear hH
  refine lv_aload_n hx hb dX6_told_0 rfl (lv_at hl 0 rfl) ?_
  refine va_get (D := D) (ci := 6) (v := .ref h4) (C := RX6) (T := TX6) (N := 6) hx hb hts hiX6 hown hK hP 0 rfl rfl 0 (by decide) hf10 (fun _ h9 => h9) rfl dX6_told_1 ?_
  refine va_getN (D := D) (ci := 4) (v := .int sn) (C := RX4) (T := TX4) (N := 6) hx hb hts hiX4 hown hK hP 1 rfl rfl 4 (by decide) hf151 (fun _ h9 => h9) rfl dX6_told_4 ?_
  refine lv_istore_n (lv' := [(2, .int sn), (0, .ref x0), (1, .int wh)]) hx hb dX6_told_7 rfl hl (by decide) rfl (fun ls hl => ?_)
  refine lv_aload_n hx hb dX6_told_8 rfl (lv_at hl 1 rfl) ?_
  refine va_get (D := D) (ci := 6) (v := .ref h4) (C := RX6) (T := TX6) (N := 6) hx hb hts hiX6 hown hK hP 0 rfl rfl 0 (by decide) hf10 (fun _ h9 => h9) rfl dX6_told_9 ?_
  refine va_getN (D := D) (ci := 4) (v := .int sg) (C := RX4) (T := TX4) (N := 6) hx hb hts hiX4 hown hK hP 1 rfl rfl 5 (by decide) hf141 (fun _ h9 => h9) rfl dX6_told_12 ?_
  refine lv_istore_n (lv' := [(3, .int sg), (2, .int sn), (0, .ref x0), (1, .int wh)]) hx hb dX6_told_15 rfl hl (by decide) rfl (fun ls hl => ?_)
  refine lv_iload_n hx hb dX6_told_16 rfl (lv_at hl 3 rfl) ?_
  refine lv_if_ne (tgt := 30) hx hb dX6_told_17 (by decide) (fun c1 => ?_) (fun c1 => ?_)
  · skip
    refine lv_aload_n hx hb dX6_told_30 rfl (lv_at hl 2 rfl) ?_
    refine va_get (D := D) (ci := 6) (v := .ref h3) (C := RX6) (T := TX6) (N := 6) hx hb hts hiX6 hown hK hP 0 rfl rfl 1 (by decide) hf19 (fun _ h9 => h9) rfl dX6_told_31 ?_
    refine pu_i (va_runV (As := []) (rest := []) ⟨hx, hb, hml, hown, hts⟩ (c_X3_hasSystem l D cI cJ cZ h3 b1 b2 c0 pt (-1 : Int32) (by first | assumption | omega)) (cwV 0 hts gX6_told_X3_hasSystem rfl rfl rfl (by decide +kernel) ⟨Nat.le_of_ble_eq_true rfl, Nat.le_of_ble_eq_true rfl⟩) ⟨pc_blind, va_recv hK hP (ci := 3) (q0 := 4) rfl rfl, fun U hU hW => ⟨rfl, by rw [hU]; exact hP.sub (ws' := [(h3, .inr (3, [.ref b1, .ref b2, .int pt, .int (nI c0), .int (-1 : Int32)]))]) [4] rfl, hKN.warm hW⟩⟩ rfl rfl hl.1 rfl (lv_room (Nat.le_of_ble_eq_true rfl)) dX6_told_34 ⟨Nat.le_of_ble_eq_true rfl, Nat.le_of_ble_eq_true rfl⟩) hS hP (fun r2 H locs w2r hP hS => ?_)
    have w2 : B01 r2 (0 ≤ (-1 : Int32).toInt ∧ (-1 : Int32).toInt < c0) := w2r
    clear w2r
    rcases w2 with ⟨rfl, w2⟩ | ⟨rfl, w2⟩
    · exact absurd w2 (by rw [show ((-1 : Int32)).toInt = -1 by decide]; omega)
    · skip
      refine lv_if_ne (tgt := 44) hx hb dX6_told_37 (by decide) (fun c3 => ?_) (fun c3 => ?_)
      · exact absurd c3 (by first | decide | exact nz_lt (by omega) | exact fun h => h (nz_ge (by omega)))
      · skip
        refine lv_ldc2 (v := (-2 : Int64)) hx hb hown (hts (.constantLong RX6 158 (-2 : Int64)) (by decide +kernel)) dX6_told_40 ?_
        rw [← hQ]
        exact W.lret (v := (-2 : Int64)) hx hb hr (fun tS htS hWS => ⟨⟨(-2 : Int64), (), rfl, by rw [if_neg c1], trivial⟩, hS.F htS⟩) hS.2.2 dX6_told_43
  · skip
    refine lv_aload_n hx hb dX6_told_20 rfl (lv_at hl 2 rfl) ?_
    refine va_get (D := D) (ci := 6) (v := .ref h4) (C := RX6) (T := TX6) (N := 6) hx hb hts hiX6 hown hK hP 0 rfl rfl 0 (by decide) hf10 (fun _ h9 => h9) rfl dX6_told_21 ?_
    refine lv_iload_n hx hb dX6_told_24 rfl (lv_at hl 1 rfl) ?_
    refine lv_iload_n hx hb dX6_told_25 rfl (lv_at hl 0 rfl) ?_
    refine pu_l (va_runV (As := [.int sn, .int sg]) (rest := []) ⟨hx, hb, hml, hown, hts⟩ (c_X4_left l D cI cJ cZ h4 a1 a2 a3 n sn sg sn sg fg fb (by first | assumption | omega)) (cwV 2 hts gX6_told_X4_left rfl rfl rfl (by decide +kernel) ⟨Nat.le_of_ble_eq_true rfl, Nat.le_of_ble_eq_true rfl⟩) ⟨pc_blind, va_recv hK hP (ci := 4) (q0 := 1) rfl rfl, fun U hU hW => ⟨rfl, by rw [hU]; exact hP.sub (ws' := [(h4, .inr (4, [.ref a1, .ref a2, .ref a3, .int (nI n), .int sn, .int sg])), (a1, .inl (cI, 9, .inl fg)), (a2, .inl (cI, 9, .inl fb))]) [1, 2, 3] rfl, hKN.warm hW⟩⟩ rfl rfl hl.1 rfl (lv_room (Nat.le_of_ble_eq_true rfl)) dX6_told_26 ⟨Nat.le_of_ble_eq_true rfl, Nat.le_of_ble_eq_true rfl⟩) hS hP (fun r4 H locs w4r hP hS => ?_)
    have w4 : r4 = lf fg fb sn sg n := w4r
    clear w4r
    rw [← hQ]
    exact W.lret (v := r4) hx hb hr (fun tS htS hWS => ⟨⟨r4, (), rfl, by rw [if_pos c1]; assumption, trivial⟩, hS.F htS⟩) hS.2.2 dX6_told_29
def rm_c_X6_of_n : Room := { frames := 2, cells := 0, slots := 0, locals := 41 }
set_option maxHeartbeats 400000 in
set_option maxRecDepth 100000 in
theorem c_X6_of_n (l : Launch) (D : va_G) (cI cJ cZ : ClassId) (x0 : Nat) (h4 : Nat) (h3 : Nat) (h2 : Nat) (h1 : Nat) (hB : Nat) (h5 : Nat) (b1 : Nat) (b2 : Nat) (c0 : Nat) (pt : Int32) (a1 : Nat) (a2 : Nat) (a3 : Nat) (n : Nat) (sn : Int32) (sg : Int32) (p0 : Int32) (wh : Int32) (hc : c0 ≤ 40) (hn : n ≤ 9) : Met l yX6_of wsX6_of rm_c_X6_of_n (pc_ D cI cJ cZ [.ref x0, .int p0, .int wh] [(x0, .inr (6, [.ref h4, .ref h3, .ref h2, .ref h1, .ref hB, .ref h5])), (h4, .inr (4, [.ref a1, .ref a2, .ref a3, .int (nI n), .int sn, .int sg])), (h3, .inr (3, [.ref b1, .ref b2, .int pt, .int (nI c0), .int (-1 : Int32)]))]) (va_Ql (fun (r : Int64) (_ : Unit) => r = -2) (fun _ _ => True) aN) 0 0 aN := by
  refine Met.ofW (cc := cX6_of) (maxL := 3) (ret := (some .long)) (by decide) rfl ?_
  intro p e s m args below meth c s₁ B hml hv
  obtain ⟨rfl, hP, hKN⟩ := hv
  have hK := hKN.1
  have hx := B.exec
  have hb := B.bytes
  have hr := B.returns
  have hts := atoms_spec (ws := wsX6_of) B.pre
  have hown : s.vm.findClass RX6 = some m.cls := findClass_of_methodNamed B.named
  have hlocks := B.notSynchronized
  have hiX6 : ∀ w ∈ wsX60, w ∈ wsX6_of := by decide +kernel
  have hf10 := hts (.fieldLink RX6 10 "LookBench" "shelf" "LLookBench$Shelf;") (by decide +kernel)
  have hf19 := hts (.fieldLink RX6 19 "LookBench" "rules" "LLookBench$Rules;") (by decide +kernel)
  have hS : va_S aN s.heap s.heap [] := va_S.rf
  have hl := lv_entry ([.ref x0, .int p0, .int wh]) (n := 3) (Nat.le_of_ble_eq_true rfl)
  rw [lg_entry_eq]
  generalize (lg_sl ([.ref x0, .int p0, .int wh]) ++ List.replicate (3 - (lg_sl ([.ref x0, .int p0, .int wh])).length) Slot.unset).toArray = ls at hl ⊢
  have hl : lv_has ls 3 [(0, .ref x0), (1, .int p0), (2, .int wh)] := hl
  generalize hQ : MQ below _ _ s _ _ _ = Q
  obtain ⟨H, hH⟩ : ∃ z, z = s.heap := ⟨_, rfl⟩
  have hP : va_P D vwCl [(x0, .inr (6, [.ref h4, .ref h3, .ref h2, .ref h1, .ref hB, .ref h5])), (h4, .inr (4, [.ref a1, .ref a2, .ref a3, .int (nI n), .int sn, .int sg])), (h3, .inr (3, [.ref b1, .ref b2, .int pt, .int (nI c0), .int (-1 : Int32)]))] H := by rw [hH]; exact hP
  have hS : va_S aN s.heap H [] := by rw [hH]; exact hS
  refine m_heap hH ?_
  clear hH
  refine lv_aload_n hx hb dX6_of_0 rfl (lv_at hl 0 rfl) ?_
  refine va_get (D := D) (ci := 6) (v := .ref h4) (C := RX6) (T := TX6) (N := 6) hx hb hts hiX6 hown hK hP 0 rfl rfl 0 (by decide) hf10 (fun _ h9 => h9) rfl dX6_of_1 ?_
  refine lv_iload_n hx hb dX6_of_4 rfl (lv_at hl 1 rfl) ?_
  refine pu_i (va_runV (As := [.int p0]) (rest := []) ⟨hx, hb, hml, hown, hts⟩ (c_X4_has l D cI cJ cZ h4 a1 a2 a3 n sn sg p0 (by first | assumption | omega)) (cwV 1 hts gX6_of_X4_has rfl rfl rfl (by decide +kernel) ⟨Nat.le_of_ble_eq_true rfl, Nat.le_of_ble_eq_true rfl⟩) ⟨pc_blind, va_recv hK hP (ci := 4) (q0 := 1) rfl rfl, fun U hU hW => ⟨rfl, by rw [hU]; exact hP.sub (ws' := [(h4, .inr (4, [.ref a1, .ref a2, .ref a3, .int (nI n), .int sn, .int sg]))]) [1] rfl, hKN.warm hW⟩⟩ rfl rfl hl.1 rfl (lv_room (Nat.le_of_ble_eq_true rfl)) dX6_of_5 ⟨Nat.le_of_ble_eq_true rfl, Nat.le_of_ble_eq_true rfl⟩) hS hP (fun r1 H locs w1r hP hS => ?_)
  have w1 : B01 r1 (0 ≤ p0.toInt ∧ p0.toInt < n) := w1r
  clear w1r
  rcases w1 with ⟨rfl, w1⟩ | ⟨rfl, w1⟩
  · skip
    obtain ⟨j9, hj9, rfl⟩ := m_nat w1
    have t9 : (nI j9).toInt = (j9 : Int) := nI_toInt (by omega)
    refine lv_if_eq (tgt := 33) hx hb dX6_of_8 (by decide) (fun c2 => ?_) (fun c2 => ?_)
    · exact absurd c2 (by first | decide | exact nz_lt (by omega) | exact fun h => h (nz_ge (by omega)))
    · skip
      refine lv_aload_n hx hb dX6_of_11 rfl (lv_at hl 0 rfl) ?_
      refine va_get (D := D) (ci := 6) (v := .ref h4) (C := RX6) (T := TX6) (N := 6) hx hb hts hiX6 hown hK hP 0 rfl rfl 0 (by decide) hf10 (fun _ h9 => h9) rfl dX6_of_12 ?_
      refine lv_iload_n hx hb dX6_of_15 rfl (lv_at hl 1 rfl) ?_
      refine pu_i (va_runV (As := [.int (nI j9)]) (rest := []) ⟨hx, hb, hml, hown, hts⟩ (c_X4_noted l D cI cJ cZ h4 a1 a2 a3 j9 (nI n) sn sg) (cwV 1 hts gX6_of_X4_noted rfl rfl rfl (by decide +kernel) ⟨Nat.le_of_ble_eq_true rfl, Nat.le_of_ble_eq_true rfl⟩) ⟨pc_blind, va_recv hK hP (ci := 4) (q0 := 1) rfl rfl, fun U hU hW => ⟨rfl, by rw [hU]; exact hP.sub (ws' := [(h4, .inr (4, [.ref a1, .ref a2, .ref a3, .int (nI n), .int sn, .int sg]))]) [1] rfl, hKN.warm hW⟩⟩ rfl rfl hl.1 rfl (lv_room (Nat.le_of_ble_eq_true rfl)) dX6_of_16 ⟨Nat.le_of_ble_eq_true rfl, Nat.le_of_ble_eq_true rfl⟩) hS hP (fun r3 H locs w3r hP hS => ?_)
      have w3 : r3 = if sb sn j9 = 0 then -1 else nI (sb sg j9) := w3r
      clear w3r
      refine lv_iconst (v := (-1 : Int32)) hx hb dX6_of_19 (by decide) ?_
      refine lv_icmp_ne (tgt := 33) hx hb dX6_of_20 (by decide) (fun c4 => ?_) (fun c4 => ?_)
      · skip
        refine lv_ldc2 (v := (-2 : Int64)) hx hb hown (hts (.constantLong RX6 158 (-2 : Int64)) (by decide +kernel)) dX6_of_33 ?_
        rw [← hQ]
        exact W.lret (v := (-2 : Int64)) hx hb hr (fun tS htS hWS => ⟨⟨(-2 : Int64), (), rfl, rfl, trivial⟩, hS.F htS⟩) hS.2.2 dX6_of_36
      · skip
        refine lv_aload_n hx hb dX6_of_23 rfl (lv_at hl 0 rfl) ?_
        refine va_get (D := D) (ci := 6) (v := .ref h3) (C := RX6) (T := TX6) (N := 6) hx hb hts hiX6 hown hK hP 0 rfl rfl 1 (by decide) hf19 (fun _ h9 => h9) rfl dX6_of_24 ?_
        refine pu_i (va_runV (As := []) (rest := []) ⟨hx, hb, hml, hown, hts⟩ (c_X3_hasSystem l D cI cJ cZ h3 b1 b2 c0 pt (-1 : Int32) (by first | assumption | omega)) (cwV 0 hts gX6_of_X3_hasSystem rfl rfl rfl (by decide +kernel) ⟨Nat.le_of_ble_eq_true rfl, Nat.le_of_ble_eq_true rfl⟩) ⟨pc_blind, va_recv hK hP (ci := 3) (q0 := 2) rfl rfl, fun U hU hW => ⟨rfl, by rw [hU]; exact hP.sub (ws' := [(h3, .inr (3, [.ref b1, .ref b2, .int pt, .int (nI c0), .int (-1 : Int32)]))]) [2] rfl, hKN.warm hW⟩⟩ rfl rfl hl.1 rfl (lv_room (Nat.le_of_ble_eq_true rfl)) dX6_of_27 ⟨Nat.le_of_ble_eq_true rfl, Nat.le_of_ble_eq_true rfl⟩) hS hP (fun r5 H locs w5r hP hS => ?_)
        have w5 : B01 r5 (0 ≤ (-1 : Int32).toInt ∧ (-1 : Int32).toInt < c0) := w5r
        clear w5r
        rcases w5 with ⟨rfl, w5⟩ | ⟨rfl, w5⟩
        · exact absurd w5 (by rw [show ((-1 : Int32)).toInt = -1 by decide]; omega)
        · skip
          refine lv_if_ne (tgt := 37) hx hb dX6_of_30 (by decide) (fun c6 => ?_) (fun c6 => ?_)
          · exact absurd c6 (by first | decide | exact nz_lt (by omega) | exact fun h => h (nz_ge (by omega)))
          · skip
            refine lv_ldc2 (v := (-2 : Int64)) hx hb hown (hts (.constantLong RX6 158 (-2 : Int64)) (by decide +kernel)) dX6_of_33 ?_
            rw [← hQ]
            exact W.lret (v := (-2 : Int64)) hx hb hr (fun tS htS hWS => ⟨⟨(-2 : Int64), (), rfl, rfl, trivial⟩, hS.F htS⟩) hS.2.2 dX6_of_36
  · skip
    refine lv_if_eq (tgt := 33) hx hb dX6_of_8 (by decide) (fun c7 => ?_) (fun c7 => ?_)
    · skip
      refine lv_ldc2 (v := (-2 : Int64)) hx hb hown (hts (.constantLong RX6 158 (-2 : Int64)) (by decide +kernel)) dX6_of_33 ?_
      rw [← hQ]
      exact W.lret (v := (-2 : Int64)) hx hb hr (fun tS htS hWS => ⟨⟨(-2 : Int64), (), rfl, rfl, trivial⟩, hS.F htS⟩) hS.2.2 dX6_of_36
    · exact absurd c7 (by first | decide | exact nz_lt (by omega) | exact fun h => h (nz_ge (by omega)))
