
/-! making methods that read Plans.THREES -/
def pnT_ (D : va_G) (cI cJ cZ : ClassId) (z3 t3 sz : Nat) (av : List Value) (ws : va_W) : Array Value → State → Prop := va_Pc av (fun U => U.heap.size = sz ∧ va_P D vwCl ws U.heap ∧ KN D cI cJ cZ U ∧ T3 z3 t3 U U.heap ∧ va_D (fun _ => True) ws)
theorem pnT_blind {D : va_G} {cI cJ cZ : ClassId} {z3 t3 sz : Nat} {av : List Value} {ws : va_W} : FrameBlind (pnT_ D cI cJ cZ z3 t3 sz av ws) := fun a U g mk h => ⟨h.1, h.2.1, h.2.2.1, KN.same (u := U) (U := U.calling g mk a) rfl h.2.2.2.1, T3.moved (u := U) (U := U.calling g mk a) (Vm.Alike.refl U.vm) h.2.2.2.2.1, h.2.2.2.2.2⟩
theorem nz3.A {z3 t3 : Nat} {ws : va_W} {U : State} {H : Heap} (h : nz3 z3 t3 (ws.map Prod.fst)) (hT : T3 z3 t3 U H) : ¬ va_A ws H.size z3 ∧ ¬ va_A ws H.size t3 := by
  refine ⟨fun g => ?_, fun g => ?_⟩
  · rcases g with ⟨k, e, hk⟩ | g
    · exact (h z3 (List.mem_map.mpr ⟨_, List.mem_of_getElem? hk, rfl⟩)).1 rfl
    · have := hT.2.2.1
      omega
  · rcases g with ⟨k, e, hk⟩ | g
    · exact (h t3 (List.mem_map.mpr ⟨_, List.mem_of_getElem? hk, rfl⟩)).2 rfl
    · have := hT.2.2.2
      omega
theorem nz3.D {z3 t3 : Nat} {A : Nat → Prop} {ws : va_W} (hD : va_D A ws) (hz : ¬ A z3) (ht : ¬ A t3) : nz3 z3 t3 (ws.map Prod.fst) := by
  intro q hq
  obtain ⟨x, hx, rfl⟩ := List.mem_map.mp hq
  obtain ⟨k, hk⟩ := List.mem_iff_getElem?.mp hx
  exact ⟨fun e => hz (e ▸ hD.2 k x hk), fun e => ht (e ▸ hD.2 k x hk)⟩
def pI : Nat → Int32
  | 0 => -1
  | k + 1 => nI k
theorem pI_sub : ∀ k : Nat, nI k - nI 1 = pI k
  | 0 => by decide
  | k + 1 => (pk_sub (a := k + 1) (b := 1) (by omega)).trans rfl
theorem m_3n {n : Nat} (h : n ≤ 9) : 3 ^ n ≤ 19683 := by
  have : 3 ^ n ≤ 3 ^ 9 := Nat.pow_le_pow_right (by decide) h
  omega
/-- whether the plans' rows are kept, and what was made -/
def FS (fr : Int32) (len n : Nat) (K : Prop) (uf : Int32) (ul : Nat) : Prop := ul ≤ 19683 ∧ (uf = 0 ∨ uf = nI 1 ∧ 3 ^ n ≤ ul) ∧ ((fr = 0 ∧ len < 3 ^ n ∧ K ∧ ul = 3 ^ n) ∨ (¬ (fr = 0 ∧ len < 3 ^ n ∧ K) ∧ ul = len))
theorem FS.mono {fr uf : Int32} {len n ul : Nat} {K : Prop} (hK : K) (h : FS fr len n True uf ul) : FS fr len n K uf ul := by
  refine ⟨h.1, h.2.1, ?_⟩
  rcases h.2.2 with ⟨a, b, _, d⟩ | ⟨a, b⟩
  · exact Or.inl ⟨a, b, hK, d⟩
  · exact Or.inr ⟨fun g => a ⟨g.1, g.2.1, trivial⟩, b⟩
theorem FS.no {fr : Int32} {len n : Nat} {K : Prop} (hK : ¬ K) (hfr : fr = 0 ∨ fr = nI 1 ∧ 3 ^ n ≤ len) (hl : len ≤ 19683) : FS fr len n K fr len := ⟨hl, hfr, Or.inr ⟨fun g => hK g.2.2, rfl⟩⟩
/-- not sure: neither good nor bad -/
def NV (fw : Nat → Int64) (y gd un : Nat) : Prop := ¬ isG fw y gd ∧ isG fw y (gd ||| un)
theorem VD.nv {r : Int32} {fw : Nat → Int64} {y gd un : Nat} (h : VD r fw y gd un) (e : r = -1) : NV fw y gd un := by
  rcases h with ⟨a, _⟩ | ⟨_, b, c⟩ | ⟨a, _⟩
  · rw [e] at a; exact absurd a (by decide)
  · exact ⟨b, c⟩
  · rw [e] at a; exact absurd a (by decide)
theorem VD.nn {r : Int32} {fw : Nat → Int64} {y gd un : Nat} (h : VD r fw y gd un) (e : ¬ r = -1) : ¬ NV fw y gd un := by
  rcases h with ⟨_, b⟩ | ⟨a, _⟩ | ⟨_, _, c⟩
  · exact fun g => g.1 b
  · exact absurd a e
  · exact fun g => c g.2
theorem stN_free {lk gd j : Nat} (hj : lk / 2 ^ j % 2 = 0) : ∀ k, j < k → stN lk gd k + 2 * 3 ^ j < 3 ^ k
  | 0, h => absurd h (by omega)
  | k + 1, h => by
    show stN lk gd k + _ + 2 * 3 ^ j < 3 ^ (k + 1)
    rw [Nat.pow_succ]
    by_cases e : j = k
    · subst e
      have g := stN_lt lk gd j
      rw [if_neg (by omega)]
      omega
    · have g := stN_free (gd := gd) hj k (by omega)
      have g2 : (if lk / 2 ^ k % 2 = 1 then (if gd / 2 ^ k % 2 = 1 then 2 * 3 ^ k else 3 ^ k) else 0) ≤ 2 * 3 ^ k := by
        split
        · split <;> omega
        · omega
      omega
theorem m_tb (a z : Nat) : a.testBit z = decide (a / 2 ^ z % 2 = 1) := Nat.testBit_eq_decide_div_mod_eq
theorem nb_free {n lk z : Nat} (hz : z < n) (h : ((2 ^ n - 1) ^^^ lk) / 2 ^ z % 2 = 1) : lk / 2 ^ z % 2 = 0 := by
  have g : ((2 ^ n - 1) ^^^ lk).testBit z = true := by rw [m_tb]; exact decide_eq_true h
  rw [Nat.testBit_xor, Nat.testBit_two_pow_sub_one, decide_eq_true hz, m_tb] at g
  by_cases e : lk / 2 ^ z % 2 = 1
  · rw [decide_eq_true e] at g; exact absurd g (by decide)
  · omega
def rm_c_X1_fill (k : Nat) : Room := { frames := k + 2, cells := 0, slots := 0, locals := k * 30 + 43 }
set_option maxHeartbeats 400000 in
set_option maxRecDepth 100000 in
theorem c_X1_fill (l : Launch) (D : va_G) (cI cJ cZ : ClassId) (z3 t3 : Nat) : ∀ (k : Nat) (h0 : Nat) (h4 : Nat) (s2 : Nat) (s3 : Nat) (p4 : Nat) (p5 : Nat) (p6 : Nat) (a1 : Nat) (a2 : Nat) (a3 : Nat) (n : Nat) (b1 : Nat) (b2 : Nat) (y : Nat) (sx : Nat) (lo : Nat) (hi : Nat) (op : Nat) (len : Nat) (pt : Int32) (rc : Int32) (sn : Int32) (sg : Int32) (fr : Int32) (le : Int64) (fg : Nat → Int32) (fb : Nat → Int32) (fp : Nat → Int32) (fq : Nat → Int32) (eb : Nat → Int64) (ew : Nat → Int32) (fw : Nat → Int64) (hk : k ≤ 9) (hy : y < 40) (hlo : lo < 512) (hhi : hi < 512) (hop : op + k ≤ 9) (hlen : len ≤ 19683) (hsx : sx + 3 ^ k ≤ len) (hfq : ∀ z, z < op → ∃ x, x < 9 ∧ fq z = nI x ∧ sx + 3 ^ k + 2 * 3 ^ x ≤ len) (hz3 : nz3 z3 t3 [h0, h4, a1, a2, a3, p4, p5, p6, s2, b1]), Met l yX1_fill wsX1_fill (rm_c_X1_fill k) (pmT_ D cI cJ cZ z3 t3 [.ref h0, .int (pI k), .int (nI sx), .int (nI lo), .int (nI hi), .long le, .int (nI op)] [(h0, .inr (1, [.ref h4, .ref s2, .ref s3, .ref p4, .ref p5, .ref p6, .int fr])), (h4, .inr (4, [.ref a1, .ref a2, .ref a3, .int (nI n), .int sn, .int sg])), (a1, .inl (cI, 9, .inl fg)), (a2, .inl (cI, 9, .inl fb)), (a3, .inl (cI, 9, .inl fp)), (p4, .inl (cI, 9, .inl fq)), (p5, .inl (cJ, len, .inr (.inl eb))), (p6, .inl (cI, len, .inl ew)), (s2, .inr (3, [.ref b1, .ref b2, .int pt, .int rc, .int (nI y)])), (b1, .inl (cJ, 320, .inr (.inl fw)))]) (va_Qv (fun (u : (Nat → Int32) × (Nat → Int64) × (Nat → Int32)) => ∀ z, z < op → u.1 z = fq z) (fun (u : (Nat → Int32) × (Nat → Int64) × (Nat → Int32)) tS => va_P D vwCl [(h0, .inr (1, [.ref h4, .ref s2, .ref s3, .ref p4, .ref p5, .ref p6, .int fr])), (h4, .inr (4, [.ref a1, .ref a2, .ref a3, .int (nI n), .int sn, .int sg])), (a1, .inl (cI, 9, .inl fg)), (a2, .inl (cI, 9, .inl fb)), (a3, .inl (cI, 9, .inl fp)), (p4, .inl (cI, 9, .inl u.1)), (p5, .inl (cJ, len, .inr (.inl u.2.1))), (p6, .inl (cI, len, .inl u.2.2)), (s2, .inr (3, [.ref b1, .ref b2, .int pt, .int rc, .int (nI y)])), (b1, .inl (cJ, 320, .inr (.inl fw)))] tS.heap) (aA [h0, h4, a1, a2, a3, p4, p5, p6, s2, b1])) 0 0 (aA [h0, h4, a1, a2, a3, p4, p5, p6, s2, b1]) := by
  intro k
  induction k with
  | zero =>
    intro h0 h4 s2 s3 p4 p5 p6 a1 a2 a3 n b1 b2 y sx lo hi op len pt rc sn sg fr le fg fb fp fq eb ew fw hk hy hlo hhi hop hlen hsx hfq hz3
    show Met l yX1_fill wsX1_fill (rm_c_X1_fill 0) (pmT_ D cI cJ cZ z3 t3 [.ref h0, .int (-1 : Int32), .int (nI sx), .int (nI lo), .int (nI hi), .long le, .int (nI op)] [(h0, .inr (1, [.ref h4, .ref s2, .ref s3, .ref p4, .ref p5, .ref p6, .int fr])), (h4, .inr (4, [.ref a1, .ref a2, .ref a3, .int (nI n), .int sn, .int sg])), (a1, .inl (cI, 9, .inl fg)), (a2, .inl (cI, 9, .inl fb)), (a3, .inl (cI, 9, .inl fp)), (p4, .inl (cI, 9, .inl fq)), (p5, .inl (cJ, len, .inr (.inl eb))), (p6, .inl (cI, len, .inl ew)), (s2, .inr (3, [.ref b1, .ref b2, .int pt, .int rc, .int (nI y)])), (b1, .inl (cJ, 320, .inr (.inl fw)))]) (va_Qv (fun (u : (Nat → Int32) × (Nat → Int64) × (Nat → Int32)) => ∀ z, z < op → u.1 z = fq z) (fun (u : (Nat → Int32) × (Nat → Int64) × (Nat → Int32)) tS => va_P D vwCl [(h0, .inr (1, [.ref h4, .ref s2, .ref s3, .ref p4, .ref p5, .ref p6, .int fr])), (h4, .inr (4, [.ref a1, .ref a2, .ref a3, .int (nI n), .int sn, .int sg])), (a1, .inl (cI, 9, .inl fg)), (a2, .inl (cI, 9, .inl fb)), (a3, .inl (cI, 9, .inl fp)), (p4, .inl (cI, 9, .inl u.1)), (p5, .inl (cJ, len, .inr (.inl u.2.1))), (p6, .inl (cI, len, .inl u.2.2)), (s2, .inr (3, [.ref b1, .ref b2, .int pt, .int rc, .int (nI y)])), (b1, .inl (cJ, 320, .inr (.inl fw)))] tS.heap) (aA [h0, h4, a1, a2, a3, p4, p5, p6, s2, b1])) 0 0 (aA [h0, h4, a1, a2, a3, p4, p5, p6, s2, b1])
    refine Met.ofW (cc := cX1_fill) (maxL := 11) (ret := none) (by decide) rfl ?_
    intro p e s m args below meth c s₁ B hml hv
    obtain ⟨rfl, hP, hKN, hT0, hD0⟩ := hv
    have hK := hKN.1
    have hx := B.exec
    have hb := B.bytes
    have hr := B.returns
    have hts := atoms_spec (ws := wsX1_fill) B.pre
    have hown : s.vm.findClass RX1 = some m.cls := findClass_of_methodNamed B.named
    have hlocks := B.notSynchronized
    obtain ⟨as, has⟩ : ∃ z : List Nat, z = [h0, h4, a1, a2, a3, p4, p5, p6, s2, b1] := ⟨_, rfl⟩
    have hD := hD0.addr (as := as) (by rw [has]; rfl)
    have hS : va_S (aA as) s.heap s.heap [] := va_S.rf
    have hzA : ¬ aA as z3 := by rw [has]; exact hz3.z
    have htA : ¬ aA as t3 := by rw [has]; exact hz3.t
    have hZ3 := hT0.Z hzA
    have hT3 := hT0.T htA
    have hl := lv_entry ([.ref h0, .int (-1 : Int32), .int (nI sx), .int (nI lo), .int (nI hi), .long le, .int (nI op)]) (n := 11) (Nat.le_of_ble_eq_true rfl)
    rw [lg_entry_eq]
    generalize (lg_sl ([.ref h0, .int (-1 : Int32), .int (nI sx), .int (nI lo), .int (nI hi), .long le, .int (nI op)]) ++ List.replicate (11 - (lg_sl ([.ref h0, .int (-1 : Int32), .int (nI sx), .int (nI lo), .int (nI hi), .long le, .int (nI op)])).length) Slot.unset).toArray = ls at hl ⊢
    have hl : lv_has ls 11 [(0, .ref h0), (1, .int (-1 : Int32)), (2, .int (nI sx)), (3, .int (nI lo)), (4, .int (nI hi)), (5, .long le), (7, .int (nI op))] := hl
    generalize hQ : MQ below _ _ s _ _ _ = Q
    obtain ⟨H, hH⟩ : ∃ z, z = s.heap := ⟨_, rfl⟩
    have hP : va_P D vwCl [(h0, .inr (1, [.ref h4, .ref s2, .ref s3, .ref p4, .ref p5, .ref p6, .int fr])), (h4, .inr (4, [.ref a1, .ref a2, .ref a3, .int (nI n), .int sn, .int sg])), (a1, .inl (cI, 9, .inl fg)), (a2, .inl (cI, 9, .inl fb)), (a3, .inl (cI, 9, .inl fp)), (p4, .inl (cI, 9, .inl fq)), (p5, .inl (cJ, len, .inr (.inl eb))), (p6, .inl (cI, len, .inl ew)), (s2, .inr (3, [.ref b1, .ref b2, .int pt, .int rc, .int (nI y)])), (b1, .inl (cJ, 320, .inr (.inl fw)))] H := by rw [hH]; exact hP
    have hS : va_S (aA as) s.heap H [] := by rw [hH]; exact hS
    refine m_heap hH ?_
    clear hH
    refine lv_iload_n hx hb dX1_fill_0 rfl (lv_at hl 1 rfl) ?_
    refine lv_if_ge (tgt := 14) hx hb dX1_fill_1 (by decide) (fun c1 => ?_) (fun c1 => ?_)
    · exact absurd c1 (by first | decide | exact nz_lt (by omega) | exact fun h => h (nz_ge (by omega)))
    · skip
      rw [Nat.pow_zero] at hsx
      refine lv_aload_n hx hb dX1_fill_4 rfl (lv_at hl 0 rfl) ?_
      refine lv_iload_n hx hb dX1_fill_5 rfl (lv_at hl 2 rfl) ?_
      refine lv_lload hx hb dX1_fill_6 (lv_at hl 5 rfl) ?_
      refine lv_iload hx hb dX1_fill_8 (lv_at hl 6 rfl) ?_
      refine mu2_v (n := 10) (wc := [(h0, .inr (1, [.ref h4, .ref s2, .ref s3, .ref p4, .ref p5, .ref p6, .int fr])), (h4, .inr (4, [.ref a1, .ref a2, .ref a3, .int (nI n), .int sn, .int sg])), (a3, .inl (cI, 9, .inl fp)), (p4, .inl (cI, 9, .inl fq)), (p5, .inl (cJ, len, .inr (.inl eb))), (p6, .inl (cI, len, .inl ew))]) (wr := [(a1, .inl (cI, 9, .inl fg)), (a2, .inl (cI, 9, .inl fb)), (s2, .inr (3, [.ref b1, .ref b2, .int pt, .int rc, .int (nI y)])), (b1, .inl (cJ, 320, .inr (.inl fw)))]) (as0 := [h0, h4, a1, a2, a3, p4, p5, p6, s2, b1]) (va_runV (As := [.int (nI sx), .long le, .int (nI op)]) (rest := []) ⟨hx, hb, hml, hown, hts⟩ (c_X1_settle l D cI cJ cZ z3 t3 h0 h4 s2 s3 p4 p5 p6 a1 a2 a3 n sx op len sn sg fr le fp fq eb ew (by first | assumption | omega) (by first | assumption | omega) (by exact fun z hz => by obtain ⟨x, h1, h2, h3⟩ := hfq z hz; exact ⟨x, h1, h2, by rw [Nat.pow_zero] at h3; omega⟩) (by first | assumption | omega) ((nz3.D hD hzA htA).sub [0, 1, 4, 5, 6, 7] rfl)) (cwV 3 hts gX1_fill_X1_settle rfl rfl rfl (by decide +kernel) ⟨(show 0 + 1 ≤ 0 + 2 by omega), (show 8 + (18 + 11) + (0) ≤ 0 * 30 + 43 by omega)⟩) ⟨pmT_blind, va_recv hK hP (ci := 1) (q0 := 0) rfl rfl, fun U hU hW => ⟨rfl, by rw [hU]; exact hP.sub (ws' := [(h0, .inr (1, [.ref h4, .ref s2, .ref s3, .ref p4, .ref p5, .ref p6, .int fr])), (h4, .inr (4, [.ref a1, .ref a2, .ref a3, .int (nI n), .int sn, .int sg])), (a3, .inl (cI, 9, .inl fp)), (p4, .inl (cI, 9, .inl fq)), (p5, .inl (cJ, len, .inr (.inl eb))), (p6, .inl (cI, len, .inl ew))]) [0, 1, 4, 5, 6, 7] rfl, hKN.warm hW, hT0.go hS hzA htA hW hU, (hD.sub (ws' := [(h0, .inr (1, [.ref h4, .ref s2, .ref s3, .ref p4, .ref p5, .ref p6, .int fr])), (h4, .inr (4, [.ref a1, .ref a2, .ref a3, .int (nI n), .int sn, .int sg])), (a3, .inl (cI, 9, .inl fp)), (p4, .inl (cI, 9, .inl fq)), (p5, .inl (cJ, len, .inr (.inl eb))), (p6, .inl (cI, len, .inl ew))]) [0, 1, 4, 5, 6, 7] (by decide) rfl).weaken (fun _ _ _ _ => trivial)⟩⟩ rfl rfl hl.1 rfl (lv_room (Nat.le_of_ble_eq_true rfl)) dX1_fill_10 ⟨Nat.le_of_ble_eq_true rfl, Nat.le_of_ble_eq_true rfl⟩) hS hP hD (fun (u : (Nat → Int64) × (Nat → Int32)) => [(h0, .inr (1, [.ref h4, .ref s2, .ref s3, .ref p4, .ref p5, .ref p6, .int fr])), (h4, .inr (4, [.ref a1, .ref a2, .ref a3, .int (nI n), .int sn, .int sg])), (a1, .inl (cI, 9, .inl fg)), (a2, .inl (cI, 9, .inl fb)), (a3, .inl (cI, 9, .inl fp)), (p4, .inl (cI, 9, .inl fq)), (p5, .inl (cJ, len, .inr (.inl u.1))), (p6, .inl (cI, len, .inl u.2)), (s2, .inr (3, [.ref b1, .ref b2, .int pt, .int rc, .int (nI y)])), (b1, .inl (cJ, 320, .inr (.inl fw)))]) [0, 1, 4, 5, 6, 7] [2, 3, 8, 9] rfl rfl rfl (fun _ => rfl) (fun _ => rfl) rfl (fun _ => rfl) (fun _ => rfl) (m_cov rfl) (m_dis rfl) (fun u2 H locs w2r hP hD hS => ?_)
      obtain ⟨u2_ub, u2_uw⟩ := u2
      have hP : va_P D vwCl [(h0, .inr (1, [.ref h4, .ref s2, .ref s3, .ref p4, .ref p5, .ref p6, .int fr])), (h4, .inr (4, [.ref a1, .ref a2, .ref a3, .int (nI n), .int sn, .int sg])), (a1, .inl (cI, 9, .inl fg)), (a2, .inl (cI, 9, .inl fb)), (a3, .inl (cI, 9, .inl fp)), (p4, .inl (cI, 9, .inl fq)), (p5, .inl (cJ, len, .inr (.inl u2_ub))), (p6, .inl (cI, len, .inl u2_uw)), (s2, .inr (3, [.ref b1, .ref b2, .int pt, .int rc, .int (nI y)])), (b1, .inl (cJ, 320, .inr (.inl fw)))] H := hP
      have hD : va_D (aA as) [(h0, .inr (1, [.ref h4, .ref s2, .ref s3, .ref p4, .ref p5, .ref p6, .int fr])), (h4, .inr (4, [.ref a1, .ref a2, .ref a3, .int (nI n), .int sn, .int sg])), (a1, .inl (cI, 9, .inl fg)), (a2, .inl (cI, 9, .inl fb)), (a3, .inl (cI, 9, .inl fp)), (p4, .inl (cI, 9, .inl fq)), (p5, .inl (cJ, len, .inr (.inl u2_ub))), (p6, .inl (cI, len, .inl u2_uw)), (s2, .inr (3, [.ref b1, .ref b2, .int pt, .int rc, .int (nI y)])), (b1, .inl (cJ, 320, .inr (.inl fw)))] := hD
      have w2 : True := w2r
      clear w2r
      rw [← hQ]
      exact W.vret hx hb hr (fun tS htS hWS => ⟨⟨(fq, u2_ub, u2_uw), rfl, fun _ _ => rfl, m_at htS hP⟩, by rw [← has]; exact hS.F htS⟩) (by rw [← has]; exact hS.2.2) dX1_fill_13
  | succ k ih =>
    intro h0 h4 s2 s3 p4 p5 p6 a1 a2 a3 n b1 b2 y sx lo hi op len pt rc sn sg fr le fg fb fp fq eb ew fw hk hy hlo hhi hop hlen hsx hfq hz3
    show Met l yX1_fill wsX1_fill (rm_c_X1_fill (k + 1)) (pmT_ D cI cJ cZ z3 t3 [.ref h0, .int (nI k), .int (nI sx), .int (nI lo), .int (nI hi), .long le, .int (nI op)] [(h0, .inr (1, [.ref h4, .ref s2, .ref s3, .ref p4, .ref p5, .ref p6, .int fr])), (h4, .inr (4, [.ref a1, .ref a2, .ref a3, .int (nI n), .int sn, .int sg])), (a1, .inl (cI, 9, .inl fg)), (a2, .inl (cI, 9, .inl fb)), (a3, .inl (cI, 9, .inl fp)), (p4, .inl (cI, 9, .inl fq)), (p5, .inl (cJ, len, .inr (.inl eb))), (p6, .inl (cI, len, .inl ew)), (s2, .inr (3, [.ref b1, .ref b2, .int pt, .int rc, .int (nI y)])), (b1, .inl (cJ, 320, .inr (.inl fw)))]) (va_Qv (fun (u : (Nat → Int32) × (Nat → Int64) × (Nat → Int32)) => ∀ z, z < op → u.1 z = fq z) (fun (u : (Nat → Int32) × (Nat → Int64) × (Nat → Int32)) tS => va_P D vwCl [(h0, .inr (1, [.ref h4, .ref s2, .ref s3, .ref p4, .ref p5, .ref p6, .int fr])), (h4, .inr (4, [.ref a1, .ref a2, .ref a3, .int (nI n), .int sn, .int sg])), (a1, .inl (cI, 9, .inl fg)), (a2, .inl (cI, 9, .inl fb)), (a3, .inl (cI, 9, .inl fp)), (p4, .inl (cI, 9, .inl u.1)), (p5, .inl (cJ, len, .inr (.inl u.2.1))), (p6, .inl (cI, len, .inl u.2.2)), (s2, .inr (3, [.ref b1, .ref b2, .int pt, .int rc, .int (nI y)])), (b1, .inl (cJ, 320, .inr (.inl fw)))] tS.heap) (aA [h0, h4, a1, a2, a3, p4, p5, p6, s2, b1])) 0 0 (aA [h0, h4, a1, a2, a3, p4, p5, p6, s2, b1])
    refine Met.ofW (cc := cX1_fill) (maxL := 11) (ret := none) (by decide) rfl ?_
    intro p e s m args below meth c s₁ B hml hv
    obtain ⟨rfl, hP, hKN, hT0, hD0⟩ := hv
    have hK := hKN.1
    have hx := B.exec
    have hb := B.bytes
    have hr := B.returns
    have hts := atoms_spec (ws := wsX1_fill) B.pre
    have hown : s.vm.findClass RX1 = some m.cls := findClass_of_methodNamed B.named
    have hlocks := B.notSynchronized
    have hiX1 : ∀ w ∈ wsX10, w ∈ wsX1_fill := by decide +kernel
    have hiX4 : ∀ w ∈ wsX40, w ∈ wsX1_fill := by decide +kernel
    have hf9 := hts (.fieldLink RX1 9 "LookBench$Plans" "open" "[I") (by decide +kernel)
    have hf22 := hts (.fieldLink RX1 22 "LookBench$Plans" "shelf" "LLookBench$Shelf;") (by decide +kernel)
    have hf26 := hts (.fieldLink RX1 26 "LookBench$Plans" "rules" "LLookBench$Rules;") (by decide +kernel)
    have hf123 := va_Nw.use (A := [.ref h0, .int (nI k), .int (nI sx), .int (nI lo), .int (nI hi), .long le, .int (nI op)].toArray) rfl (hKN.2 (.fieldLinkNest RX1 123 RX4 "goods" "[I" RX6) (by decide +kernel))
    have hf126 := va_Nw.use (A := [.ref h0, .int (nI k), .int (nI sx), .int (nI lo), .int (nI hi), .long le, .int (nI op)].toArray) rfl (hKN.2 (.fieldLinkNest RX1 126 RX4 "bads" "[I" RX6) (by decide +kernel))
    obtain ⟨as, has⟩ : ∃ z : List Nat, z = [h0, h4, a1, a2, a3, p4, p5, p6, s2, b1] := ⟨_, rfl⟩
    have hD := hD0.addr (as := as) (by rw [has]; rfl)
    have hS : va_S (aA as) s.heap s.heap [] := va_S.rf
    have hzA : ¬ aA as z3 := by rw [has]; exact hz3.z
    have htA : ¬ aA as t3 := by rw [has]; exact hz3.t
    have hZ3 := hT0.Z hzA
    have hT3 := hT0.T htA
    have hfs := hts (.fieldLink RX1 54 "LookBench$Plans" "THREES" "[I") (by decide +kernel)
    have hl := lv_entry ([.ref h0, .int (nI k), .int (nI sx), .int (nI lo), .int (nI hi), .long le, .int (nI op)]) (n := 11) (Nat.le_of_ble_eq_true rfl)
    rw [lg_entry_eq]
    generalize (lg_sl ([.ref h0, .int (nI k), .int (nI sx), .int (nI lo), .int (nI hi), .long le, .int (nI op)]) ++ List.replicate (11 - (lg_sl ([.ref h0, .int (nI k), .int (nI sx), .int (nI lo), .int (nI hi), .long le, .int (nI op)])).length) Slot.unset).toArray = ls at hl ⊢
    have hl : lv_has ls 11 [(0, .ref h0), (1, .int (nI k)), (2, .int (nI sx)), (3, .int (nI lo)), (4, .int (nI hi)), (5, .long le), (7, .int (nI op))] := hl
    generalize hQ : MQ below _ _ s _ _ _ = Q
    obtain ⟨H, hH⟩ : ∃ z, z = s.heap := ⟨_, rfl⟩
    have hP : va_P D vwCl [(h0, .inr (1, [.ref h4, .ref s2, .ref s3, .ref p4, .ref p5, .ref p6, .int fr])), (h4, .inr (4, [.ref a1, .ref a2, .ref a3, .int (nI n), .int sn, .int sg])), (a1, .inl (cI, 9, .inl fg)), (a2, .inl (cI, 9, .inl fb)), (a3, .inl (cI, 9, .inl fp)), (p4, .inl (cI, 9, .inl fq)), (p5, .inl (cJ, len, .inr (.inl eb))), (p6, .inl (cI, len, .inl ew)), (s2, .inr (3, [.ref b1, .ref b2, .int pt, .int rc, .int (nI y)])), (b1, .inl (cJ, 320, .inr (.inl fw)))] H := by rw [hH]; exact hP
    have hS : va_S (aA as) s.heap H [] := by rw [hH]; exact hS
    refine m_heap hH ?_
    clear hH
    refine lv_iload_n hx hb dX1_fill_0 rfl (lv_at hl 1 rfl) ?_
    refine lv_if_ge (tgt := 14) hx hb dX1_fill_1 (by decide) (fun c1 => ?_) (fun c1 => ?_)
    · skip
      have hp9 := m_p512 (j := k) (by omega)
      have ho9 := m_o512 hlo hp9
      have h3 : 3 ^ (k + 1) = 3 * 3 ^ k := by rw [Nat.pow_succ]; omega
      have h3p := m_p3p k
      have h3n := m_3n (n := k) (by omega)
      have hb9 : hi &&& ((2 ^ 9 - 1) ^^^ 2 ^ k) < 512 := Nat.lt_of_le_of_lt Nat.and_le_left hhi
      refine va_gets hx hb hZ3 hS hown hfs (fun _ h9 => h9) dX1_fill_14 ?_
      refine lv_iload_n hx hb dX1_fill_17 rfl (lv_at hl 1 rfl) ?_
      refine va_ti hx hb hT3 hS (i := nI k) (vp_in_nI (by omega) (by omega)) (v := .int (nI (3 ^ k))) (congrArg (fun j => Value.int (nI (3 ^ j))) (nI_clamp (n := k) (by omega))) dX1_fill_18 ?_
      refine lv_istore (lv' := [(8, .int (nI (3 ^ k))), (0, .ref h0), (1, .int (nI k)), (2, .int (nI sx)), (3, .int (nI lo)), (4, .int (nI hi)), (5, .long le), (7, .int (nI op))]) hx hb dX1_fill_19 hl (by decide) rfl (fun ls hl => ?_)
      refine lv_iload_n hx hb dX1_fill_21 rfl (lv_at hl 4 rfl) ?_
      refine lv_iconst (v := nI 1) hx hb dX1_fill_22 (by decide) ?_
      refine lv_iload_n hx hb dX1_fill_23 rfl (lv_at hl 2 rfl) ?_
      refine lv_ishl hx hb dX1_fill_24 ?_
      refine cn_i (y := nI (2 ^ k)) (m_shl1 (by omega)) ?_
      refine lv_ior hx hb dX1_fill_25 ?_
      refine cn_i (y := nI (lo ||| (2 ^ k))) (mb_or lo (2 ^ k)) ?_
      refine lv_istore (lv' := [(9, .int (nI (lo ||| (2 ^ k)))), (8, .int (nI (3 ^ k))), (0, .ref h0), (1, .int (nI k)), (2, .int (nI sx)), (3, .int (nI lo)), (4, .int (nI hi)), (5, .long le), (7, .int (nI op))]) hx hb dX1_fill_26 hl (by decide) rfl (fun ls hl => ?_)
      refine lv_aload_n hx hb dX1_fill_28 rfl (lv_at hl 2 rfl) ?_
      refine va_get (D := D) (ci := 1) (v := .ref s2) (C := RX1) (T := TX1) (N := 7) hx hb hts hiX1 hown hK hP 0 rfl rfl 1 (by decide) hf26 (fun _ h9 => h9) rfl dX1_fill_29 ?_
      refine lv_iload hx hb dX1_fill_32 (lv_at hl 0 rfl) ?_
      refine pu_i (va_runV (As := [.int (nI (lo ||| (2 ^ k)))]) (rest := []) ⟨hx, hb, hml, hown, hts⟩ (c_X3_isSystemGood l D cI cJ cZ s2 b1 b2 y (lo ||| (2 ^ k)) pt rc fw (by first | assumption | omega) (by first | assumption | omega)) (cwV 1 hts gX1_fill_X3_isSystemGood rfl rfl rfl (by decide +kernel) ⟨(show 1 + 1 ≤ (k + 1) + 2 by omega), (show 8 + (2 + 11) + (22) ≤ (k + 1) * 30 + 43 by omega)⟩) ⟨pc_blind, va_recv hK hP (ci := 3) (q0 := 8) rfl rfl, fun U hU hW => ⟨rfl, by rw [hU]; exact hP.sub (ws' := [(s2, .inr (3, [.ref b1, .ref b2, .int pt, .int rc, .int (nI y)])), (b1, .inl (cJ, 320, .inr (.inl fw)))]) [8, 9] rfl, hKN.warm hW⟩⟩ rfl rfl hl.1 rfl (lv_room (Nat.le_of_ble_eq_true rfl)) dX1_fill_34 ⟨Nat.le_of_ble_eq_true rfl, Nat.le_of_ble_eq_true rfl⟩) hS hP (fun r2 H locs w2r hP hS => ?_)
      have w2 : B01 r2 (isG fw y (lo ||| (2 ^ k))) := w2r
      clear w2r
      rcases w2 with ⟨rfl, w2⟩ | ⟨rfl, w2⟩
      · skip
        refine lv_if_eq (tgt := 59) hx hb dX1_fill_37 (by decide) (fun c3 => ?_) (fun c3 => ?_)
        · exact absurd c3 (by first | decide | exact nz_lt (by omega) | exact fun h => h (nz_ge (by omega)))
        · skip
          refine lv_aload_n hx hb dX1_fill_40 rfl (lv_at hl 2 rfl) ?_
          refine lv_iload_n hx hb dX1_fill_41 rfl (lv_at hl 4 rfl) ?_
          refine lv_iconst (v := nI 2) hx hb dX1_fill_42 (by decide) ?_
          refine lv_iload hx hb dX1_fill_43 (lv_at hl 1 rfl) ?_
          refine lv_imul hx hb dX1_fill_45 ?_
          refine cn_i (y := nI (2 * (3 ^ k))) (pk_mul 2 (3 ^ k)) ?_
          refine lv_iadd hx hb dX1_fill_46 ?_
          refine cn_i (y := nI (sx + (2 * (3 ^ k)))) (nI_add sx (2 * (3 ^ k))) ?_
          refine lv_iload_n hx hb dX1_fill_47 rfl (lv_at hl 4 rfl) ?_
          refine lv_iconst (v := nI 3) hx hb dX1_fill_48 (by decide) ?_
          refine lv_iload hx hb dX1_fill_49 (lv_at hl 1 rfl) ?_
          refine lv_imul hx hb dX1_fill_51 ?_
          refine cn_i (y := nI (3 * (3 ^ k))) (pk_mul 3 (3 ^ k)) ?_
          refine lv_iadd hx hb dX1_fill_52 ?_
          refine cn_i (y := nI (sx + (3 * (3 ^ k)))) (nI_add sx (3 * (3 ^ k))) ?_
          refine mu2_v (n := 10) (wc := [(h0, .inr (1, [.ref h4, .ref s2, .ref s3, .ref p4, .ref p5, .ref p6, .int fr])), (p5, .inl (cJ, len, .inr (.inl eb))), (p6, .inl (cI, len, .inl ew))]) (wr := [(h4, .inr (4, [.ref a1, .ref a2, .ref a3, .int (nI n), .int sn, .int sg])), (a1, .inl (cI, 9, .inl fg)), (a2, .inl (cI, 9, .inl fb)), (a3, .inl (cI, 9, .inl fp)), (p4, .inl (cI, 9, .inl fq)), (s2, .inr (3, [.ref b1, .ref b2, .int pt, .int rc, .int (nI y)])), (b1, .inl (cJ, 320, .inr (.inl fw)))]) (as0 := [h0, h4, a1, a2, a3, p4, p5, p6, s2, b1]) (va_runV (As := [.int (nI (sx + (2 * (3 ^ k)))), .int (nI (sx + (3 * (3 ^ k))))]) (rest := []) ⟨hx, hb, hml, hown, hts⟩ (c_X1_fillSure l D cI cJ cZ h0 h4 s2 s3 p4 p5 p6 a1 a2 a3 n (sx + (2 * (3 ^ k))) (sx + (3 * (3 ^ k))) len fr eb ew (by first | assumption | omega) (by first | assumption | omega) (by first | assumption | omega)) (cwV 2 hts gX1_fill_X1_fillSure rfl rfl rfl (by decide +kernel) ⟨(show 0 + 1 ≤ (k + 1) + 2 by omega), (show 8 + (4 + 11) + (0) ≤ (k + 1) * 30 + 43 by omega)⟩) ⟨pm_blind, va_recv hK hP (ci := 1) (q0 := 0) rfl rfl, fun U hU hW => ⟨rfl, by rw [hU]; exact hP.sub (ws' := [(h0, .inr (1, [.ref h4, .ref s2, .ref s3, .ref p4, .ref p5, .ref p6, .int fr])), (p5, .inl (cJ, len, .inr (.inl eb))), (p6, .inl (cI, len, .inl ew))]) [0, 6, 7] rfl, hKN.warm hW, (hD.sub (ws' := [(h0, .inr (1, [.ref h4, .ref s2, .ref s3, .ref p4, .ref p5, .ref p6, .int fr])), (p5, .inl (cJ, len, .inr (.inl eb))), (p6, .inl (cI, len, .inl ew))]) [0, 6, 7] (by decide) rfl).weaken (fun _ _ _ _ => trivial)⟩⟩ rfl rfl hl.1 rfl (lv_room (Nat.le_of_ble_eq_true rfl)) dX1_fill_53 ⟨Nat.le_of_ble_eq_true rfl, Nat.le_of_ble_eq_true rfl⟩) hS hP hD (fun (u : (Nat → Int64) × (Nat → Int32)) => [(h0, .inr (1, [.ref h4, .ref s2, .ref s3, .ref p4, .ref p5, .ref p6, .int fr])), (h4, .inr (4, [.ref a1, .ref a2, .ref a3, .int (nI n), .int sn, .int sg])), (a1, .inl (cI, 9, .inl fg)), (a2, .inl (cI, 9, .inl fb)), (a3, .inl (cI, 9, .inl fp)), (p4, .inl (cI, 9, .inl fq)), (p5, .inl (cJ, len, .inr (.inl u.1))), (p6, .inl (cI, len, .inl u.2)), (s2, .inr (3, [.ref b1, .ref b2, .int pt, .int rc, .int (nI y)])), (b1, .inl (cJ, 320, .inr (.inl fw)))]) [0, 6, 7] [1, 2, 3, 4, 5, 8, 9] rfl rfl rfl (fun _ => rfl) (fun _ => rfl) rfl (fun _ => rfl) (fun _ => rfl) (m_cov rfl) (m_dis rfl) (fun u4 H locs w4r hP hD hS => ?_)
          obtain ⟨u4_ub, u4_uw⟩ := u4
          have hP : va_P D vwCl [(h0, .inr (1, [.ref h4, .ref s2, .ref s3, .ref p4, .ref p5, .ref p6, .int fr])), (h4, .inr (4, [.ref a1, .ref a2, .ref a3, .int (nI n), .int sn, .int sg])), (a1, .inl (cI, 9, .inl fg)), (a2, .inl (cI, 9, .inl fb)), (a3, .inl (cI, 9, .inl fp)), (p4, .inl (cI, 9, .inl fq)), (p5, .inl (cJ, len, .inr (.inl u4_ub))), (p6, .inl (cI, len, .inl u4_uw)), (s2, .inr (3, [.ref b1, .ref b2, .int pt, .int rc, .int (nI y)])), (b1, .inl (cJ, 320, .inr (.inl fw)))] H := hP
          have hD : va_D (aA as) [(h0, .inr (1, [.ref h4, .ref s2, .ref s3, .ref p4, .ref p5, .ref p6, .int fr])), (h4, .inr (4, [.ref a1, .ref a2, .ref a3, .int (nI n), .int sn, .int sg])), (a1, .inl (cI, 9, .inl fg)), (a2, .inl (cI, 9, .inl fb)), (a3, .inl (cI, 9, .inl fp)), (p4, .inl (cI, 9, .inl fq)), (p5, .inl (cJ, len, .inr (.inl u4_ub))), (p6, .inl (cI, len, .inl u4_uw)), (s2, .inr (3, [.ref b1, .ref b2, .int pt, .int rc, .int (nI y)])), (b1, .inl (cJ, 320, .inr (.inl fw)))] := hD
          have w4 : True := w4r
          clear w4r
          have hq88 : ∀ z, z < op → fq z = fq z := fun _ _ => rfl
          refine lv_goto (tgt := 91) hx hb dX1_fill_56 (by decide) ?_
          refine lv_iload hx hb dX1_fill_91 (lv_at hl 6 rfl) ?_
          refine lv_iconst (v := nI 1) hx hb dX1_fill_93 (by decide) ?_
          refine lv_iload_n hx hb dX1_fill_94 rfl (lv_at hl 3 rfl) ?_
          refine lv_ishl hx hb dX1_fill_95 ?_
          refine cn_i (y := nI (2 ^ k)) (m_shl1 (by omega)) ?_
          refine lv_iconst (v := (-1 : Int32)) hx hb dX1_fill_96 (by decide) ?_
          refine lv_ixor hx hb dX1_fill_97 ?_
          refine lv_iand hx hb dX1_fill_98 ?_
          refine cn_i (y := nI (hi &&& ((2 ^ 9 - 1) ^^^ 2 ^ k))) (mb_clr hhi (by omega)) ?_
          refine lv_istore (lv' := [(10, .int (nI (hi &&& ((2 ^ 9 - 1) ^^^ 2 ^ k)))), (9, .int (nI (lo ||| (2 ^ k)))), (8, .int (nI (3 ^ k))), (0, .ref h0), (1, .int (nI k)), (2, .int (nI sx)), (3, .int (nI lo)), (4, .int (nI hi)), (5, .long le), (7, .int (nI op))]) hx hb dX1_fill_99 hl (by decide) rfl (fun ls hl => ?_)
          refine lv_aload_n hx hb dX1_fill_101 rfl (lv_at hl 3 rfl) ?_
          refine va_get (D := D) (ci := 1) (v := .ref s2) (C := RX1) (T := TX1) (N := 7) hx hb hts hiX1 hown hK hP 0 rfl rfl 1 (by decide) hf26 (fun _ h9 => h9) rfl dX1_fill_102 ?_
          refine lv_iload hx hb dX1_fill_105 (lv_at hl 0 rfl) ?_
          refine pu_i (va_runV (As := [.int (nI (hi &&& ((2 ^ 9 - 1) ^^^ 2 ^ k)))]) (rest := []) ⟨hx, hb, hml, hown, hts⟩ (c_X3_isSystemGood l D cI cJ cZ s2 b1 b2 y (hi &&& ((2 ^ 9 - 1) ^^^ 2 ^ k)) pt rc fw (by first | assumption | omega) (by first | assumption | omega)) (cwV 1 hts gX1_fill_X3_isSystemGood rfl rfl rfl (by decide +kernel) ⟨(show 1 + 1 ≤ (k + 1) + 2 by omega), (show 8 + (2 + 11) + (22) ≤ (k + 1) * 30 + 43 by omega)⟩) ⟨pc_blind, va_recv hK hP (ci := 3) (q0 := 8) rfl rfl, fun U hU hW => ⟨rfl, by rw [hU]; exact hP.sub (ws' := [(s2, .inr (3, [.ref b1, .ref b2, .int pt, .int rc, .int (nI y)])), (b1, .inl (cJ, 320, .inr (.inl fw)))]) [8, 9] rfl, hKN.warm hW⟩⟩ rfl rfl hl.1 rfl (lv_room (Nat.le_of_ble_eq_true rfl)) dX1_fill_107 ⟨Nat.le_of_ble_eq_true rfl, Nat.le_of_ble_eq_true rfl⟩) hS hP (fun r5 H locs w5r hP hS => ?_)
          have w5 : B01 r5 (isG fw y (hi &&& ((2 ^ 9 - 1) ^^^ 2 ^ k))) := w5r
          clear w5r
          rcases w5 with ⟨rfl, w5⟩ | ⟨rfl, w5⟩
          · skip
            refine lv_if_eq (tgt := 145) hx hb dX1_fill_110 (by decide) (fun c6 => ?_) (fun c6 => ?_)
            · exact absurd c6 (by first | decide | exact nz_lt (by omega) | exact fun h => h (nz_ge (by omega)))
            · skip
              refine lv_aload_n hx hb dX1_fill_113 rfl (lv_at hl 3 rfl) ?_
              refine lv_iload_n hx hb dX1_fill_114 rfl (lv_at hl 4 rfl) ?_
              refine lv_iconst (v := nI 1) hx hb dX1_fill_115 (by decide) ?_
              refine lv_isub hx hb dX1_fill_116 ?_
              refine cn_i (y := pI k) (pI_sub k) ?_
              refine lv_iload_n hx hb dX1_fill_117 rfl (lv_at hl 5 rfl) ?_
              refine lv_iload hx hb dX1_fill_118 (lv_at hl 2 rfl) ?_
              refine lv_iadd hx hb dX1_fill_120 ?_
              refine cn_i (y := nI (sx + (3 ^ k))) (nI_add sx (3 ^ k)) ?_
              refine lv_iload_n hx hb dX1_fill_121 rfl (lv_at hl 6 rfl) ?_
              refine lv_iload hx hb dX1_fill_122 (lv_at hl 0 rfl) ?_
              refine lv_lload hx hb dX1_fill_124 (lv_at hl 8 rfl) ?_
              refine lv_aload_n hx hb dX1_fill_126 rfl (lv_at hl 3 rfl) ?_
              refine va_get (D := D) (ci := 1) (v := .ref h4) (C := RX1) (T := TX1) (N := 7) hx hb hts hiX1 hown hK hP 0 rfl rfl 0 (by decide) hf22 (fun _ h9 => h9) rfl dX1_fill_127 ?_
              refine va_getN (D := D) (ci := 4) (v := .ref a2) (C := RX4) (T := TX4) (N := 6) hx hb hts hiX4 hown hK hP 1 rfl rfl 1 (by decide) hf126 (fun _ h9 => h9) rfl dX1_fill_130 ?_
              refine lv_iload_n hx hb dX1_fill_133 rfl (lv_at hl 4 rfl) ?_
              refine va_iald hx hb hK hP 3 0 rfl rfl (i := nI k) (vp_in_nI (by omega) (by omega)) dX1_fill_134 ?_
              refine cn_i (y := fb k) (congrArg fb (nI_clamp (by omega))) ?_
              refine lv_i2l hx hb dX1_fill_135 rfl ?_
              refine lv_lmul hx hb dX1_fill_136 ?_
              refine lv_iload hx hb dX1_fill_137 (lv_at hl 9 rfl) ?_
              refine mu2_v (n := 10) (wc := [(h0, .inr (1, [.ref h4, .ref s2, .ref s3, .ref p4, .ref p5, .ref p6, .int fr])), (h4, .inr (4, [.ref a1, .ref a2, .ref a3, .int (nI n), .int sn, .int sg])), (a1, .inl (cI, 9, .inl fg)), (a2, .inl (cI, 9, .inl fb)), (a3, .inl (cI, 9, .inl fp)), (p4, .inl (cI, 9, .inl fq)), (p5, .inl (cJ, len, .inr (.inl u4_ub))), (p6, .inl (cI, len, .inl u4_uw)), (s2, .inr (3, [.ref b1, .ref b2, .int pt, .int rc, .int (nI y)])), (b1, .inl (cJ, 320, .inr (.inl fw)))]) (wr := []) (as0 := [h0, h4, a1, a2, a3, p4, p5, p6, s2, b1]) (va_runV (As := [.int (pI k), .int (nI (sx + (3 ^ k))), .int (nI lo), .int (nI (hi &&& ((2 ^ 9 - 1) ^^^ 2 ^ k))), .long (le * ((fb k).toInt64)), .int (nI op)]) (rest := []) ⟨hx, hb, hml, hown, hts⟩ (ih h0 h4 s2 s3 p4 p5 p6 a1 a2 a3 n b1 b2 y (sx + (3 ^ k)) lo (hi &&& ((2 ^ 9 - 1) ^^^ 2 ^ k)) op len pt rc sn sg fr (le * ((fb k).toInt64)) fg fb fp fq u4_ub u4_uw fw (by first | assumption | omega) (by first | assumption | omega) (by first | assumption | omega) (by first | assumption | omega) (by first | assumption | omega) (by first | assumption | omega) (by first | assumption | omega) (by exact fun z hz => by obtain ⟨x, h1, h2, h3⟩ := hfq z hz; exact ⟨x, h1, by first | exact h2 | exact (hq88 z hz).trans h2, by omega⟩) ((nz3.D hD hzA htA).sub [0, 1, 2, 3, 4, 5, 6, 7, 8, 9] rfl)) (cwV 6 hts gX1_fill_X1_fill rfl rfl rfl (by decide +kernel) ⟨(show k + 2 + 1 ≤ (k + 1) + 2 by omega), (show 8 + (11 + 11) + (k * 30 + 43) ≤ (k + 1) * 30 + 43 by omega)⟩) ⟨pmT_blind, va_recv hK hP (ci := 1) (q0 := 0) rfl rfl, fun U hU hW => ⟨rfl, by rw [hU]; exact hP.sub (ws' := [(h0, .inr (1, [.ref h4, .ref s2, .ref s3, .ref p4, .ref p5, .ref p6, .int fr])), (h4, .inr (4, [.ref a1, .ref a2, .ref a3, .int (nI n), .int sn, .int sg])), (a1, .inl (cI, 9, .inl fg)), (a2, .inl (cI, 9, .inl fb)), (a3, .inl (cI, 9, .inl fp)), (p4, .inl (cI, 9, .inl fq)), (p5, .inl (cJ, len, .inr (.inl u4_ub))), (p6, .inl (cI, len, .inl u4_uw)), (s2, .inr (3, [.ref b1, .ref b2, .int pt, .int rc, .int (nI y)])), (b1, .inl (cJ, 320, .inr (.inl fw)))]) [0, 1, 2, 3, 4, 5, 6, 7, 8, 9] rfl, hKN.warm hW, hT0.go hS hzA htA hW hU, (hD.sub (ws' := [(h0, .inr (1, [.ref h4, .ref s2, .ref s3, .ref p4, .ref p5, .ref p6, .int fr])), (h4, .inr (4, [.ref a1, .ref a2, .ref a3, .int (nI n), .int sn, .int sg])), (a1, .inl (cI, 9, .inl fg)), (a2, .inl (cI, 9, .inl fb)), (a3, .inl (cI, 9, .inl fp)), (p4, .inl (cI, 9, .inl fq)), (p5, .inl (cJ, len, .inr (.inl u4_ub))), (p6, .inl (cI, len, .inl u4_uw)), (s2, .inr (3, [.ref b1, .ref b2, .int pt, .int rc, .int (nI y)])), (b1, .inl (cJ, 320, .inr (.inl fw)))]) [0, 1, 2, 3, 4, 5, 6, 7, 8, 9] (by decide) rfl).weaken (fun _ _ _ _ => trivial)⟩⟩ rfl rfl hl.1 rfl (lv_room (Nat.le_of_ble_eq_true rfl)) dX1_fill_139 ⟨Nat.le_of_ble_eq_true rfl, Nat.le_of_ble_eq_true rfl⟩) hS hP hD (fun (u : (Nat → Int32) × (Nat → Int64) × (Nat → Int32)) => [(h0, .inr (1, [.ref h4, .ref s2, .ref s3, .ref p4, .ref p5, .ref p6, .int fr])), (h4, .inr (4, [.ref a1, .ref a2, .ref a3, .int (nI n), .int sn, .int sg])), (a1, .inl (cI, 9, .inl fg)), (a2, .inl (cI, 9, .inl fb)), (a3, .inl (cI, 9, .inl fp)), (p4, .inl (cI, 9, .inl u.1)), (p5, .inl (cJ, len, .inr (.inl u.2.1))), (p6, .inl (cI, len, .inl u.2.2)), (s2, .inr (3, [.ref b1, .ref b2, .int pt, .int rc, .int (nI y)])), (b1, .inl (cJ, 320, .inr (.inl fw)))]) [0, 1, 2, 3, 4, 5, 6, 7, 8, 9] [] rfl rfl rfl (fun _ => rfl) (fun _ => rfl) rfl (fun _ => rfl) (fun _ => rfl) (m_cov rfl) (m_dis rfl) (fun u7 H locs w7r hP hD hS => ?_)
              obtain ⟨u7_uq, u7_ub, u7_uw⟩ := u7
              have hP : va_P D vwCl [(h0, .inr (1, [.ref h4, .ref s2, .ref s3, .ref p4, .ref p5, .ref p6, .int fr])), (h4, .inr (4, [.ref a1, .ref a2, .ref a3, .int (nI n), .int sn, .int sg])), (a1, .inl (cI, 9, .inl fg)), (a2, .inl (cI, 9, .inl fb)), (a3, .inl (cI, 9, .inl fp)), (p4, .inl (cI, 9, .inl u7_uq)), (p5, .inl (cJ, len, .inr (.inl u7_ub))), (p6, .inl (cI, len, .inl u7_uw)), (s2, .inr (3, [.ref b1, .ref b2, .int pt, .int rc, .int (nI y)])), (b1, .inl (cJ, 320, .inr (.inl fw)))] H := hP
              have hD : va_D (aA as) [(h0, .inr (1, [.ref h4, .ref s2, .ref s3, .ref p4, .ref p5, .ref p6, .int fr])), (h4, .inr (4, [.ref a1, .ref a2, .ref a3, .int (nI n), .int sn, .int sg])), (a1, .inl (cI, 9, .inl fg)), (a2, .inl (cI, 9, .inl fb)), (a3, .inl (cI, 9, .inl fp)), (p4, .inl (cI, 9, .inl u7_uq)), (p5, .inl (cJ, len, .inr (.inl u7_ub))), (p6, .inl (cI, len, .inl u7_uw)), (s2, .inr (3, [.ref b1, .ref b2, .int pt, .int rc, .int (nI y)])), (b1, .inl (cJ, 320, .inr (.inl fw)))] := hD
              have w7 : ∀ z, z < op → u7_uq z = fq z := w7r
              clear w7r
              have hq139 := fun z hz => (w7 z hz).trans (hq88 z hz)
              refine lv_goto (tgt := 159) hx hb dX1_fill_142 (by decide) ?_
              refine lv_aload_n hx hb dX1_fill_159 rfl (lv_at hl 3 rfl) ?_
              refine va_get (D := D) (ci := 1) (v := .ref p4) (C := RX1) (T := TX1) (N := 7) hx hb hts hiX1 hown hK hP 0 rfl rfl 3 (by decide) hf9 (fun _ h9 => h9) rfl dX1_fill_160 ?_
              refine lv_iload hx hb dX1_fill_163 (lv_at hl 9 rfl) ?_
              refine lv_iload_n hx hb dX1_fill_165 rfl (lv_at hl 4 rfl) ?_
              refine va_iast hx hb hK hP hD hS 5 0 rfl rfl (i := nI op) (vp_in_nI (by omega) (by omega)) dX1_fill_166 (fun H locs hP hD hS => ?_)
              have hP : va_P D vwCl [(h0, .inr (1, [.ref h4, .ref s2, .ref s3, .ref p4, .ref p5, .ref p6, .int fr])), (h4, .inr (4, [.ref a1, .ref a2, .ref a3, .int (nI n), .int sn, .int sg])), (a1, .inl (cI, 9, .inl fg)), (a2, .inl (cI, 9, .inl fb)), (a3, .inl (cI, 9, .inl fp)), (p4, .inl (cI, 9, .inl (upd u7_uq (nI op).toNatClampNeg (nI k)))), (p5, .inl (cJ, len, .inr (.inl u7_ub))), (p6, .inl (cI, len, .inl u7_uw)), (s2, .inr (3, [.ref b1, .ref b2, .int pt, .int rc, .int (nI y)])), (b1, .inl (cJ, 320, .inr (.inl fw)))] H := hP
              have hD : va_D (aA as) [(h0, .inr (1, [.ref h4, .ref s2, .ref s3, .ref p4, .ref p5, .ref p6, .int fr])), (h4, .inr (4, [.ref a1, .ref a2, .ref a3, .int (nI n), .int sn, .int sg])), (a1, .inl (cI, 9, .inl fg)), (a2, .inl (cI, 9, .inl fb)), (a3, .inl (cI, 9, .inl fp)), (p4, .inl (cI, 9, .inl (upd u7_uq (nI op).toNatClampNeg (nI k)))), (p5, .inl (cJ, len, .inr (.inl u7_ub))), (p6, .inl (cI, len, .inl u7_uw)), (s2, .inr (3, [.ref b1, .ref b2, .int pt, .int rc, .int (nI y)])), (b1, .inl (cJ, 320, .inr (.inl fw)))] := hD
              rw [nI_clamp (n := op) (by omega)] at hP hD
              refine lv_aload_n hx hb dX1_fill_167 rfl (lv_at hl 3 rfl) ?_
              refine lv_iload_n hx hb dX1_fill_168 rfl (lv_at hl 4 rfl) ?_
              refine lv_iconst (v := nI 1) hx hb dX1_fill_169 (by decide) ?_
              refine lv_isub hx hb dX1_fill_170 ?_
              refine cn_i (y := pI k) (pI_sub k) ?_
              refine lv_iload_n hx hb dX1_fill_171 rfl (lv_at hl 5 rfl) ?_
              refine lv_iload_n hx hb dX1_fill_172 rfl (lv_at hl 6 rfl) ?_
              refine lv_iload hx hb dX1_fill_173 (lv_at hl 7 rfl) ?_
              refine lv_lload hx hb dX1_fill_175 (lv_at hl 8 rfl) ?_
              refine lv_aload_n hx hb dX1_fill_177 rfl (lv_at hl 3 rfl) ?_
              refine va_get (D := D) (ci := 1) (v := .ref h4) (C := RX1) (T := TX1) (N := 7) hx hb hts hiX1 hown hK hP 0 rfl rfl 0 (by decide) hf22 (fun _ h9 => h9) rfl dX1_fill_178 ?_
              refine va_getN (D := D) (ci := 4) (v := .ref a1) (C := RX4) (T := TX4) (N := 6) hx hb hts hiX4 hown hK hP 1 rfl rfl 0 (by decide) hf123 (fun _ h9 => h9) rfl dX1_fill_181 ?_
              refine lv_iload_n hx hb dX1_fill_184 rfl (lv_at hl 4 rfl) ?_
              refine va_iald hx hb hK hP 2 0 rfl rfl (i := nI k) (vp_in_nI (by omega) (by omega)) dX1_fill_185 ?_
              refine cn_i (y := fg k) (congrArg fg (nI_clamp (by omega))) ?_
              refine lv_aload_n hx hb dX1_fill_186 rfl (lv_at hl 3 rfl) ?_
              refine va_get (D := D) (ci := 1) (v := .ref h4) (C := RX1) (T := TX1) (N := 7) hx hb hts hiX1 hown hK hP 0 rfl rfl 0 (by decide) hf22 (fun _ h9 => h9) rfl dX1_fill_187 ?_
              refine va_getN (D := D) (ci := 4) (v := .ref a2) (C := RX4) (T := TX4) (N := 6) hx hb hts hiX4 hown hK hP 1 rfl rfl 1 (by decide) hf126 (fun _ h9 => h9) rfl dX1_fill_190 ?_
              refine lv_iload_n hx hb dX1_fill_193 rfl (lv_at hl 4 rfl) ?_
              refine va_iald hx hb hK hP 3 0 rfl rfl (i := nI k) (vp_in_nI (by omega) (by omega)) dX1_fill_194 ?_
              refine cn_i (y := fb k) (congrArg fb (nI_clamp (by omega))) ?_
              refine lv_iadd hx hb dX1_fill_195 ?_
              refine lv_i2l hx hb dX1_fill_196 rfl ?_
              refine lv_lmul hx hb dX1_fill_197 ?_
              refine lv_iload hx hb dX1_fill_198 (lv_at hl 9 rfl) ?_
              refine lv_iconst (v := nI 1) hx hb dX1_fill_200 (by decide) ?_
              refine lv_iadd hx hb dX1_fill_201 ?_
              refine cn_i (y := nI (op + 1)) (nI_add op 1) ?_
              refine mu2_v (n := 10) (wc := [(h0, .inr (1, [.ref h4, .ref s2, .ref s3, .ref p4, .ref p5, .ref p6, .int fr])), (h4, .inr (4, [.ref a1, .ref a2, .ref a3, .int (nI n), .int sn, .int sg])), (a1, .inl (cI, 9, .inl fg)), (a2, .inl (cI, 9, .inl fb)), (a3, .inl (cI, 9, .inl fp)), (p4, .inl (cI, 9, .inl (upd u7_uq op (nI k)))), (p5, .inl (cJ, len, .inr (.inl u7_ub))), (p6, .inl (cI, len, .inl u7_uw)), (s2, .inr (3, [.ref b1, .ref b2, .int pt, .int rc, .int (nI y)])), (b1, .inl (cJ, 320, .inr (.inl fw)))]) (wr := []) (as0 := [h0, h4, a1, a2, a3, p4, p5, p6, s2, b1]) (va_runV (As := [.int (pI k), .int (nI sx), .int (nI lo), .int (nI hi), .long (le * (((fg k) + (fb k)).toInt64)), .int (nI (op + 1))]) (rest := []) ⟨hx, hb, hml, hown, hts⟩ (ih h0 h4 s2 s3 p4 p5 p6 a1 a2 a3 n b1 b2 y sx lo hi (op + 1) len pt rc sn sg fr (le * (((fg k) + (fb k)).toInt64)) fg fb fp (upd u7_uq op (nI k)) u7_ub u7_uw fw (by first | assumption | omega) (by first | assumption | omega) (by first | assumption | omega) (by first | assumption | omega) (by first | assumption | omega) (by first | assumption | omega) (by first | assumption | omega) (by exact fun z hz => by by_cases e9 : z = op; exact ⟨k, by omega, by simp [upd, e9], by omega⟩; exact (by obtain ⟨x, h1, h2, h3⟩ := hfq z (by omega); exact ⟨x, h1, (upd_eq.trans (if_neg e9)).trans ((hq139 z (by omega)).trans h2), by omega⟩)) ((nz3.D hD hzA htA).sub [0, 1, 2, 3, 4, 5, 6, 7, 8, 9] rfl)) (cwV 6 hts gX1_fill_X1_fill rfl rfl rfl (by decide +kernel) ⟨(show k + 2 + 1 ≤ (k + 1) + 2 by omega), (show 8 + (11 + 11) + (k * 30 + 43) ≤ (k + 1) * 30 + 43 by omega)⟩) ⟨pmT_blind, va_recv hK hP (ci := 1) (q0 := 0) rfl rfl, fun U hU hW => ⟨rfl, by rw [hU]; exact hP.sub (ws' := [(h0, .inr (1, [.ref h4, .ref s2, .ref s3, .ref p4, .ref p5, .ref p6, .int fr])), (h4, .inr (4, [.ref a1, .ref a2, .ref a3, .int (nI n), .int sn, .int sg])), (a1, .inl (cI, 9, .inl fg)), (a2, .inl (cI, 9, .inl fb)), (a3, .inl (cI, 9, .inl fp)), (p4, .inl (cI, 9, .inl (upd u7_uq op (nI k)))), (p5, .inl (cJ, len, .inr (.inl u7_ub))), (p6, .inl (cI, len, .inl u7_uw)), (s2, .inr (3, [.ref b1, .ref b2, .int pt, .int rc, .int (nI y)])), (b1, .inl (cJ, 320, .inr (.inl fw)))]) [0, 1, 2, 3, 4, 5, 6, 7, 8, 9] rfl, hKN.warm hW, hT0.go hS hzA htA hW hU, (hD.sub (ws' := [(h0, .inr (1, [.ref h4, .ref s2, .ref s3, .ref p4, .ref p5, .ref p6, .int fr])), (h4, .inr (4, [.ref a1, .ref a2, .ref a3, .int (nI n), .int sn, .int sg])), (a1, .inl (cI, 9, .inl fg)), (a2, .inl (cI, 9, .inl fb)), (a3, .inl (cI, 9, .inl fp)), (p4, .inl (cI, 9, .inl (upd u7_uq op (nI k)))), (p5, .inl (cJ, len, .inr (.inl u7_ub))), (p6, .inl (cI, len, .inl u7_uw)), (s2, .inr (3, [.ref b1, .ref b2, .int pt, .int rc, .int (nI y)])), (b1, .inl (cJ, 320, .inr (.inl fw)))]) [0, 1, 2, 3, 4, 5, 6, 7, 8, 9] (by decide) rfl).weaken (fun _ _ _ _ => trivial)⟩⟩ rfl rfl hl.1 rfl (lv_room (Nat.le_of_ble_eq_true rfl)) dX1_fill_202 ⟨Nat.le_of_ble_eq_true rfl, Nat.le_of_ble_eq_true rfl⟩) hS hP hD (fun (u : (Nat → Int32) × (Nat → Int64) × (Nat → Int32)) => [(h0, .inr (1, [.ref h4, .ref s2, .ref s3, .ref p4, .ref p5, .ref p6, .int fr])), (h4, .inr (4, [.ref a1, .ref a2, .ref a3, .int (nI n), .int sn, .int sg])), (a1, .inl (cI, 9, .inl fg)), (a2, .inl (cI, 9, .inl fb)), (a3, .inl (cI, 9, .inl fp)), (p4, .inl (cI, 9, .inl u.1)), (p5, .inl (cJ, len, .inr (.inl u.2.1))), (p6, .inl (cI, len, .inl u.2.2)), (s2, .inr (3, [.ref b1, .ref b2, .int pt, .int rc, .int (nI y)])), (b1, .inl (cJ, 320, .inr (.inl fw)))]) [0, 1, 2, 3, 4, 5, 6, 7, 8, 9] [] rfl rfl rfl (fun _ => rfl) (fun _ => rfl) rfl (fun _ => rfl) (fun _ => rfl) (m_cov rfl) (m_dis rfl) (fun u8 H locs w8r hP hD hS => ?_)
              obtain ⟨u8_uq, u8_ub, u8_uw⟩ := u8
              have hP : va_P D vwCl [(h0, .inr (1, [.ref h4, .ref s2, .ref s3, .ref p4, .ref p5, .ref p6, .int fr])), (h4, .inr (4, [.ref a1, .ref a2, .ref a3, .int (nI n), .int sn, .int sg])), (a1, .inl (cI, 9, .inl fg)), (a2, .inl (cI, 9, .inl fb)), (a3, .inl (cI, 9, .inl fp)), (p4, .inl (cI, 9, .inl u8_uq)), (p5, .inl (cJ, len, .inr (.inl u8_ub))), (p6, .inl (cI, len, .inl u8_uw)), (s2, .inr (3, [.ref b1, .ref b2, .int pt, .int rc, .int (nI y)])), (b1, .inl (cJ, 320, .inr (.inl fw)))] H := hP
              have hD : va_D (aA as) [(h0, .inr (1, [.ref h4, .ref s2, .ref s3, .ref p4, .ref p5, .ref p6, .int fr])), (h4, .inr (4, [.ref a1, .ref a2, .ref a3, .int (nI n), .int sn, .int sg])), (a1, .inl (cI, 9, .inl fg)), (a2, .inl (cI, 9, .inl fb)), (a3, .inl (cI, 9, .inl fp)), (p4, .inl (cI, 9, .inl u8_uq)), (p5, .inl (cJ, len, .inr (.inl u8_ub))), (p6, .inl (cI, len, .inl u8_uw)), (s2, .inr (3, [.ref b1, .ref b2, .int pt, .int rc, .int (nI y)])), (b1, .inl (cJ, 320, .inr (.inl fw)))] := hD
              have w8 : ∀ z, z < (op + 1) → u8_uq z = (upd u7_uq op (nI k)) z := w8r
              clear w8r
              rw [← hQ]
              exact W.vret hx hb hr (fun tS htS hWS => ⟨⟨(u8_uq, u8_ub, u8_uw), rfl, fun z hz => (w8 z (by omega)).trans ((upd_eq.trans (if_neg (by omega))).trans (hq139 z hz)), m_at htS hP⟩, by rw [← has]; exact hS.F htS⟩) (by rw [← has]; exact hS.2.2) dX1_fill_205
          · skip
            refine lv_if_eq (tgt := 145) hx hb dX1_fill_110 (by decide) (fun c9 => ?_) (fun c9 => ?_)
            · skip
              refine lv_aload_n hx hb dX1_fill_145 rfl (lv_at hl 3 rfl) ?_
              refine lv_iload_n hx hb dX1_fill_146 rfl (lv_at hl 5 rfl) ?_
              refine lv_iload hx hb dX1_fill_147 (lv_at hl 2 rfl) ?_
              refine lv_iadd hx hb dX1_fill_149 ?_
              refine cn_i (y := nI (sx + (3 ^ k))) (nI_add sx (3 ^ k)) ?_
              refine lv_iload_n hx hb dX1_fill_150 rfl (lv_at hl 5 rfl) ?_
              refine lv_iconst (v := nI 2) hx hb dX1_fill_151 (by decide) ?_
              refine lv_iload hx hb dX1_fill_152 (lv_at hl 2 rfl) ?_
              refine lv_imul hx hb dX1_fill_154 ?_
              refine cn_i (y := nI (2 * (3 ^ k))) (pk_mul 2 (3 ^ k)) ?_
              refine lv_iadd hx hb dX1_fill_155 ?_
              refine cn_i (y := nI (sx + (2 * (3 ^ k)))) (nI_add sx (2 * (3 ^ k))) ?_
              refine mu2_v (n := 10) (wc := [(h0, .inr (1, [.ref h4, .ref s2, .ref s3, .ref p4, .ref p5, .ref p6, .int fr])), (p5, .inl (cJ, len, .inr (.inl u4_ub))), (p6, .inl (cI, len, .inl u4_uw))]) (wr := [(h4, .inr (4, [.ref a1, .ref a2, .ref a3, .int (nI n), .int sn, .int sg])), (a1, .inl (cI, 9, .inl fg)), (a2, .inl (cI, 9, .inl fb)), (a3, .inl (cI, 9, .inl fp)), (p4, .inl (cI, 9, .inl fq)), (s2, .inr (3, [.ref b1, .ref b2, .int pt, .int rc, .int (nI y)])), (b1, .inl (cJ, 320, .inr (.inl fw)))]) (as0 := [h0, h4, a1, a2, a3, p4, p5, p6, s2, b1]) (va_runV (As := [.int (nI (sx + (3 ^ k))), .int (nI (sx + (2 * (3 ^ k))))]) (rest := []) ⟨hx, hb, hml, hown, hts⟩ (c_X1_fillSure l D cI cJ cZ h0 h4 s2 s3 p4 p5 p6 a1 a2 a3 n (sx + (3 ^ k)) (sx + (2 * (3 ^ k))) len fr u4_ub u4_uw (by first | assumption | omega) (by first | assumption | omega) (by first | assumption | omega)) (cwV 2 hts gX1_fill_X1_fillSure rfl rfl rfl (by decide +kernel) ⟨(show 0 + 1 ≤ (k + 1) + 2 by omega), (show 8 + (4 + 11) + (0) ≤ (k + 1) * 30 + 43 by omega)⟩) ⟨pm_blind, va_recv hK hP (ci := 1) (q0 := 0) rfl rfl, fun U hU hW => ⟨rfl, by rw [hU]; exact hP.sub (ws' := [(h0, .inr (1, [.ref h4, .ref s2, .ref s3, .ref p4, .ref p5, .ref p6, .int fr])), (p5, .inl (cJ, len, .inr (.inl u4_ub))), (p6, .inl (cI, len, .inl u4_uw))]) [0, 6, 7] rfl, hKN.warm hW, (hD.sub (ws' := [(h0, .inr (1, [.ref h4, .ref s2, .ref s3, .ref p4, .ref p5, .ref p6, .int fr])), (p5, .inl (cJ, len, .inr (.inl u4_ub))), (p6, .inl (cI, len, .inl u4_uw))]) [0, 6, 7] (by decide) rfl).weaken (fun _ _ _ _ => trivial)⟩⟩ rfl rfl hl.1 rfl (lv_room (Nat.le_of_ble_eq_true rfl)) dX1_fill_156 ⟨Nat.le_of_ble_eq_true rfl, Nat.le_of_ble_eq_true rfl⟩) hS hP hD (fun (u : (Nat → Int64) × (Nat → Int32)) => [(h0, .inr (1, [.ref h4, .ref s2, .ref s3, .ref p4, .ref p5, .ref p6, .int fr])), (h4, .inr (4, [.ref a1, .ref a2, .ref a3, .int (nI n), .int sn, .int sg])), (a1, .inl (cI, 9, .inl fg)), (a2, .inl (cI, 9, .inl fb)), (a3, .inl (cI, 9, .inl fp)), (p4, .inl (cI, 9, .inl fq)), (p5, .inl (cJ, len, .inr (.inl u.1))), (p6, .inl (cI, len, .inl u.2)), (s2, .inr (3, [.ref b1, .ref b2, .int pt, .int rc, .int (nI y)])), (b1, .inl (cJ, 320, .inr (.inl fw)))]) [0, 6, 7] [1, 2, 3, 4, 5, 8, 9] rfl rfl rfl (fun _ => rfl) (fun _ => rfl) rfl (fun _ => rfl) (fun _ => rfl) (m_cov rfl) (m_dis rfl) (fun u10 H locs w10r hP hD hS => ?_)
              obtain ⟨u10_ub, u10_uw⟩ := u10
              have hP : va_P D vwCl [(h0, .inr (1, [.ref h4, .ref s2, .ref s3, .ref p4, .ref p5, .ref p6, .int fr])), (h4, .inr (4, [.ref a1, .ref a2, .ref a3, .int (nI n), .int sn, .int sg])), (a1, .inl (cI, 9, .inl fg)), (a2, .inl (cI, 9, .inl fb)), (a3, .inl (cI, 9, .inl fp)), (p4, .inl (cI, 9, .inl fq)), (p5, .inl (cJ, len, .inr (.inl u10_ub))), (p6, .inl (cI, len, .inl u10_uw)), (s2, .inr (3, [.ref b1, .ref b2, .int pt, .int rc, .int (nI y)])), (b1, .inl (cJ, 320, .inr (.inl fw)))] H := hP
              have hD : va_D (aA as) [(h0, .inr (1, [.ref h4, .ref s2, .ref s3, .ref p4, .ref p5, .ref p6, .int fr])), (h4, .inr (4, [.ref a1, .ref a2, .ref a3, .int (nI n), .int sn, .int sg])), (a1, .inl (cI, 9, .inl fg)), (a2, .inl (cI, 9, .inl fb)), (a3, .inl (cI, 9, .inl fp)), (p4, .inl (cI, 9, .inl fq)), (p5, .inl (cJ, len, .inr (.inl u10_ub))), (p6, .inl (cI, len, .inl u10_uw)), (s2, .inr (3, [.ref b1, .ref b2, .int pt, .int rc, .int (nI y)])), (b1, .inl (cJ, 320, .inr (.inl fw)))] := hD
              have w10 : True := w10r
              clear w10r
              have hq139 := hq88
              refine lv_aload_n hx hb dX1_fill_159 rfl (lv_at hl 3 rfl) ?_
              refine va_get (D := D) (ci := 1) (v := .ref p4) (C := RX1) (T := TX1) (N := 7) hx hb hts hiX1 hown hK hP 0 rfl rfl 3 (by decide) hf9 (fun _ h9 => h9) rfl dX1_fill_160 ?_
              refine lv_iload hx hb dX1_fill_163 (lv_at hl 9 rfl) ?_
              refine lv_iload_n hx hb dX1_fill_165 rfl (lv_at hl 4 rfl) ?_
              refine va_iast hx hb hK hP hD hS 5 0 rfl rfl (i := nI op) (vp_in_nI (by omega) (by omega)) dX1_fill_166 (fun H locs hP hD hS => ?_)
              have hP : va_P D vwCl [(h0, .inr (1, [.ref h4, .ref s2, .ref s3, .ref p4, .ref p5, .ref p6, .int fr])), (h4, .inr (4, [.ref a1, .ref a2, .ref a3, .int (nI n), .int sn, .int sg])), (a1, .inl (cI, 9, .inl fg)), (a2, .inl (cI, 9, .inl fb)), (a3, .inl (cI, 9, .inl fp)), (p4, .inl (cI, 9, .inl (upd fq (nI op).toNatClampNeg (nI k)))), (p5, .inl (cJ, len, .inr (.inl u10_ub))), (p6, .inl (cI, len, .inl u10_uw)), (s2, .inr (3, [.ref b1, .ref b2, .int pt, .int rc, .int (nI y)])), (b1, .inl (cJ, 320, .inr (.inl fw)))] H := hP
              have hD : va_D (aA as) [(h0, .inr (1, [.ref h4, .ref s2, .ref s3, .ref p4, .ref p5, .ref p6, .int fr])), (h4, .inr (4, [.ref a1, .ref a2, .ref a3, .int (nI n), .int sn, .int sg])), (a1, .inl (cI, 9, .inl fg)), (a2, .inl (cI, 9, .inl fb)), (a3, .inl (cI, 9, .inl fp)), (p4, .inl (cI, 9, .inl (upd fq (nI op).toNatClampNeg (nI k)))), (p5, .inl (cJ, len, .inr (.inl u10_ub))), (p6, .inl (cI, len, .inl u10_uw)), (s2, .inr (3, [.ref b1, .ref b2, .int pt, .int rc, .int (nI y)])), (b1, .inl (cJ, 320, .inr (.inl fw)))] := hD
              rw [nI_clamp (n := op) (by omega)] at hP hD
              refine lv_aload_n hx hb dX1_fill_167 rfl (lv_at hl 3 rfl) ?_
              refine lv_iload_n hx hb dX1_fill_168 rfl (lv_at hl 4 rfl) ?_
              refine lv_iconst (v := nI 1) hx hb dX1_fill_169 (by decide) ?_
              refine lv_isub hx hb dX1_fill_170 ?_
              refine cn_i (y := pI k) (pI_sub k) ?_
              refine lv_iload_n hx hb dX1_fill_171 rfl (lv_at hl 5 rfl) ?_
              refine lv_iload_n hx hb dX1_fill_172 rfl (lv_at hl 6 rfl) ?_
              refine lv_iload hx hb dX1_fill_173 (lv_at hl 7 rfl) ?_
              refine lv_lload hx hb dX1_fill_175 (lv_at hl 8 rfl) ?_
              refine lv_aload_n hx hb dX1_fill_177 rfl (lv_at hl 3 rfl) ?_
              refine va_get (D := D) (ci := 1) (v := .ref h4) (C := RX1) (T := TX1) (N := 7) hx hb hts hiX1 hown hK hP 0 rfl rfl 0 (by decide) hf22 (fun _ h9 => h9) rfl dX1_fill_178 ?_
              refine va_getN (D := D) (ci := 4) (v := .ref a1) (C := RX4) (T := TX4) (N := 6) hx hb hts hiX4 hown hK hP 1 rfl rfl 0 (by decide) hf123 (fun _ h9 => h9) rfl dX1_fill_181 ?_
              refine lv_iload_n hx hb dX1_fill_184 rfl (lv_at hl 4 rfl) ?_
              refine va_iald hx hb hK hP 2 0 rfl rfl (i := nI k) (vp_in_nI (by omega) (by omega)) dX1_fill_185 ?_
              refine cn_i (y := fg k) (congrArg fg (nI_clamp (by omega))) ?_
              refine lv_aload_n hx hb dX1_fill_186 rfl (lv_at hl 3 rfl) ?_
              refine va_get (D := D) (ci := 1) (v := .ref h4) (C := RX1) (T := TX1) (N := 7) hx hb hts hiX1 hown hK hP 0 rfl rfl 0 (by decide) hf22 (fun _ h9 => h9) rfl dX1_fill_187 ?_
              refine va_getN (D := D) (ci := 4) (v := .ref a2) (C := RX4) (T := TX4) (N := 6) hx hb hts hiX4 hown hK hP 1 rfl rfl 1 (by decide) hf126 (fun _ h9 => h9) rfl dX1_fill_190 ?_
              refine lv_iload_n hx hb dX1_fill_193 rfl (lv_at hl 4 rfl) ?_
              refine va_iald hx hb hK hP 3 0 rfl rfl (i := nI k) (vp_in_nI (by omega) (by omega)) dX1_fill_194 ?_
              refine cn_i (y := fb k) (congrArg fb (nI_clamp (by omega))) ?_
              refine lv_iadd hx hb dX1_fill_195 ?_
              refine lv_i2l hx hb dX1_fill_196 rfl ?_
              refine lv_lmul hx hb dX1_fill_197 ?_
              refine lv_iload hx hb dX1_fill_198 (lv_at hl 9 rfl) ?_
              refine lv_iconst (v := nI 1) hx hb dX1_fill_200 (by decide) ?_
              refine lv_iadd hx hb dX1_fill_201 ?_
              refine cn_i (y := nI (op + 1)) (nI_add op 1) ?_
              refine mu2_v (n := 10) (wc := [(h0, .inr (1, [.ref h4, .ref s2, .ref s3, .ref p4, .ref p5, .ref p6, .int fr])), (h4, .inr (4, [.ref a1, .ref a2, .ref a3, .int (nI n), .int sn, .int sg])), (a1, .inl (cI, 9, .inl fg)), (a2, .inl (cI, 9, .inl fb)), (a3, .inl (cI, 9, .inl fp)), (p4, .inl (cI, 9, .inl (upd fq op (nI k)))), (p5, .inl (cJ, len, .inr (.inl u10_ub))), (p6, .inl (cI, len, .inl u10_uw)), (s2, .inr (3, [.ref b1, .ref b2, .int pt, .int rc, .int (nI y)])), (b1, .inl (cJ, 320, .inr (.inl fw)))]) (wr := []) (as0 := [h0, h4, a1, a2, a3, p4, p5, p6, s2, b1]) (va_runV (As := [.int (pI k), .int (nI sx), .int (nI lo), .int (nI hi), .long (le * (((fg k) + (fb k)).toInt64)), .int (nI (op + 1))]) (rest := []) ⟨hx, hb, hml, hown, hts⟩ (ih h0 h4 s2 s3 p4 p5 p6 a1 a2 a3 n b1 b2 y sx lo hi (op + 1) len pt rc sn sg fr (le * (((fg k) + (fb k)).toInt64)) fg fb fp (upd fq op (nI k)) u10_ub u10_uw fw (by first | assumption | omega) (by first | assumption | omega) (by first | assumption | omega) (by first | assumption | omega) (by first | assumption | omega) (by first | assumption | omega) (by first | assumption | omega) (by exact fun z hz => by by_cases e9 : z = op; exact ⟨k, by omega, by simp [upd, e9], by omega⟩; exact (by obtain ⟨x, h1, h2, h3⟩ := hfq z (by omega); exact ⟨x, h1, (upd_eq.trans (if_neg e9)).trans ((hq139 z (by omega)).trans h2), by omega⟩)) ((nz3.D hD hzA htA).sub [0, 1, 2, 3, 4, 5, 6, 7, 8, 9] rfl)) (cwV 6 hts gX1_fill_X1_fill rfl rfl rfl (by decide +kernel) ⟨(show k + 2 + 1 ≤ (k + 1) + 2 by omega), (show 8 + (11 + 11) + (k * 30 + 43) ≤ (k + 1) * 30 + 43 by omega)⟩) ⟨pmT_blind, va_recv hK hP (ci := 1) (q0 := 0) rfl rfl, fun U hU hW => ⟨rfl, by rw [hU]; exact hP.sub (ws' := [(h0, .inr (1, [.ref h4, .ref s2, .ref s3, .ref p4, .ref p5, .ref p6, .int fr])), (h4, .inr (4, [.ref a1, .ref a2, .ref a3, .int (nI n), .int sn, .int sg])), (a1, .inl (cI, 9, .inl fg)), (a2, .inl (cI, 9, .inl fb)), (a3, .inl (cI, 9, .inl fp)), (p4, .inl (cI, 9, .inl (upd fq op (nI k)))), (p5, .inl (cJ, len, .inr (.inl u10_ub))), (p6, .inl (cI, len, .inl u10_uw)), (s2, .inr (3, [.ref b1, .ref b2, .int pt, .int rc, .int (nI y)])), (b1, .inl (cJ, 320, .inr (.inl fw)))]) [0, 1, 2, 3, 4, 5, 6, 7, 8, 9] rfl, hKN.warm hW, hT0.go hS hzA htA hW hU, (hD.sub (ws' := [(h0, .inr (1, [.ref h4, .ref s2, .ref s3, .ref p4, .ref p5, .ref p6, .int fr])), (h4, .inr (4, [.ref a1, .ref a2, .ref a3, .int (nI n), .int sn, .int sg])), (a1, .inl (cI, 9, .inl fg)), (a2, .inl (cI, 9, .inl fb)), (a3, .inl (cI, 9, .inl fp)), (p4, .inl (cI, 9, .inl (upd fq op (nI k)))), (p5, .inl (cJ, len, .inr (.inl u10_ub))), (p6, .inl (cI, len, .inl u10_uw)), (s2, .inr (3, [.ref b1, .ref b2, .int pt, .int rc, .int (nI y)])), (b1, .inl (cJ, 320, .inr (.inl fw)))]) [0, 1, 2, 3, 4, 5, 6, 7, 8, 9] (by decide) rfl).weaken (fun _ _ _ _ => trivial)⟩⟩ rfl rfl hl.1 rfl (lv_room (Nat.le_of_ble_eq_true rfl)) dX1_fill_202 ⟨Nat.le_of_ble_eq_true rfl, Nat.le_of_ble_eq_true rfl⟩) hS hP hD (fun (u : (Nat → Int32) × (Nat → Int64) × (Nat → Int32)) => [(h0, .inr (1, [.ref h4, .ref s2, .ref s3, .ref p4, .ref p5, .ref p6, .int fr])), (h4, .inr (4, [.ref a1, .ref a2, .ref a3, .int (nI n), .int sn, .int sg])), (a1, .inl (cI, 9, .inl fg)), (a2, .inl (cI, 9, .inl fb)), (a3, .inl (cI, 9, .inl fp)), (p4, .inl (cI, 9, .inl u.1)), (p5, .inl (cJ, len, .inr (.inl u.2.1))), (p6, .inl (cI, len, .inl u.2.2)), (s2, .inr (3, [.ref b1, .ref b2, .int pt, .int rc, .int (nI y)])), (b1, .inl (cJ, 320, .inr (.inl fw)))]) [0, 1, 2, 3, 4, 5, 6, 7, 8, 9] [] rfl rfl rfl (fun _ => rfl) (fun _ => rfl) rfl (fun _ => rfl) (fun _ => rfl) (m_cov rfl) (m_dis rfl) (fun u11 H locs w11r hP hD hS => ?_)
              obtain ⟨u11_uq, u11_ub, u11_uw⟩ := u11
              have hP : va_P D vwCl [(h0, .inr (1, [.ref h4, .ref s2, .ref s3, .ref p4, .ref p5, .ref p6, .int fr])), (h4, .inr (4, [.ref a1, .ref a2, .ref a3, .int (nI n), .int sn, .int sg])), (a1, .inl (cI, 9, .inl fg)), (a2, .inl (cI, 9, .inl fb)), (a3, .inl (cI, 9, .inl fp)), (p4, .inl (cI, 9, .inl u11_uq)), (p5, .inl (cJ, len, .inr (.inl u11_ub))), (p6, .inl (cI, len, .inl u11_uw)), (s2, .inr (3, [.ref b1, .ref b2, .int pt, .int rc, .int (nI y)])), (b1, .inl (cJ, 320, .inr (.inl fw)))] H := hP
              have hD : va_D (aA as) [(h0, .inr (1, [.ref h4, .ref s2, .ref s3, .ref p4, .ref p5, .ref p6, .int fr])), (h4, .inr (4, [.ref a1, .ref a2, .ref a3, .int (nI n), .int sn, .int sg])), (a1, .inl (cI, 9, .inl fg)), (a2, .inl (cI, 9, .inl fb)), (a3, .inl (cI, 9, .inl fp)), (p4, .inl (cI, 9, .inl u11_uq)), (p5, .inl (cJ, len, .inr (.inl u11_ub))), (p6, .inl (cI, len, .inl u11_uw)), (s2, .inr (3, [.ref b1, .ref b2, .int pt, .int rc, .int (nI y)])), (b1, .inl (cJ, 320, .inr (.inl fw)))] := hD
              have w11 : ∀ z, z < (op + 1) → u11_uq z = (upd fq op (nI k)) z := w11r
              clear w11r
              rw [← hQ]
              exact W.vret hx hb hr (fun tS htS hWS => ⟨⟨(u11_uq, u11_ub, u11_uw), rfl, fun z hz => (w11 z (by omega)).trans ((upd_eq.trans (if_neg (by omega))).trans (hq139 z hz)), m_at htS hP⟩, by rw [← has]; exact hS.F htS⟩) (by rw [← has]; exact hS.2.2) dX1_fill_205
            · exact absurd c9 (by first | decide | exact nz_lt (by omega) | exact fun h => h (nz_ge (by omega)))
      · skip
        refine lv_if_eq (tgt := 59) hx hb dX1_fill_37 (by decide) (fun c12 => ?_) (fun c12 => ?_)
        · skip
          refine lv_aload_n hx hb dX1_fill_59 rfl (lv_at hl 2 rfl) ?_
          refine lv_iload_n hx hb dX1_fill_60 rfl (lv_at hl 3 rfl) ?_
          refine lv_iconst (v := nI 1) hx hb dX1_fill_61 (by decide) ?_
          refine lv_isub hx hb dX1_fill_62 ?_
          refine cn_i (y := pI k) (pI_sub k) ?_
          refine lv_iload_n hx hb dX1_fill_63 rfl (lv_at hl 4 rfl) ?_
          refine lv_iconst (v := nI 2) hx hb dX1_fill_64 (by decide) ?_
          refine lv_iload hx hb dX1_fill_65 (lv_at hl 1 rfl) ?_
          refine lv_imul hx hb dX1_fill_67 ?_
          refine cn_i (y := nI (2 * (3 ^ k))) (pk_mul 2 (3 ^ k)) ?_
          refine lv_iadd hx hb dX1_fill_68 ?_
          refine cn_i (y := nI (sx + (2 * (3 ^ k)))) (nI_add sx (2 * (3 ^ k))) ?_
          refine lv_iload hx hb dX1_fill_69 (lv_at hl 0 rfl) ?_
          refine lv_iload hx hb dX1_fill_71 (lv_at hl 6 rfl) ?_
          refine lv_lload hx hb dX1_fill_73 (lv_at hl 7 rfl) ?_
          refine lv_aload_n hx hb dX1_fill_75 rfl (lv_at hl 2 rfl) ?_
          refine va_get (D := D) (ci := 1) (v := .ref h4) (C := RX1) (T := TX1) (N := 7) hx hb hts hiX1 hown hK hP 0 rfl rfl 0 (by decide) hf22 (fun _ h9 => h9) rfl dX1_fill_76 ?_
          refine va_getN (D := D) (ci := 4) (v := .ref a1) (C := RX4) (T := TX4) (N := 6) hx hb hts hiX4 hown hK hP 1 rfl rfl 0 (by decide) hf123 (fun _ h9 => h9) rfl dX1_fill_79 ?_
          refine lv_iload_n hx hb dX1_fill_82 rfl (lv_at hl 3 rfl) ?_
          refine va_iald hx hb hK hP 2 0 rfl rfl (i := nI k) (vp_in_nI (by omega) (by omega)) dX1_fill_83 ?_
          refine cn_i (y := fg k) (congrArg fg (nI_clamp (by omega))) ?_
          refine lv_i2l hx hb dX1_fill_84 rfl ?_
          refine lv_lmul hx hb dX1_fill_85 ?_
          refine lv_iload hx hb dX1_fill_86 (lv_at hl 8 rfl) ?_
          refine mu2_v (n := 10) (wc := [(h0, .inr (1, [.ref h4, .ref s2, .ref s3, .ref p4, .ref p5, .ref p6, .int fr])), (h4, .inr (4, [.ref a1, .ref a2, .ref a3, .int (nI n), .int sn, .int sg])), (a1, .inl (cI, 9, .inl fg)), (a2, .inl (cI, 9, .inl fb)), (a3, .inl (cI, 9, .inl fp)), (p4, .inl (cI, 9, .inl fq)), (p5, .inl (cJ, len, .inr (.inl eb))), (p6, .inl (cI, len, .inl ew)), (s2, .inr (3, [.ref b1, .ref b2, .int pt, .int rc, .int (nI y)])), (b1, .inl (cJ, 320, .inr (.inl fw)))]) (wr := []) (as0 := [h0, h4, a1, a2, a3, p4, p5, p6, s2, b1]) (va_runV (As := [.int (pI k), .int (nI (sx + (2 * (3 ^ k)))), .int (nI (lo ||| (2 ^ k))), .int (nI hi), .long (le * ((fg k).toInt64)), .int (nI op)]) (rest := []) ⟨hx, hb, hml, hown, hts⟩ (ih h0 h4 s2 s3 p4 p5 p6 a1 a2 a3 n b1 b2 y (sx + (2 * (3 ^ k))) (lo ||| (2 ^ k)) hi op len pt rc sn sg fr (le * ((fg k).toInt64)) fg fb fp fq eb ew fw (by first | assumption | omega) (by first | assumption | omega) (by first | assumption | omega) (by first | assumption | omega) (by first | assumption | omega) (by first | assumption | omega) (by first | assumption | omega) (by exact fun z hz => by obtain ⟨x, h1, h2, h3⟩ := hfq z hz; exact ⟨x, h1, by first | exact h2 | exact (hq00 z hz).trans h2, by omega⟩) ((nz3.D hD hzA htA).sub [0, 1, 2, 3, 4, 5, 6, 7, 8, 9] rfl)) (cwV 6 hts gX1_fill_X1_fill rfl rfl rfl (by decide +kernel) ⟨(show k + 2 + 1 ≤ (k + 1) + 2 by omega), (show 8 + (11 + 11) + (k * 30 + 43) ≤ (k + 1) * 30 + 43 by omega)⟩) ⟨pmT_blind, va_recv hK hP (ci := 1) (q0 := 0) rfl rfl, fun U hU hW => ⟨rfl, by rw [hU]; exact hP.sub (ws' := [(h0, .inr (1, [.ref h4, .ref s2, .ref s3, .ref p4, .ref p5, .ref p6, .int fr])), (h4, .inr (4, [.ref a1, .ref a2, .ref a3, .int (nI n), .int sn, .int sg])), (a1, .inl (cI, 9, .inl fg)), (a2, .inl (cI, 9, .inl fb)), (a3, .inl (cI, 9, .inl fp)), (p4, .inl (cI, 9, .inl fq)), (p5, .inl (cJ, len, .inr (.inl eb))), (p6, .inl (cI, len, .inl ew)), (s2, .inr (3, [.ref b1, .ref b2, .int pt, .int rc, .int (nI y)])), (b1, .inl (cJ, 320, .inr (.inl fw)))]) [0, 1, 2, 3, 4, 5, 6, 7, 8, 9] rfl, hKN.warm hW, hT0.go hS hzA htA hW hU, (hD.sub (ws' := [(h0, .inr (1, [.ref h4, .ref s2, .ref s3, .ref p4, .ref p5, .ref p6, .int fr])), (h4, .inr (4, [.ref a1, .ref a2, .ref a3, .int (nI n), .int sn, .int sg])), (a1, .inl (cI, 9, .inl fg)), (a2, .inl (cI, 9, .inl fb)), (a3, .inl (cI, 9, .inl fp)), (p4, .inl (cI, 9, .inl fq)), (p5, .inl (cJ, len, .inr (.inl eb))), (p6, .inl (cI, len, .inl ew)), (s2, .inr (3, [.ref b1, .ref b2, .int pt, .int rc, .int (nI y)])), (b1, .inl (cJ, 320, .inr (.inl fw)))]) [0, 1, 2, 3, 4, 5, 6, 7, 8, 9] (by decide) rfl).weaken (fun _ _ _ _ => trivial)⟩⟩ rfl rfl hl.1 rfl (lv_room (Nat.le_of_ble_eq_true rfl)) dX1_fill_88 ⟨Nat.le_of_ble_eq_true rfl, Nat.le_of_ble_eq_true rfl⟩) hS hP hD (fun (u : (Nat → Int32) × (Nat → Int64) × (Nat → Int32)) => [(h0, .inr (1, [.ref h4, .ref s2, .ref s3, .ref p4, .ref p5, .ref p6, .int fr])), (h4, .inr (4, [.ref a1, .ref a2, .ref a3, .int (nI n), .int sn, .int sg])), (a1, .inl (cI, 9, .inl fg)), (a2, .inl (cI, 9, .inl fb)), (a3, .inl (cI, 9, .inl fp)), (p4, .inl (cI, 9, .inl u.1)), (p5, .inl (cJ, len, .inr (.inl u.2.1))), (p6, .inl (cI, len, .inl u.2.2)), (s2, .inr (3, [.ref b1, .ref b2, .int pt, .int rc, .int (nI y)])), (b1, .inl (cJ, 320, .inr (.inl fw)))]) [0, 1, 2, 3, 4, 5, 6, 7, 8, 9] [] rfl rfl rfl (fun _ => rfl) (fun _ => rfl) rfl (fun _ => rfl) (fun _ => rfl) (m_cov rfl) (m_dis rfl) (fun u13 H locs w13r hP hD hS => ?_)
          obtain ⟨u13_uq, u13_ub, u13_uw⟩ := u13
          have hP : va_P D vwCl [(h0, .inr (1, [.ref h4, .ref s2, .ref s3, .ref p4, .ref p5, .ref p6, .int fr])), (h4, .inr (4, [.ref a1, .ref a2, .ref a3, .int (nI n), .int sn, .int sg])), (a1, .inl (cI, 9, .inl fg)), (a2, .inl (cI, 9, .inl fb)), (a3, .inl (cI, 9, .inl fp)), (p4, .inl (cI, 9, .inl u13_uq)), (p5, .inl (cJ, len, .inr (.inl u13_ub))), (p6, .inl (cI, len, .inl u13_uw)), (s2, .inr (3, [.ref b1, .ref b2, .int pt, .int rc, .int (nI y)])), (b1, .inl (cJ, 320, .inr (.inl fw)))] H := hP
          have hD : va_D (aA as) [(h0, .inr (1, [.ref h4, .ref s2, .ref s3, .ref p4, .ref p5, .ref p6, .int fr])), (h4, .inr (4, [.ref a1, .ref a2, .ref a3, .int (nI n), .int sn, .int sg])), (a1, .inl (cI, 9, .inl fg)), (a2, .inl (cI, 9, .inl fb)), (a3, .inl (cI, 9, .inl fp)), (p4, .inl (cI, 9, .inl u13_uq)), (p5, .inl (cJ, len, .inr (.inl u13_ub))), (p6, .inl (cI, len, .inl u13_uw)), (s2, .inr (3, [.ref b1, .ref b2, .int pt, .int rc, .int (nI y)])), (b1, .inl (cJ, 320, .inr (.inl fw)))] := hD
          have w13 : ∀ z, z < op → u13_uq z = fq z := w13r
          clear w13r
          have hq88 := w13
          refine lv_iload hx hb dX1_fill_91 (lv_at hl 6 rfl) ?_
          refine lv_iconst (v := nI 1) hx hb dX1_fill_93 (by decide) ?_
          refine lv_iload_n hx hb dX1_fill_94 rfl (lv_at hl 3 rfl) ?_
          refine lv_ishl hx hb dX1_fill_95 ?_
          refine cn_i (y := nI (2 ^ k)) (m_shl1 (by omega)) ?_
          refine lv_iconst (v := (-1 : Int32)) hx hb dX1_fill_96 (by decide) ?_
          refine lv_ixor hx hb dX1_fill_97 ?_
          refine lv_iand hx hb dX1_fill_98 ?_
          refine cn_i (y := nI (hi &&& ((2 ^ 9 - 1) ^^^ 2 ^ k))) (mb_clr hhi (by omega)) ?_
          refine lv_istore (lv' := [(10, .int (nI (hi &&& ((2 ^ 9 - 1) ^^^ 2 ^ k)))), (9, .int (nI (lo ||| (2 ^ k)))), (8, .int (nI (3 ^ k))), (0, .ref h0), (1, .int (nI k)), (2, .int (nI sx)), (3, .int (nI lo)), (4, .int (nI hi)), (5, .long le), (7, .int (nI op))]) hx hb dX1_fill_99 hl (by decide) rfl (fun ls hl => ?_)
          refine lv_aload_n hx hb dX1_fill_101 rfl (lv_at hl 3 rfl) ?_
          refine va_get (D := D) (ci := 1) (v := .ref s2) (C := RX1) (T := TX1) (N := 7) hx hb hts hiX1 hown hK hP 0 rfl rfl 1 (by decide) hf26 (fun _ h9 => h9) rfl dX1_fill_102 ?_
          refine lv_iload hx hb dX1_fill_105 (lv_at hl 0 rfl) ?_
          refine pu_i (va_runV (As := [.int (nI (hi &&& ((2 ^ 9 - 1) ^^^ 2 ^ k)))]) (rest := []) ⟨hx, hb, hml, hown, hts⟩ (c_X3_isSystemGood l D cI cJ cZ s2 b1 b2 y (hi &&& ((2 ^ 9 - 1) ^^^ 2 ^ k)) pt rc fw (by first | assumption | omega) (by first | assumption | omega)) (cwV 1 hts gX1_fill_X3_isSystemGood rfl rfl rfl (by decide +kernel) ⟨(show 1 + 1 ≤ (k + 1) + 2 by omega), (show 8 + (2 + 11) + (22) ≤ (k + 1) * 30 + 43 by omega)⟩) ⟨pc_blind, va_recv hK hP (ci := 3) (q0 := 8) rfl rfl, fun U hU hW => ⟨rfl, by rw [hU]; exact hP.sub (ws' := [(s2, .inr (3, [.ref b1, .ref b2, .int pt, .int rc, .int (nI y)])), (b1, .inl (cJ, 320, .inr (.inl fw)))]) [8, 9] rfl, hKN.warm hW⟩⟩ rfl rfl hl.1 rfl (lv_room (Nat.le_of_ble_eq_true rfl)) dX1_fill_107 ⟨Nat.le_of_ble_eq_true rfl, Nat.le_of_ble_eq_true rfl⟩) hS hP (fun r14 H locs w14r hP hS => ?_)
          have w14 : B01 r14 (isG fw y (hi &&& ((2 ^ 9 - 1) ^^^ 2 ^ k))) := w14r
          clear w14r
          rcases w14 with ⟨rfl, w14⟩ | ⟨rfl, w14⟩
          · skip
            refine lv_if_eq (tgt := 145) hx hb dX1_fill_110 (by decide) (fun c15 => ?_) (fun c15 => ?_)
            · exact absurd c15 (by first | decide | exact nz_lt (by omega) | exact fun h => h (nz_ge (by omega)))
            · skip
              refine lv_aload_n hx hb dX1_fill_113 rfl (lv_at hl 3 rfl) ?_
              refine lv_iload_n hx hb dX1_fill_114 rfl (lv_at hl 4 rfl) ?_
              refine lv_iconst (v := nI 1) hx hb dX1_fill_115 (by decide) ?_
              refine lv_isub hx hb dX1_fill_116 ?_
              refine cn_i (y := pI k) (pI_sub k) ?_
              refine lv_iload_n hx hb dX1_fill_117 rfl (lv_at hl 5 rfl) ?_
              refine lv_iload hx hb dX1_fill_118 (lv_at hl 2 rfl) ?_
              refine lv_iadd hx hb dX1_fill_120 ?_
              refine cn_i (y := nI (sx + (3 ^ k))) (nI_add sx (3 ^ k)) ?_
              refine lv_iload_n hx hb dX1_fill_121 rfl (lv_at hl 6 rfl) ?_
              refine lv_iload hx hb dX1_fill_122 (lv_at hl 0 rfl) ?_
              refine lv_lload hx hb dX1_fill_124 (lv_at hl 8 rfl) ?_
              refine lv_aload_n hx hb dX1_fill_126 rfl (lv_at hl 3 rfl) ?_
              refine va_get (D := D) (ci := 1) (v := .ref h4) (C := RX1) (T := TX1) (N := 7) hx hb hts hiX1 hown hK hP 0 rfl rfl 0 (by decide) hf22 (fun _ h9 => h9) rfl dX1_fill_127 ?_
              refine va_getN (D := D) (ci := 4) (v := .ref a2) (C := RX4) (T := TX4) (N := 6) hx hb hts hiX4 hown hK hP 1 rfl rfl 1 (by decide) hf126 (fun _ h9 => h9) rfl dX1_fill_130 ?_
              refine lv_iload_n hx hb dX1_fill_133 rfl (lv_at hl 4 rfl) ?_
              refine va_iald hx hb hK hP 3 0 rfl rfl (i := nI k) (vp_in_nI (by omega) (by omega)) dX1_fill_134 ?_
              refine cn_i (y := fb k) (congrArg fb (nI_clamp (by omega))) ?_
              refine lv_i2l hx hb dX1_fill_135 rfl ?_
              refine lv_lmul hx hb dX1_fill_136 ?_
              refine lv_iload hx hb dX1_fill_137 (lv_at hl 9 rfl) ?_
              refine mu2_v (n := 10) (wc := [(h0, .inr (1, [.ref h4, .ref s2, .ref s3, .ref p4, .ref p5, .ref p6, .int fr])), (h4, .inr (4, [.ref a1, .ref a2, .ref a3, .int (nI n), .int sn, .int sg])), (a1, .inl (cI, 9, .inl fg)), (a2, .inl (cI, 9, .inl fb)), (a3, .inl (cI, 9, .inl fp)), (p4, .inl (cI, 9, .inl u13_uq)), (p5, .inl (cJ, len, .inr (.inl u13_ub))), (p6, .inl (cI, len, .inl u13_uw)), (s2, .inr (3, [.ref b1, .ref b2, .int pt, .int rc, .int (nI y)])), (b1, .inl (cJ, 320, .inr (.inl fw)))]) (wr := []) (as0 := [h0, h4, a1, a2, a3, p4, p5, p6, s2, b1]) (va_runV (As := [.int (pI k), .int (nI (sx + (3 ^ k))), .int (nI lo), .int (nI (hi &&& ((2 ^ 9 - 1) ^^^ 2 ^ k))), .long (le * ((fb k).toInt64)), .int (nI op)]) (rest := []) ⟨hx, hb, hml, hown, hts⟩ (ih h0 h4 s2 s3 p4 p5 p6 a1 a2 a3 n b1 b2 y (sx + (3 ^ k)) lo (hi &&& ((2 ^ 9 - 1) ^^^ 2 ^ k)) op len pt rc sn sg fr (le * ((fb k).toInt64)) fg fb fp u13_uq u13_ub u13_uw fw (by first | assumption | omega) (by first | assumption | omega) (by first | assumption | omega) (by first | assumption | omega) (by first | assumption | omega) (by first | assumption | omega) (by first | assumption | omega) (by exact fun z hz => by obtain ⟨x, h1, h2, h3⟩ := hfq z hz; exact ⟨x, h1, by first | exact h2 | exact (hq88 z hz).trans h2, by omega⟩) ((nz3.D hD hzA htA).sub [0, 1, 2, 3, 4, 5, 6, 7, 8, 9] rfl)) (cwV 6 hts gX1_fill_X1_fill rfl rfl rfl (by decide +kernel) ⟨(show k + 2 + 1 ≤ (k + 1) + 2 by omega), (show 8 + (11 + 11) + (k * 30 + 43) ≤ (k + 1) * 30 + 43 by omega)⟩) ⟨pmT_blind, va_recv hK hP (ci := 1) (q0 := 0) rfl rfl, fun U hU hW => ⟨rfl, by rw [hU]; exact hP.sub (ws' := [(h0, .inr (1, [.ref h4, .ref s2, .ref s3, .ref p4, .ref p5, .ref p6, .int fr])), (h4, .inr (4, [.ref a1, .ref a2, .ref a3, .int (nI n), .int sn, .int sg])), (a1, .inl (cI, 9, .inl fg)), (a2, .inl (cI, 9, .inl fb)), (a3, .inl (cI, 9, .inl fp)), (p4, .inl (cI, 9, .inl u13_uq)), (p5, .inl (cJ, len, .inr (.inl u13_ub))), (p6, .inl (cI, len, .inl u13_uw)), (s2, .inr (3, [.ref b1, .ref b2, .int pt, .int rc, .int (nI y)])), (b1, .inl (cJ, 320, .inr (.inl fw)))]) [0, 1, 2, 3, 4, 5, 6, 7, 8, 9] rfl, hKN.warm hW, hT0.go hS hzA htA hW hU, (hD.sub (ws' := [(h0, .inr (1, [.ref h4, .ref s2, .ref s3, .ref p4, .ref p5, .ref p6, .int fr])), (h4, .inr (4, [.ref a1, .ref a2, .ref a3, .int (nI n), .int sn, .int sg])), (a1, .inl (cI, 9, .inl fg)), (a2, .inl (cI, 9, .inl fb)), (a3, .inl (cI, 9, .inl fp)), (p4, .inl (cI, 9, .inl u13_uq)), (p5, .inl (cJ, len, .inr (.inl u13_ub))), (p6, .inl (cI, len, .inl u13_uw)), (s2, .inr (3, [.ref b1, .ref b2, .int pt, .int rc, .int (nI y)])), (b1, .inl (cJ, 320, .inr (.inl fw)))]) [0, 1, 2, 3, 4, 5, 6, 7, 8, 9] (by decide) rfl).weaken (fun _ _ _ _ => trivial)⟩⟩ rfl rfl hl.1 rfl (lv_room (Nat.le_of_ble_eq_true rfl)) dX1_fill_139 ⟨Nat.le_of_ble_eq_true rfl, Nat.le_of_ble_eq_true rfl⟩) hS hP hD (fun (u : (Nat → Int32) × (Nat → Int64) × (Nat → Int32)) => [(h0, .inr (1, [.ref h4, .ref s2, .ref s3, .ref p4, .ref p5, .ref p6, .int fr])), (h4, .inr (4, [.ref a1, .ref a2, .ref a3, .int (nI n), .int sn, .int sg])), (a1, .inl (cI, 9, .inl fg)), (a2, .inl (cI, 9, .inl fb)), (a3, .inl (cI, 9, .inl fp)), (p4, .inl (cI, 9, .inl u.1)), (p5, .inl (cJ, len, .inr (.inl u.2.1))), (p6, .inl (cI, len, .inl u.2.2)), (s2, .inr (3, [.ref b1, .ref b2, .int pt, .int rc, .int (nI y)])), (b1, .inl (cJ, 320, .inr (.inl fw)))]) [0, 1, 2, 3, 4, 5, 6, 7, 8, 9] [] rfl rfl rfl (fun _ => rfl) (fun _ => rfl) rfl (fun _ => rfl) (fun _ => rfl) (m_cov rfl) (m_dis rfl) (fun u16 H locs w16r hP hD hS => ?_)
              obtain ⟨u16_uq, u16_ub, u16_uw⟩ := u16
              have hP : va_P D vwCl [(h0, .inr (1, [.ref h4, .ref s2, .ref s3, .ref p4, .ref p5, .ref p6, .int fr])), (h4, .inr (4, [.ref a1, .ref a2, .ref a3, .int (nI n), .int sn, .int sg])), (a1, .inl (cI, 9, .inl fg)), (a2, .inl (cI, 9, .inl fb)), (a3, .inl (cI, 9, .inl fp)), (p4, .inl (cI, 9, .inl u16_uq)), (p5, .inl (cJ, len, .inr (.inl u16_ub))), (p6, .inl (cI, len, .inl u16_uw)), (s2, .inr (3, [.ref b1, .ref b2, .int pt, .int rc, .int (nI y)])), (b1, .inl (cJ, 320, .inr (.inl fw)))] H := hP
              have hD : va_D (aA as) [(h0, .inr (1, [.ref h4, .ref s2, .ref s3, .ref p4, .ref p5, .ref p6, .int fr])), (h4, .inr (4, [.ref a1, .ref a2, .ref a3, .int (nI n), .int sn, .int sg])), (a1, .inl (cI, 9, .inl fg)), (a2, .inl (cI, 9, .inl fb)), (a3, .inl (cI, 9, .inl fp)), (p4, .inl (cI, 9, .inl u16_uq)), (p5, .inl (cJ, len, .inr (.inl u16_ub))), (p6, .inl (cI, len, .inl u16_uw)), (s2, .inr (3, [.ref b1, .ref b2, .int pt, .int rc, .int (nI y)])), (b1, .inl (cJ, 320, .inr (.inl fw)))] := hD
              have w16 : ∀ z, z < op → u16_uq z = u13_uq z := w16r
              clear w16r
              have hq139 := fun z hz => (w16 z hz).trans (hq88 z hz)
              refine lv_goto (tgt := 159) hx hb dX1_fill_142 (by decide) ?_
              refine lv_aload_n hx hb dX1_fill_159 rfl (lv_at hl 3 rfl) ?_
              refine va_get (D := D) (ci := 1) (v := .ref p4) (C := RX1) (T := TX1) (N := 7) hx hb hts hiX1 hown hK hP 0 rfl rfl 3 (by decide) hf9 (fun _ h9 => h9) rfl dX1_fill_160 ?_
              refine lv_iload hx hb dX1_fill_163 (lv_at hl 9 rfl) ?_
              refine lv_iload_n hx hb dX1_fill_165 rfl (lv_at hl 4 rfl) ?_
              refine va_iast hx hb hK hP hD hS 5 0 rfl rfl (i := nI op) (vp_in_nI (by omega) (by omega)) dX1_fill_166 (fun H locs hP hD hS => ?_)
              have hP : va_P D vwCl [(h0, .inr (1, [.ref h4, .ref s2, .ref s3, .ref p4, .ref p5, .ref p6, .int fr])), (h4, .inr (4, [.ref a1, .ref a2, .ref a3, .int (nI n), .int sn, .int sg])), (a1, .inl (cI, 9, .inl fg)), (a2, .inl (cI, 9, .inl fb)), (a3, .inl (cI, 9, .inl fp)), (p4, .inl (cI, 9, .inl (upd u16_uq (nI op).toNatClampNeg (nI k)))), (p5, .inl (cJ, len, .inr (.inl u16_ub))), (p6, .inl (cI, len, .inl u16_uw)), (s2, .inr (3, [.ref b1, .ref b2, .int pt, .int rc, .int (nI y)])), (b1, .inl (cJ, 320, .inr (.inl fw)))] H := hP
              have hD : va_D (aA as) [(h0, .inr (1, [.ref h4, .ref s2, .ref s3, .ref p4, .ref p5, .ref p6, .int fr])), (h4, .inr (4, [.ref a1, .ref a2, .ref a3, .int (nI n), .int sn, .int sg])), (a1, .inl (cI, 9, .inl fg)), (a2, .inl (cI, 9, .inl fb)), (a3, .inl (cI, 9, .inl fp)), (p4, .inl (cI, 9, .inl (upd u16_uq (nI op).toNatClampNeg (nI k)))), (p5, .inl (cJ, len, .inr (.inl u16_ub))), (p6, .inl (cI, len, .inl u16_uw)), (s2, .inr (3, [.ref b1, .ref b2, .int pt, .int rc, .int (nI y)])), (b1, .inl (cJ, 320, .inr (.inl fw)))] := hD
              rw [nI_clamp (n := op) (by omega)] at hP hD
              refine lv_aload_n hx hb dX1_fill_167 rfl (lv_at hl 3 rfl) ?_
              refine lv_iload_n hx hb dX1_fill_168 rfl (lv_at hl 4 rfl) ?_
              refine lv_iconst (v := nI 1) hx hb dX1_fill_169 (by decide) ?_
              refine lv_isub hx hb dX1_fill_170 ?_
              refine cn_i (y := pI k) (pI_sub k) ?_
              refine lv_iload_n hx hb dX1_fill_171 rfl (lv_at hl 5 rfl) ?_
              refine lv_iload_n hx hb dX1_fill_172 rfl (lv_at hl 6 rfl) ?_
              refine lv_iload hx hb dX1_fill_173 (lv_at hl 7 rfl) ?_
              refine lv_lload hx hb dX1_fill_175 (lv_at hl 8 rfl) ?_
              refine lv_aload_n hx hb dX1_fill_177 rfl (lv_at hl 3 rfl) ?_
              refine va_get (D := D) (ci := 1) (v := .ref h4) (C := RX1) (T := TX1) (N := 7) hx hb hts hiX1 hown hK hP 0 rfl rfl 0 (by decide) hf22 (fun _ h9 => h9) rfl dX1_fill_178 ?_
              refine va_getN (D := D) (ci := 4) (v := .ref a1) (C := RX4) (T := TX4) (N := 6) hx hb hts hiX4 hown hK hP 1 rfl rfl 0 (by decide) hf123 (fun _ h9 => h9) rfl dX1_fill_181 ?_
              refine lv_iload_n hx hb dX1_fill_184 rfl (lv_at hl 4 rfl) ?_
              refine va_iald hx hb hK hP 2 0 rfl rfl (i := nI k) (vp_in_nI (by omega) (by omega)) dX1_fill_185 ?_
              refine cn_i (y := fg k) (congrArg fg (nI_clamp (by omega))) ?_
              refine lv_aload_n hx hb dX1_fill_186 rfl (lv_at hl 3 rfl) ?_
              refine va_get (D := D) (ci := 1) (v := .ref h4) (C := RX1) (T := TX1) (N := 7) hx hb hts hiX1 hown hK hP 0 rfl rfl 0 (by decide) hf22 (fun _ h9 => h9) rfl dX1_fill_187 ?_
              refine va_getN (D := D) (ci := 4) (v := .ref a2) (C := RX4) (T := TX4) (N := 6) hx hb hts hiX4 hown hK hP 1 rfl rfl 1 (by decide) hf126 (fun _ h9 => h9) rfl dX1_fill_190 ?_
              refine lv_iload_n hx hb dX1_fill_193 rfl (lv_at hl 4 rfl) ?_
              refine va_iald hx hb hK hP 3 0 rfl rfl (i := nI k) (vp_in_nI (by omega) (by omega)) dX1_fill_194 ?_
              refine cn_i (y := fb k) (congrArg fb (nI_clamp (by omega))) ?_
              refine lv_iadd hx hb dX1_fill_195 ?_
              refine lv_i2l hx hb dX1_fill_196 rfl ?_
              refine lv_lmul hx hb dX1_fill_197 ?_
              refine lv_iload hx hb dX1_fill_198 (lv_at hl 9 rfl) ?_
              refine lv_iconst (v := nI 1) hx hb dX1_fill_200 (by decide) ?_
              refine lv_iadd hx hb dX1_fill_201 ?_
              refine cn_i (y := nI (op + 1)) (nI_add op 1) ?_
              refine mu2_v (n := 10) (wc := [(h0, .inr (1, [.ref h4, .ref s2, .ref s3, .ref p4, .ref p5, .ref p6, .int fr])), (h4, .inr (4, [.ref a1, .ref a2, .ref a3, .int (nI n), .int sn, .int sg])), (a1, .inl (cI, 9, .inl fg)), (a2, .inl (cI, 9, .inl fb)), (a3, .inl (cI, 9, .inl fp)), (p4, .inl (cI, 9, .inl (upd u16_uq op (nI k)))), (p5, .inl (cJ, len, .inr (.inl u16_ub))), (p6, .inl (cI, len, .inl u16_uw)), (s2, .inr (3, [.ref b1, .ref b2, .int pt, .int rc, .int (nI y)])), (b1, .inl (cJ, 320, .inr (.inl fw)))]) (wr := []) (as0 := [h0, h4, a1, a2, a3, p4, p5, p6, s2, b1]) (va_runV (As := [.int (pI k), .int (nI sx), .int (nI lo), .int (nI hi), .long (le * (((fg k) + (fb k)).toInt64)), .int (nI (op + 1))]) (rest := []) ⟨hx, hb, hml, hown, hts⟩ (ih h0 h4 s2 s3 p4 p5 p6 a1 a2 a3 n b1 b2 y sx lo hi (op + 1) len pt rc sn sg fr (le * (((fg k) + (fb k)).toInt64)) fg fb fp (upd u16_uq op (nI k)) u16_ub u16_uw fw (by first | assumption | omega) (by first | assumption | omega) (by first | assumption | omega) (by first | assumption | omega) (by first | assumption | omega) (by first | assumption | omega) (by first | assumption | omega) (by exact fun z hz => by by_cases e9 : z = op; exact ⟨k, by omega, by simp [upd, e9], by omega⟩; exact (by obtain ⟨x, h1, h2, h3⟩ := hfq z (by omega); exact ⟨x, h1, (upd_eq.trans (if_neg e9)).trans ((hq139 z (by omega)).trans h2), by omega⟩)) ((nz3.D hD hzA htA).sub [0, 1, 2, 3, 4, 5, 6, 7, 8, 9] rfl)) (cwV 6 hts gX1_fill_X1_fill rfl rfl rfl (by decide +kernel) ⟨(show k + 2 + 1 ≤ (k + 1) + 2 by omega), (show 8 + (11 + 11) + (k * 30 + 43) ≤ (k + 1) * 30 + 43 by omega)⟩) ⟨pmT_blind, va_recv hK hP (ci := 1) (q0 := 0) rfl rfl, fun U hU hW => ⟨rfl, by rw [hU]; exact hP.sub (ws' := [(h0, .inr (1, [.ref h4, .ref s2, .ref s3, .ref p4, .ref p5, .ref p6, .int fr])), (h4, .inr (4, [.ref a1, .ref a2, .ref a3, .int (nI n), .int sn, .int sg])), (a1, .inl (cI, 9, .inl fg)), (a2, .inl (cI, 9, .inl fb)), (a3, .inl (cI, 9, .inl fp)), (p4, .inl (cI, 9, .inl (upd u16_uq op (nI k)))), (p5, .inl (cJ, len, .inr (.inl u16_ub))), (p6, .inl (cI, len, .inl u16_uw)), (s2, .inr (3, [.ref b1, .ref b2, .int pt, .int rc, .int (nI y)])), (b1, .inl (cJ, 320, .inr (.inl fw)))]) [0, 1, 2, 3, 4, 5, 6, 7, 8, 9] rfl, hKN.warm hW, hT0.go hS hzA htA hW hU, (hD.sub (ws' := [(h0, .inr (1, [.ref h4, .ref s2, .ref s3, .ref p4, .ref p5, .ref p6, .int fr])), (h4, .inr (4, [.ref a1, .ref a2, .ref a3, .int (nI n), .int sn, .int sg])), (a1, .inl (cI, 9, .inl fg)), (a2, .inl (cI, 9, .inl fb)), (a3, .inl (cI, 9, .inl fp)), (p4, .inl (cI, 9, .inl (upd u16_uq op (nI k)))), (p5, .inl (cJ, len, .inr (.inl u16_ub))), (p6, .inl (cI, len, .inl u16_uw)), (s2, .inr (3, [.ref b1, .ref b2, .int pt, .int rc, .int (nI y)])), (b1, .inl (cJ, 320, .inr (.inl fw)))]) [0, 1, 2, 3, 4, 5, 6, 7, 8, 9] (by decide) rfl).weaken (fun _ _ _ _ => trivial)⟩⟩ rfl rfl hl.1 rfl (lv_room (Nat.le_of_ble_eq_true rfl)) dX1_fill_202 ⟨Nat.le_of_ble_eq_true rfl, Nat.le_of_ble_eq_true rfl⟩) hS hP hD (fun (u : (Nat → Int32) × (Nat → Int64) × (Nat → Int32)) => [(h0, .inr (1, [.ref h4, .ref s2, .ref s3, .ref p4, .ref p5, .ref p6, .int fr])), (h4, .inr (4, [.ref a1, .ref a2, .ref a3, .int (nI n), .int sn, .int sg])), (a1, .inl (cI, 9, .inl fg)), (a2, .inl (cI, 9, .inl fb)), (a3, .inl (cI, 9, .inl fp)), (p4, .inl (cI, 9, .inl u.1)), (p5, .inl (cJ, len, .inr (.inl u.2.1))), (p6, .inl (cI, len, .inl u.2.2)), (s2, .inr (3, [.ref b1, .ref b2, .int pt, .int rc, .int (nI y)])), (b1, .inl (cJ, 320, .inr (.inl fw)))]) [0, 1, 2, 3, 4, 5, 6, 7, 8, 9] [] rfl rfl rfl (fun _ => rfl) (fun _ => rfl) rfl (fun _ => rfl) (fun _ => rfl) (m_cov rfl) (m_dis rfl) (fun u17 H locs w17r hP hD hS => ?_)
              obtain ⟨u17_uq, u17_ub, u17_uw⟩ := u17
              have hP : va_P D vwCl [(h0, .inr (1, [.ref h4, .ref s2, .ref s3, .ref p4, .ref p5, .ref p6, .int fr])), (h4, .inr (4, [.ref a1, .ref a2, .ref a3, .int (nI n), .int sn, .int sg])), (a1, .inl (cI, 9, .inl fg)), (a2, .inl (cI, 9, .inl fb)), (a3, .inl (cI, 9, .inl fp)), (p4, .inl (cI, 9, .inl u17_uq)), (p5, .inl (cJ, len, .inr (.inl u17_ub))), (p6, .inl (cI, len, .inl u17_uw)), (s2, .inr (3, [.ref b1, .ref b2, .int pt, .int rc, .int (nI y)])), (b1, .inl (cJ, 320, .inr (.inl fw)))] H := hP
              have hD : va_D (aA as) [(h0, .inr (1, [.ref h4, .ref s2, .ref s3, .ref p4, .ref p5, .ref p6, .int fr])), (h4, .inr (4, [.ref a1, .ref a2, .ref a3, .int (nI n), .int sn, .int sg])), (a1, .inl (cI, 9, .inl fg)), (a2, .inl (cI, 9, .inl fb)), (a3, .inl (cI, 9, .inl fp)), (p4, .inl (cI, 9, .inl u17_uq)), (p5, .inl (cJ, len, .inr (.inl u17_ub))), (p6, .inl (cI, len, .inl u17_uw)), (s2, .inr (3, [.ref b1, .ref b2, .int pt, .int rc, .int (nI y)])), (b1, .inl (cJ, 320, .inr (.inl fw)))] := hD
              have w17 : ∀ z, z < (op + 1) → u17_uq z = (upd u16_uq op (nI k)) z := w17r
              clear w17r
              rw [← hQ]
              exact W.vret hx hb hr (fun tS htS hWS => ⟨⟨(u17_uq, u17_ub, u17_uw), rfl, fun z hz => (w17 z (by omega)).trans ((upd_eq.trans (if_neg (by omega))).trans (hq139 z hz)), m_at htS hP⟩, by rw [← has]; exact hS.F htS⟩) (by rw [← has]; exact hS.2.2) dX1_fill_205
          · skip
            refine lv_if_eq (tgt := 145) hx hb dX1_fill_110 (by decide) (fun c18 => ?_) (fun c18 => ?_)
            · skip
              refine lv_aload_n hx hb dX1_fill_145 rfl (lv_at hl 3 rfl) ?_
              refine lv_iload_n hx hb dX1_fill_146 rfl (lv_at hl 5 rfl) ?_
              refine lv_iload hx hb dX1_fill_147 (lv_at hl 2 rfl) ?_
              refine lv_iadd hx hb dX1_fill_149 ?_
              refine cn_i (y := nI (sx + (3 ^ k))) (nI_add sx (3 ^ k)) ?_
              refine lv_iload_n hx hb dX1_fill_150 rfl (lv_at hl 5 rfl) ?_
              refine lv_iconst (v := nI 2) hx hb dX1_fill_151 (by decide) ?_
              refine lv_iload hx hb dX1_fill_152 (lv_at hl 2 rfl) ?_
              refine lv_imul hx hb dX1_fill_154 ?_
              refine cn_i (y := nI (2 * (3 ^ k))) (pk_mul 2 (3 ^ k)) ?_
              refine lv_iadd hx hb dX1_fill_155 ?_
              refine cn_i (y := nI (sx + (2 * (3 ^ k)))) (nI_add sx (2 * (3 ^ k))) ?_
              refine mu2_v (n := 10) (wc := [(h0, .inr (1, [.ref h4, .ref s2, .ref s3, .ref p4, .ref p5, .ref p6, .int fr])), (p5, .inl (cJ, len, .inr (.inl u13_ub))), (p6, .inl (cI, len, .inl u13_uw))]) (wr := [(h4, .inr (4, [.ref a1, .ref a2, .ref a3, .int (nI n), .int sn, .int sg])), (a1, .inl (cI, 9, .inl fg)), (a2, .inl (cI, 9, .inl fb)), (a3, .inl (cI, 9, .inl fp)), (p4, .inl (cI, 9, .inl u13_uq)), (s2, .inr (3, [.ref b1, .ref b2, .int pt, .int rc, .int (nI y)])), (b1, .inl (cJ, 320, .inr (.inl fw)))]) (as0 := [h0, h4, a1, a2, a3, p4, p5, p6, s2, b1]) (va_runV (As := [.int (nI (sx + (3 ^ k))), .int (nI (sx + (2 * (3 ^ k))))]) (rest := []) ⟨hx, hb, hml, hown, hts⟩ (c_X1_fillSure l D cI cJ cZ h0 h4 s2 s3 p4 p5 p6 a1 a2 a3 n (sx + (3 ^ k)) (sx + (2 * (3 ^ k))) len fr u13_ub u13_uw (by first | assumption | omega) (by first | assumption | omega) (by first | assumption | omega)) (cwV 2 hts gX1_fill_X1_fillSure rfl rfl rfl (by decide +kernel) ⟨(show 0 + 1 ≤ (k + 1) + 2 by omega), (show 8 + (4 + 11) + (0) ≤ (k + 1) * 30 + 43 by omega)⟩) ⟨pm_blind, va_recv hK hP (ci := 1) (q0 := 0) rfl rfl, fun U hU hW => ⟨rfl, by rw [hU]; exact hP.sub (ws' := [(h0, .inr (1, [.ref h4, .ref s2, .ref s3, .ref p4, .ref p5, .ref p6, .int fr])), (p5, .inl (cJ, len, .inr (.inl u13_ub))), (p6, .inl (cI, len, .inl u13_uw))]) [0, 6, 7] rfl, hKN.warm hW, (hD.sub (ws' := [(h0, .inr (1, [.ref h4, .ref s2, .ref s3, .ref p4, .ref p5, .ref p6, .int fr])), (p5, .inl (cJ, len, .inr (.inl u13_ub))), (p6, .inl (cI, len, .inl u13_uw))]) [0, 6, 7] (by decide) rfl).weaken (fun _ _ _ _ => trivial)⟩⟩ rfl rfl hl.1 rfl (lv_room (Nat.le_of_ble_eq_true rfl)) dX1_fill_156 ⟨Nat.le_of_ble_eq_true rfl, Nat.le_of_ble_eq_true rfl⟩) hS hP hD (fun (u : (Nat → Int64) × (Nat → Int32)) => [(h0, .inr (1, [.ref h4, .ref s2, .ref s3, .ref p4, .ref p5, .ref p6, .int fr])), (h4, .inr (4, [.ref a1, .ref a2, .ref a3, .int (nI n), .int sn, .int sg])), (a1, .inl (cI, 9, .inl fg)), (a2, .inl (cI, 9, .inl fb)), (a3, .inl (cI, 9, .inl fp)), (p4, .inl (cI, 9, .inl u13_uq)), (p5, .inl (cJ, len, .inr (.inl u.1))), (p6, .inl (cI, len, .inl u.2)), (s2, .inr (3, [.ref b1, .ref b2, .int pt, .int rc, .int (nI y)])), (b1, .inl (cJ, 320, .inr (.inl fw)))]) [0, 6, 7] [1, 2, 3, 4, 5, 8, 9] rfl rfl rfl (fun _ => rfl) (fun _ => rfl) rfl (fun _ => rfl) (fun _ => rfl) (m_cov rfl) (m_dis rfl) (fun u19 H locs w19r hP hD hS => ?_)
              obtain ⟨u19_ub, u19_uw⟩ := u19
              have hP : va_P D vwCl [(h0, .inr (1, [.ref h4, .ref s2, .ref s3, .ref p4, .ref p5, .ref p6, .int fr])), (h4, .inr (4, [.ref a1, .ref a2, .ref a3, .int (nI n), .int sn, .int sg])), (a1, .inl (cI, 9, .inl fg)), (a2, .inl (cI, 9, .inl fb)), (a3, .inl (cI, 9, .inl fp)), (p4, .inl (cI, 9, .inl u13_uq)), (p5, .inl (cJ, len, .inr (.inl u19_ub))), (p6, .inl (cI, len, .inl u19_uw)), (s2, .inr (3, [.ref b1, .ref b2, .int pt, .int rc, .int (nI y)])), (b1, .inl (cJ, 320, .inr (.inl fw)))] H := hP
              have hD : va_D (aA as) [(h0, .inr (1, [.ref h4, .ref s2, .ref s3, .ref p4, .ref p5, .ref p6, .int fr])), (h4, .inr (4, [.ref a1, .ref a2, .ref a3, .int (nI n), .int sn, .int sg])), (a1, .inl (cI, 9, .inl fg)), (a2, .inl (cI, 9, .inl fb)), (a3, .inl (cI, 9, .inl fp)), (p4, .inl (cI, 9, .inl u13_uq)), (p5, .inl (cJ, len, .inr (.inl u19_ub))), (p6, .inl (cI, len, .inl u19_uw)), (s2, .inr (3, [.ref b1, .ref b2, .int pt, .int rc, .int (nI y)])), (b1, .inl (cJ, 320, .inr (.inl fw)))] := hD
              have w19 : True := w19r
              clear w19r
              have hq139 := hq88
              refine lv_aload_n hx hb dX1_fill_159 rfl (lv_at hl 3 rfl) ?_
              refine va_get (D := D) (ci := 1) (v := .ref p4) (C := RX1) (T := TX1) (N := 7) hx hb hts hiX1 hown hK hP 0 rfl rfl 3 (by decide) hf9 (fun _ h9 => h9) rfl dX1_fill_160 ?_
              refine lv_iload hx hb dX1_fill_163 (lv_at hl 9 rfl) ?_
              refine lv_iload_n hx hb dX1_fill_165 rfl (lv_at hl 4 rfl) ?_
              refine va_iast hx hb hK hP hD hS 5 0 rfl rfl (i := nI op) (vp_in_nI (by omega) (by omega)) dX1_fill_166 (fun H locs hP hD hS => ?_)
              have hP : va_P D vwCl [(h0, .inr (1, [.ref h4, .ref s2, .ref s3, .ref p4, .ref p5, .ref p6, .int fr])), (h4, .inr (4, [.ref a1, .ref a2, .ref a3, .int (nI n), .int sn, .int sg])), (a1, .inl (cI, 9, .inl fg)), (a2, .inl (cI, 9, .inl fb)), (a3, .inl (cI, 9, .inl fp)), (p4, .inl (cI, 9, .inl (upd u13_uq (nI op).toNatClampNeg (nI k)))), (p5, .inl (cJ, len, .inr (.inl u19_ub))), (p6, .inl (cI, len, .inl u19_uw)), (s2, .inr (3, [.ref b1, .ref b2, .int pt, .int rc, .int (nI y)])), (b1, .inl (cJ, 320, .inr (.inl fw)))] H := hP
              have hD : va_D (aA as) [(h0, .inr (1, [.ref h4, .ref s2, .ref s3, .ref p4, .ref p5, .ref p6, .int fr])), (h4, .inr (4, [.ref a1, .ref a2, .ref a3, .int (nI n), .int sn, .int sg])), (a1, .inl (cI, 9, .inl fg)), (a2, .inl (cI, 9, .inl fb)), (a3, .inl (cI, 9, .inl fp)), (p4, .inl (cI, 9, .inl (upd u13_uq (nI op).toNatClampNeg (nI k)))), (p5, .inl (cJ, len, .inr (.inl u19_ub))), (p6, .inl (cI, len, .inl u19_uw)), (s2, .inr (3, [.ref b1, .ref b2, .int pt, .int rc, .int (nI y)])), (b1, .inl (cJ, 320, .inr (.inl fw)))] := hD
              rw [nI_clamp (n := op) (by omega)] at hP hD
              refine lv_aload_n hx hb dX1_fill_167 rfl (lv_at hl 3 rfl) ?_
              refine lv_iload_n hx hb dX1_fill_168 rfl (lv_at hl 4 rfl) ?_
              refine lv_iconst (v := nI 1) hx hb dX1_fill_169 (by decide) ?_
              refine lv_isub hx hb dX1_fill_170 ?_
              refine cn_i (y := pI k) (pI_sub k) ?_
              refine lv_iload_n hx hb dX1_fill_171 rfl (lv_at hl 5 rfl) ?_
              refine lv_iload_n hx hb dX1_fill_172 rfl (lv_at hl 6 rfl) ?_
              refine lv_iload hx hb dX1_fill_173 (lv_at hl 7 rfl) ?_
              refine lv_lload hx hb dX1_fill_175 (lv_at hl 8 rfl) ?_
              refine lv_aload_n hx hb dX1_fill_177 rfl (lv_at hl 3 rfl) ?_
              refine va_get (D := D) (ci := 1) (v := .ref h4) (C := RX1) (T := TX1) (N := 7) hx hb hts hiX1 hown hK hP 0 rfl rfl 0 (by decide) hf22 (fun _ h9 => h9) rfl dX1_fill_178 ?_
              refine va_getN (D := D) (ci := 4) (v := .ref a1) (C := RX4) (T := TX4) (N := 6) hx hb hts hiX4 hown hK hP 1 rfl rfl 0 (by decide) hf123 (fun _ h9 => h9) rfl dX1_fill_181 ?_
              refine lv_iload_n hx hb dX1_fill_184 rfl (lv_at hl 4 rfl) ?_
              refine va_iald hx hb hK hP 2 0 rfl rfl (i := nI k) (vp_in_nI (by omega) (by omega)) dX1_fill_185 ?_
              refine cn_i (y := fg k) (congrArg fg (nI_clamp (by omega))) ?_
              refine lv_aload_n hx hb dX1_fill_186 rfl (lv_at hl 3 rfl) ?_
              refine va_get (D := D) (ci := 1) (v := .ref h4) (C := RX1) (T := TX1) (N := 7) hx hb hts hiX1 hown hK hP 0 rfl rfl 0 (by decide) hf22 (fun _ h9 => h9) rfl dX1_fill_187 ?_
              refine va_getN (D := D) (ci := 4) (v := .ref a2) (C := RX4) (T := TX4) (N := 6) hx hb hts hiX4 hown hK hP 1 rfl rfl 1 (by decide) hf126 (fun _ h9 => h9) rfl dX1_fill_190 ?_
              refine lv_iload_n hx hb dX1_fill_193 rfl (lv_at hl 4 rfl) ?_
              refine va_iald hx hb hK hP 3 0 rfl rfl (i := nI k) (vp_in_nI (by omega) (by omega)) dX1_fill_194 ?_
              refine cn_i (y := fb k) (congrArg fb (nI_clamp (by omega))) ?_
              refine lv_iadd hx hb dX1_fill_195 ?_
              refine lv_i2l hx hb dX1_fill_196 rfl ?_
              refine lv_lmul hx hb dX1_fill_197 ?_
              refine lv_iload hx hb dX1_fill_198 (lv_at hl 9 rfl) ?_
              refine lv_iconst (v := nI 1) hx hb dX1_fill_200 (by decide) ?_
              refine lv_iadd hx hb dX1_fill_201 ?_
              refine cn_i (y := nI (op + 1)) (nI_add op 1) ?_
              refine mu2_v (n := 10) (wc := [(h0, .inr (1, [.ref h4, .ref s2, .ref s3, .ref p4, .ref p5, .ref p6, .int fr])), (h4, .inr (4, [.ref a1, .ref a2, .ref a3, .int (nI n), .int sn, .int sg])), (a1, .inl (cI, 9, .inl fg)), (a2, .inl (cI, 9, .inl fb)), (a3, .inl (cI, 9, .inl fp)), (p4, .inl (cI, 9, .inl (upd u13_uq op (nI k)))), (p5, .inl (cJ, len, .inr (.inl u19_ub))), (p6, .inl (cI, len, .inl u19_uw)), (s2, .inr (3, [.ref b1, .ref b2, .int pt, .int rc, .int (nI y)])), (b1, .inl (cJ, 320, .inr (.inl fw)))]) (wr := []) (as0 := [h0, h4, a1, a2, a3, p4, p5, p6, s2, b1]) (va_runV (As := [.int (pI k), .int (nI sx), .int (nI lo), .int (nI hi), .long (le * (((fg k) + (fb k)).toInt64)), .int (nI (op + 1))]) (rest := []) ⟨hx, hb, hml, hown, hts⟩ (ih h0 h4 s2 s3 p4 p5 p6 a1 a2 a3 n b1 b2 y sx lo hi (op + 1) len pt rc sn sg fr (le * (((fg k) + (fb k)).toInt64)) fg fb fp (upd u13_uq op (nI k)) u19_ub u19_uw fw (by first | assumption | omega) (by first | assumption | omega) (by first | assumption | omega) (by first | assumption | omega) (by first | assumption | omega) (by first | assumption | omega) (by first | assumption | omega) (by exact fun z hz => by by_cases e9 : z = op; exact ⟨k, by omega, by simp [upd, e9], by omega⟩; exact (by obtain ⟨x, h1, h2, h3⟩ := hfq z (by omega); exact ⟨x, h1, (upd_eq.trans (if_neg e9)).trans ((hq139 z (by omega)).trans h2), by omega⟩)) ((nz3.D hD hzA htA).sub [0, 1, 2, 3, 4, 5, 6, 7, 8, 9] rfl)) (cwV 6 hts gX1_fill_X1_fill rfl rfl rfl (by decide +kernel) ⟨(show k + 2 + 1 ≤ (k + 1) + 2 by omega), (show 8 + (11 + 11) + (k * 30 + 43) ≤ (k + 1) * 30 + 43 by omega)⟩) ⟨pmT_blind, va_recv hK hP (ci := 1) (q0 := 0) rfl rfl, fun U hU hW => ⟨rfl, by rw [hU]; exact hP.sub (ws' := [(h0, .inr (1, [.ref h4, .ref s2, .ref s3, .ref p4, .ref p5, .ref p6, .int fr])), (h4, .inr (4, [.ref a1, .ref a2, .ref a3, .int (nI n), .int sn, .int sg])), (a1, .inl (cI, 9, .inl fg)), (a2, .inl (cI, 9, .inl fb)), (a3, .inl (cI, 9, .inl fp)), (p4, .inl (cI, 9, .inl (upd u13_uq op (nI k)))), (p5, .inl (cJ, len, .inr (.inl u19_ub))), (p6, .inl (cI, len, .inl u19_uw)), (s2, .inr (3, [.ref b1, .ref b2, .int pt, .int rc, .int (nI y)])), (b1, .inl (cJ, 320, .inr (.inl fw)))]) [0, 1, 2, 3, 4, 5, 6, 7, 8, 9] rfl, hKN.warm hW, hT0.go hS hzA htA hW hU, (hD.sub (ws' := [(h0, .inr (1, [.ref h4, .ref s2, .ref s3, .ref p4, .ref p5, .ref p6, .int fr])), (h4, .inr (4, [.ref a1, .ref a2, .ref a3, .int (nI n), .int sn, .int sg])), (a1, .inl (cI, 9, .inl fg)), (a2, .inl (cI, 9, .inl fb)), (a3, .inl (cI, 9, .inl fp)), (p4, .inl (cI, 9, .inl (upd u13_uq op (nI k)))), (p5, .inl (cJ, len, .inr (.inl u19_ub))), (p6, .inl (cI, len, .inl u19_uw)), (s2, .inr (3, [.ref b1, .ref b2, .int pt, .int rc, .int (nI y)])), (b1, .inl (cJ, 320, .inr (.inl fw)))]) [0, 1, 2, 3, 4, 5, 6, 7, 8, 9] (by decide) rfl).weaken (fun _ _ _ _ => trivial)⟩⟩ rfl rfl hl.1 rfl (lv_room (Nat.le_of_ble_eq_true rfl)) dX1_fill_202 ⟨Nat.le_of_ble_eq_true rfl, Nat.le_of_ble_eq_true rfl⟩) hS hP hD (fun (u : (Nat → Int32) × (Nat → Int64) × (Nat → Int32)) => [(h0, .inr (1, [.ref h4, .ref s2, .ref s3, .ref p4, .ref p5, .ref p6, .int fr])), (h4, .inr (4, [.ref a1, .ref a2, .ref a3, .int (nI n), .int sn, .int sg])), (a1, .inl (cI, 9, .inl fg)), (a2, .inl (cI, 9, .inl fb)), (a3, .inl (cI, 9, .inl fp)), (p4, .inl (cI, 9, .inl u.1)), (p5, .inl (cJ, len, .inr (.inl u.2.1))), (p6, .inl (cI, len, .inl u.2.2)), (s2, .inr (3, [.ref b1, .ref b2, .int pt, .int rc, .int (nI y)])), (b1, .inl (cJ, 320, .inr (.inl fw)))]) [0, 1, 2, 3, 4, 5, 6, 7, 8, 9] [] rfl rfl rfl (fun _ => rfl) (fun _ => rfl) rfl (fun _ => rfl) (fun _ => rfl) (m_cov rfl) (m_dis rfl) (fun u20 H locs w20r hP hD hS => ?_)
              obtain ⟨u20_uq, u20_ub, u20_uw⟩ := u20
              have hP : va_P D vwCl [(h0, .inr (1, [.ref h4, .ref s2, .ref s3, .ref p4, .ref p5, .ref p6, .int fr])), (h4, .inr (4, [.ref a1, .ref a2, .ref a3, .int (nI n), .int sn, .int sg])), (a1, .inl (cI, 9, .inl fg)), (a2, .inl (cI, 9, .inl fb)), (a3, .inl (cI, 9, .inl fp)), (p4, .inl (cI, 9, .inl u20_uq)), (p5, .inl (cJ, len, .inr (.inl u20_ub))), (p6, .inl (cI, len, .inl u20_uw)), (s2, .inr (3, [.ref b1, .ref b2, .int pt, .int rc, .int (nI y)])), (b1, .inl (cJ, 320, .inr (.inl fw)))] H := hP
              have hD : va_D (aA as) [(h0, .inr (1, [.ref h4, .ref s2, .ref s3, .ref p4, .ref p5, .ref p6, .int fr])), (h4, .inr (4, [.ref a1, .ref a2, .ref a3, .int (nI n), .int sn, .int sg])), (a1, .inl (cI, 9, .inl fg)), (a2, .inl (cI, 9, .inl fb)), (a3, .inl (cI, 9, .inl fp)), (p4, .inl (cI, 9, .inl u20_uq)), (p5, .inl (cJ, len, .inr (.inl u20_ub))), (p6, .inl (cI, len, .inl u20_uw)), (s2, .inr (3, [.ref b1, .ref b2, .int pt, .int rc, .int (nI y)])), (b1, .inl (cJ, 320, .inr (.inl fw)))] := hD
              have w20 : ∀ z, z < (op + 1) → u20_uq z = (upd u13_uq op (nI k)) z := w20r
              clear w20r
              rw [← hQ]
              exact W.vret hx hb hr (fun tS htS hWS => ⟨⟨(u20_uq, u20_ub, u20_uw), rfl, fun z hz => (w20 z (by omega)).trans ((upd_eq.trans (if_neg (by omega))).trans (hq139 z hz)), m_at htS hP⟩, by rw [← has]; exact hS.F htS⟩) (by rw [← has]; exact hS.2.2) dX1_fill_205
            · exact absurd c18 (by first | decide | exact nz_lt (by omega) | exact fun h => h (nz_ge (by omega)))
        · exact absurd c12 (by first | decide | exact nz_lt (by omega) | exact fun h => h (nz_ge (by omega)))
    · exact absurd c1 (by first | decide | exact nz_lt (by omega) | exact fun h => h (nz_ge (by omega)))
