def rm_c_X1_next_g (mc ms : Nat) : Room := { frames := 13, cells := mc, slots := ms, locals := 365 }
set_option maxHeartbeats 400000 in
set_option maxRecDepth 100000 in
theorem c_X1_next_g (l : Launch) (D : va_G) (cI cJ cZ : ClassId) (z3 t3 : Nat) (sz : Nat) (mc ms : Nat) (h0 : Nat) (h4 : Nat) (s2 : Nat) (s3 : Nat) (p4 : Nat) (p5 : Nat) (p6 : Nat) (a1 : Nat) (a2 : Nat) (a3 : Nat) (n : Nat) (b1 : Nat) (b2 : Nat) (y : Nat) (len : Nat) (pt : Int32) (rc : Int32) (sn : Int32) (sg : Int32) (fr : Int32) (fg : Nat → Int32) (fb : Nat → Int32) (fp : Nat → Int32) (fq : Nat → Int32) (eb : Nat → Int64) (ew : Nat → Int32) (fw : Nat → Int64) (lk : Nat) (gd : Nat) (pl : Nat) (hn : n ≤ 9) (h1 : 1 ≤ n) (hy : y < 40) (hlen : len ≤ 19683) (hfr : fr = 0 ∨ fr = nI 1 ∧ 3 ^ n ≤ len) (hbud : fr = 0 → len < 3 ^ n → (NV fw y gd ((2 ^ n - 1) ^^^ lk)) → 2 ≤ mc ∧ 2 * 3 ^ n ≤ ms) (hlk : lk < 2 ^ n) (hgd : gd < 512) (hpl : pl < 2) (hz3 : nz3 z3 t3 [h0, h4, a1, a2, a3, p4, p5, p6, s2, b1]) : Met l yX1_next wsX1_next (rm_c_X1_next_g mc ms) (pnT_ D cI cJ cZ z3 t3 sz [.ref h0, .int (nI pl), .int (nI lk), .int (nI gd)] [(h0, .inr (1, [.ref h4, .ref s2, .ref s3, .ref p4, .ref p5, .ref p6, .int fr])), (h4, .inr (4, [.ref a1, .ref a2, .ref a3, .int (nI n), .int sn, .int sg])), (a1, .inl (cI, 9, .inl fg)), (a2, .inl (cI, 9, .inl fb)), (a3, .inl (cI, 9, .inl fp)), (p4, .inl (cI, 9, .inl fq)), (p5, .inl (cJ, len, .inr (.inl eb))), (p6, .inl (cI, len, .inl ew)), (s2, .inr (3, [.ref b1, .ref b2, .int pt, .int rc, .int (nI y)])), (b1, .inl (cJ, 320, .inr (.inl fw)))]) (va_Qi (fun (r : Int32) (u : Nat × Nat × Nat × (Nat → Int32) × (Nat → Int64) × (Nat → Int32) × Int32) => (r = -1 ∧ FS fr len n (NV fw y gd ((2 ^ n - 1) ^^^ lk)) u.2.2.2.2.2.2 u.2.2.1) ∨ (∃ x, x < n ∧ r = nI x ∧ lk / 2 ^ x % 2 = 0 ∧ u.2.2.2.2.2.2 = nI 1 ∧ FS fr len n (NV fw y gd ((2 ^ n - 1) ^^^ lk)) (nI 1) u.2.2.1)) (fun (u : Nat × Nat × Nat × (Nat → Int32) × (Nat → Int64) × (Nat → Int32) × Int32) tS => va_P D vwCl [(h0, .inr (1, [.ref h4, .ref s2, .ref s3, .ref p4, .ref u.1, .ref u.2.1, .int u.2.2.2.2.2.2])), (h4, .inr (4, [.ref a1, .ref a2, .ref a3, .int (nI n), .int sn, .int sg])), (a1, .inl (cI, 9, .inl fg)), (a2, .inl (cI, 9, .inl fb)), (a3, .inl (cI, 9, .inl fp)), (p4, .inl (cI, 9, .inl u.2.2.2.1)), (u.1, .inl (cJ, u.2.2.1, .inr (.inl u.2.2.2.2.1))), (u.2.1, .inl (cI, u.2.2.1, .inl u.2.2.2.2.2.1)), (s2, .inr (3, [.ref b1, .ref b2, .int pt, .int rc, .int (nI y)])), (b1, .inl (cJ, 320, .inr (.inl fw)))] tS.heap ∧ va_D (va_A [(h0, .inr (1, [.ref h4, .ref s2, .ref s3, .ref p4, .ref p5, .ref p6, .int fr])), (h4, .inr (4, [.ref a1, .ref a2, .ref a3, .int (nI n), .int sn, .int sg])), (a1, .inl (cI, 9, .inl fg)), (a2, .inl (cI, 9, .inl fb)), (a3, .inl (cI, 9, .inl fp)), (p4, .inl (cI, 9, .inl fq)), (p5, .inl (cJ, len, .inr (.inl eb))), (p6, .inl (cI, len, .inl ew)), (s2, .inr (3, [.ref b1, .ref b2, .int pt, .int rc, .int (nI y)])), (b1, .inl (cJ, 320, .inr (.inl fw)))] sz) [(h0, .inr (1, [.ref h4, .ref s2, .ref s3, .ref p4, .ref u.1, .ref u.2.1, .int u.2.2.2.2.2.2])), (h4, .inr (4, [.ref a1, .ref a2, .ref a3, .int (nI n), .int sn, .int sg])), (a1, .inl (cI, 9, .inl fg)), (a2, .inl (cI, 9, .inl fb)), (a3, .inl (cI, 9, .inl fp)), (p4, .inl (cI, 9, .inl u.2.2.2.1)), (u.1, .inl (cJ, u.2.2.1, .inr (.inl u.2.2.2.2.1))), (u.2.1, .inl (cI, u.2.2.1, .inl u.2.2.2.2.2.1)), (s2, .inr (3, [.ref b1, .ref b2, .int pt, .int rc, .int (nI y)])), (b1, .inl (cJ, 320, .inr (.inl fw)))]) (va_A [(h0, .inr (1, [.ref h4, .ref s2, .ref s3, .ref p4, .ref p5, .ref p6, .int fr])), (h4, .inr (4, [.ref a1, .ref a2, .ref a3, .int (nI n), .int sn, .int sg])), (a1, .inl (cI, 9, .inl fg)), (a2, .inl (cI, 9, .inl fb)), (a3, .inl (cI, 9, .inl fp)), (p4, .inl (cI, 9, .inl fq)), (p5, .inl (cJ, len, .inr (.inl eb))), (p6, .inl (cI, len, .inl ew)), (s2, .inr (3, [.ref b1, .ref b2, .int pt, .int rc, .int (nI y)])), (b1, .inl (cJ, 320, .inr (.inl fw)))] sz)) mc ms (va_A [(h0, .inr (1, [.ref h4, .ref s2, .ref s3, .ref p4, .ref p5, .ref p6, .int fr])), (h4, .inr (4, [.ref a1, .ref a2, .ref a3, .int (nI n), .int sn, .int sg])), (a1, .inl (cI, 9, .inl fg)), (a2, .inl (cI, 9, .inl fb)), (a3, .inl (cI, 9, .inl fp)), (p4, .inl (cI, 9, .inl fq)), (p5, .inl (cJ, len, .inr (.inl eb))), (p6, .inl (cI, len, .inl ew)), (s2, .inr (3, [.ref b1, .ref b2, .int pt, .int rc, .int (nI y)])), (b1, .inl (cJ, 320, .inr (.inl fw)))] sz) := by
  refine Met.ofW (cc := cX1_next) (maxL := 6) (ret := (some .int)) (by decide) rfl ?_
  intro p e s m args below meth c s₁ B hml hv
  obtain ⟨rfl, hsz, hP, hKN, hT0, hD0⟩ := hv
  have hK := hKN.1
  have hx := B.exec
  have hb := B.bytes
  have hr := B.returns
  have hts := atoms_spec (ws := wsX1_next) B.pre
  have hown : s.vm.findClass RX1 = some m.cls := findClass_of_methodNamed B.named
  have hlocks := B.notSynchronized
  have hiX1 : ∀ w ∈ wsX10, w ∈ wsX1_next := by decide +kernel
  have hiX4 : ∀ w ∈ wsX40, w ∈ wsX1_next := by decide +kernel
  have hf22 := hts (.fieldLink RX1 22 "LookBench$Plans" "shelf" "LLookBench$Shelf;") (by decide +kernel)
  have hf26 := hts (.fieldLink RX1 26 "LookBench$Plans" "rules" "LLookBench$Rules;") (by decide +kernel)
  have hf57 := va_Nw.use (A := [.ref h0, .int (nI pl), .int (nI lk), .int (nI gd)].toArray) rfl (hKN.2 (.fieldLinkNest RX1 57 RX4 "count" "I" RX6) (by decide +kernel))
  subst hsz
  have hD := hD0.self (sz := s.heap.size)
  have hz9 := nz3.A (ws := [(h0, .inr (1, [.ref h4, .ref s2, .ref s3, .ref p4, .ref p5, .ref p6, .int fr])), (h4, .inr (4, [.ref a1, .ref a2, .ref a3, .int (nI n), .int sn, .int sg])), (a1, .inl (cI, 9, .inl fg)), (a2, .inl (cI, 9, .inl fb)), (a3, .inl (cI, 9, .inl fp)), (p4, .inl (cI, 9, .inl fq)), (p5, .inl (cJ, len, .inr (.inl eb))), (p6, .inl (cI, len, .inl ew)), (s2, .inr (3, [.ref b1, .ref b2, .int pt, .int rc, .int (nI y)])), (b1, .inl (cJ, 320, .inr (.inl fw)))]) hz3 hT0
  generalize hAe : va_A [(h0, .inr (1, [.ref h4, .ref s2, .ref s3, .ref p4, .ref p5, .ref p6, .int fr])), (h4, .inr (4, [.ref a1, .ref a2, .ref a3, .int (nI n), .int sn, .int sg])), (a1, .inl (cI, 9, .inl fg)), (a2, .inl (cI, 9, .inl fb)), (a3, .inl (cI, 9, .inl fp)), (p4, .inl (cI, 9, .inl fq)), (p5, .inl (cJ, len, .inr (.inl eb))), (p6, .inl (cI, len, .inl ew)), (s2, .inr (3, [.ref b1, .ref b2, .int pt, .int rc, .int (nI y)])), (b1, .inl (cJ, 320, .inr (.inl fw)))] s.heap.size = A at hD ⊢ hz9
  have hA : ∀ q : Nat, s.heap.size ≤ q → A q := fun q h => by rw [← hAe]; exact Or.inr h
  have hS : va_S A s.heap s.heap [] := va_S.rf
  have hzA := hz9.1
  have htA := hz9.2
  have hZ3 := hT0.Z hzA
  have hT3 := hT0.T htA
  have hl := lv_entry ([.ref h0, .int (nI pl), .int (nI lk), .int (nI gd)]) (n := 6) (Nat.le_of_ble_eq_true rfl)
  rw [lg_entry_eq]
  generalize (lg_sl ([.ref h0, .int (nI pl), .int (nI lk), .int (nI gd)]) ++ List.replicate (6 - (lg_sl ([.ref h0, .int (nI pl), .int (nI lk), .int (nI gd)])).length) Slot.unset).toArray = ls at hl ⊢
  have hl : lv_has ls 6 [(0, .ref h0), (1, .int (nI pl)), (2, .int (nI lk)), (3, .int (nI gd))] := hl
  generalize hQ : MQ below _ _ s _ _ _ = Q
  obtain ⟨H, hH⟩ : ∃ z, z = s.heap := ⟨_, rfl⟩
  have hP : va_P D vwCl [(h0, .inr (1, [.ref h4, .ref s2, .ref s3, .ref p4, .ref p5, .ref p6, .int fr])), (h4, .inr (4, [.ref a1, .ref a2, .ref a3, .int (nI n), .int sn, .int sg])), (a1, .inl (cI, 9, .inl fg)), (a2, .inl (cI, 9, .inl fb)), (a3, .inl (cI, 9, .inl fp)), (p4, .inl (cI, 9, .inl fq)), (p5, .inl (cJ, len, .inr (.inl eb))), (p6, .inl (cI, len, .inl ew)), (s2, .inr (3, [.ref b1, .ref b2, .int pt, .int rc, .int (nI y)])), (b1, .inl (cJ, 320, .inr (.inl fw)))] H := by rw [hH]; exact hP
  have hS : va_S A s.heap H [] := by rw [hH]; exact hS
  refine m_heap hH ?_
  clear hH
  have h2n := m_pow hn
  have h2p := m_powp n
  have h3n := m_3n hn
  have h3p := m_p3p n
  have hu9 : (2 ^ n - 1) ^^^ lk < 512 := m_x512 (by omega) (by omega)
  refine lv_iconst (v := nI 1) hx hb dX1_next_0 (by decide) ?_
  refine lv_aload_n hx hb dX1_next_1 rfl (lv_at hl 0 rfl) ?_
  refine va_get (D := D) (ci := 1) (v := .ref h4) (C := RX1) (T := TX1) (N := 7) hx hb hts hiX1 hown hK hP 0 rfl rfl 0 (by decide) hf22 (fun _ h9 => h9) rfl dX1_next_2 ?_
  refine va_getN (D := D) (ci := 4) (v := .int (nI n)) (C := RX4) (T := TX4) (N := 6) hx hb hts hiX4 hown hK hP 1 rfl rfl 3 (by decide) hf57 (fun _ h9 => h9) rfl dX1_next_5 ?_
  refine lv_ishl hx hb dX1_next_8 ?_
  refine cn_i (y := nI (2 ^ n)) (m_shl1 (by omega)) ?_
  refine lv_iconst (v := nI 1) hx hb dX1_next_9 (by decide) ?_
  refine lv_isub hx hb dX1_next_10 ?_
  refine cn_i (y := nI ((2 ^ n) - 1)) (pk_sub (a := (2 ^ n)) (b := 1) (by omega)) ?_
  refine lv_iload_n hx hb dX1_next_11 rfl (lv_at hl 2 rfl) ?_
  refine lv_iconst (v := (-1 : Int32)) hx hb dX1_next_12 (by decide) ?_
  refine lv_ixor hx hb dX1_next_13 ?_
  refine lv_iand hx hb dX1_next_14 ?_
  refine cn_i (y := nI ((2 ^ n - 1) ^^^ lk)) (mb_not hlk hn) ?_
  refine lv_istore (lv' := [(4, .int (nI ((2 ^ n - 1) ^^^ lk))), (0, .ref h0), (1, .int (nI pl)), (2, .int (nI lk)), (3, .int (nI gd))]) hx hb dX1_next_15 hl (by decide) rfl (fun ls hl => ?_)
  refine lv_aload_n hx hb dX1_next_17 rfl (lv_at hl 1 rfl) ?_
  refine va_get (D := D) (ci := 1) (v := .ref s2) (C := RX1) (T := TX1) (N := 7) hx hb hts hiX1 hown hK hP 0 rfl rfl 1 (by decide) hf26 (fun _ h9 => h9) rfl dX1_next_18 ?_
  refine lv_iload_n hx hb dX1_next_21 rfl (lv_at hl 4 rfl) ?_
  refine lv_iload hx hb dX1_next_22 (lv_at hl 0 rfl) ?_
  refine pu_i (va_runV (As := [.int (nI gd), .int (nI ((2 ^ n - 1) ^^^ lk))]) (rest := []) ⟨hx, hb, hml, hown, hts⟩ (c_X3_verdict l D cI cJ cZ s2 b1 b2 y gd ((2 ^ n - 1) ^^^ lk) pt rc fw (by first | assumption | omega) (by first | assumption | omega) (by first | assumption | omega)) (cwV 2 hts gX1_next_X3_verdict rfl rfl rfl (by decide +kernel) ⟨Nat.le_of_ble_eq_true rfl, Nat.le_of_ble_eq_true rfl⟩) ⟨pc_blind, va_recv hK hP (ci := 3) (q0 := 8) rfl rfl, fun U hU hW => ⟨rfl, by rw [hU]; exact hP.sub (ws' := [(s2, .inr (3, [.ref b1, .ref b2, .int pt, .int rc, .int (nI y)])), (b1, .inl (cJ, 320, .inr (.inl fw)))]) [8, 9] rfl, hKN.warm hW⟩⟩ rfl rfl hl.1 rfl (lv_room (Nat.le_of_ble_eq_true rfl)) dX1_next_24 ⟨(show 0 + 0 ≤ mc by omega), (show 0 + 0 ≤ ms by omega)⟩) hS hP (fun r1 H locs w1r hP hS => ?_)
  have w1 : VD r1 fw y gd ((2 ^ n - 1) ^^^ lk) := w1r
  clear w1r
  have w1 := w1
  refine lv_iconst (v := (-1 : Int32)) hx hb dX1_next_27 (by decide) ?_
  refine lv_icmp_eq (tgt := 33) hx hb dX1_next_28 (by decide) (fun c2 => ?_) (fun c2 => ?_)
  · skip
    have hnv := VD.nv w1 c2
    refine lv_iload_n hx hb dX1_next_33 rfl (lv_at hl 2 rfl) ?_
    refine lv_iconst (v := nI 2) hx hb dX1_next_34 (by decide) ?_
    refine lv_icmp_ne (tgt := 54) hx hb dX1_next_35 (by decide) (fun c3 => ?_) (fun c3 => ?_)
    · skip
      have d3 := c3
      rw [nI_eq (by omega) (by omega)] at d3
      refine lv_aload_n hx hb dX1_next_54 rfl (lv_at hl 1 rfl) ?_
      have hPc := hP.sub (ws' := [(h0, .inr (1, [.ref h4, .ref s2, .ref s3, .ref p4, .ref p5, .ref p6, .int fr])), (h4, .inr (4, [.ref a1, .ref a2, .ref a3, .int (nI n), .int sn, .int sg])), (a1, .inl (cI, 9, .inl fg)), (a2, .inl (cI, 9, .inl fb)), (a3, .inl (cI, 9, .inl fp)), (p4, .inl (cI, 9, .inl fq)), (p5, .inl (cJ, len, .inr (.inl eb))), (p6, .inl (cI, len, .inl ew)), (s2, .inr (3, [.ref b1, .ref b2, .int pt, .int rc, .int (nI y)])), (b1, .inl (cJ, 320, .inr (.inl fw)))]) [0, 1, 2, 3, 4, 5, 6, 7, 8, 9] rfl
      have hDc := hD.sub (ws' := [(h0, .inr (1, [.ref h4, .ref s2, .ref s3, .ref p4, .ref p5, .ref p6, .int fr])), (h4, .inr (4, [.ref a1, .ref a2, .ref a3, .int (nI n), .int sn, .int sg])), (a1, .inl (cI, 9, .inl fg)), (a2, .inl (cI, 9, .inl fb)), (a3, .inl (cI, 9, .inl fp)), (p4, .inl (cI, 9, .inl fq)), (p5, .inl (cJ, len, .inr (.inl eb))), (p6, .inl (cI, len, .inl ew)), (s2, .inr (3, [.ref b1, .ref b2, .int pt, .int rc, .int (nI y)])), (b1, .inl (cJ, 320, .inr (.inl fw)))]) [0, 1, 2, 3, 4, 5, 6, 7, 8, 9] (by decide) rfl
      have hFc := va_free (wc := [(h0, .inr (1, [.ref h4, .ref s2, .ref s3, .ref p4, .ref p5, .ref p6, .int fr])), (h4, .inr (4, [.ref a1, .ref a2, .ref a3, .int (nI n), .int sn, .int sg])), (a1, .inl (cI, 9, .inl fg)), (a2, .inl (cI, 9, .inl fb)), (a3, .inl (cI, 9, .inl fp)), (p4, .inl (cI, 9, .inl fq)), (p5, .inl (cJ, len, .inr (.inl eb))), (p6, .inl (cI, len, .inl ew)), (s2, .inr (3, [.ref b1, .ref b2, .int pt, .int rc, .int (nI y)])), (b1, .inl (cJ, 320, .inr (.inl fw)))]) hD hS hA [0, 1, 2, 3, 4, 5, 6, 7, 8, 9] rfl
      refine va_callv (va_runV (As := []) (rest := []) ⟨hx, hb, hml, hown, hts⟩ (c_X1_prepare l D cI cJ cZ z3 t3 H.size mc ms h0 h4 s2 s3 p4 p5 p6 a1 a2 a3 n b1 b2 y len pt rc sn sg fr fg fb fp fq eb ew fw (by first | assumption | omega) (by first | assumption | omega) (by first | assumption | omega) (by first | assumption | omega) (by first | assumption | omega) (by exact fun a b _ => hbud a b hnv) ((nz3.D hD hzA htA).sub [0, 1, 2, 3, 4, 5, 6, 7, 8, 9] rfl)) (cwV 0 hts gX1_next_X1_prepare rfl rfl rfl (by decide +kernel) ⟨Nat.le_of_ble_eq_true rfl, Nat.le_of_ble_eq_true rfl⟩) ⟨pnT_blind, va_recv hK hP (ci := 1) (q0 := 0) rfl rfl, fun U hU hW => ⟨rfl, by rw [hU], by rw [hU]; exact hPc, hKN.warm hW, hT0.go hS hzA htA hW hU, hDc.weaken (fun _ _ _ _ => trivial)⟩⟩ rfl rfl hl.1 rfl (lv_room (Nat.le_of_ble_eq_true rfl)) dX1_next_55 ⟨(show 0 + mc ≤ mc by omega), (show 0 + ms ≤ ms by omega)⟩) hS (fun q _ h => hFc q h) hFc (fun u t H1 locs ht hvm hw hB hz1 hk1 hS => ?_)
      obtain ⟨u4_w5, u4_w6, u4_ul, u4_uq, u4_ub, u4_uw⟩ := u
      have w4 : FS fr len n True (nI 1) u4_ul ∧ 3 ^ n ≤ u4_ul := hw
      obtain ⟨hP1, hD1⟩ := hB
      rw [ht] at hP1
      have hP1 : va_P D vwCl [(h0, .inr (1, [.ref h4, .ref s2, .ref s3, .ref p4, .ref u4_w5, .ref u4_w6, .int (nI 1)])), (h4, .inr (4, [.ref a1, .ref a2, .ref a3, .int (nI n), .int sn, .int sg])), (a1, .inl (cI, 9, .inl fg)), (a2, .inl (cI, 9, .inl fb)), (a3, .inl (cI, 9, .inl fp)), (p4, .inl (cI, 9, .inl u4_uq)), (u4_w5, .inl (cJ, u4_ul, .inr (.inl u4_ub))), (u4_w6, .inl (cI, u4_ul, .inl u4_uw)), (s2, .inr (3, [.ref b1, .ref b2, .int pt, .int rc, .int (nI y)])), (b1, .inl (cJ, 320, .inr (.inl fw)))] H1 := hP1
      have hD1 : va_D _ [(h0, .inr (1, [.ref h4, .ref s2, .ref s3, .ref p4, .ref u4_w5, .ref u4_w6, .int (nI 1)])), (h4, .inr (4, [.ref a1, .ref a2, .ref a3, .int (nI n), .int sn, .int sg])), (a1, .inl (cI, 9, .inl fg)), (a2, .inl (cI, 9, .inl fb)), (a3, .inl (cI, 9, .inl fp)), (p4, .inl (cI, 9, .inl u4_uq)), (u4_w5, .inl (cJ, u4_ul, .inr (.inl u4_ub))), (u4_w6, .inl (cI, u4_ul, .inl u4_uw)), (s2, .inr (3, [.ref b1, .ref b2, .int pt, .int rc, .int (nI y)])), (b1, .inl (cJ, 320, .inr (.inl fw)))] := hD1
      obtain ⟨hP, hD⟩ := va_join (wr := []) (w1 := [(h0, .inr (1, [.ref h4, .ref s2, .ref s3, .ref p4, .ref u4_w5, .ref u4_w6, .int (nI 1)])), (h4, .inr (4, [.ref a1, .ref a2, .ref a3, .int (nI n), .int sn, .int sg])), (a1, .inl (cI, 9, .inl fg)), (a2, .inl (cI, 9, .inl fb)), (a3, .inl (cI, 9, .inl fp)), (p4, .inl (cI, 9, .inl u4_uq)), (u4_w5, .inl (cJ, u4_ul, .inr (.inl u4_ub))), (u4_w6, .inl (cI, u4_ul, .inl u4_uw)), (s2, .inr (3, [.ref b1, .ref b2, .int pt, .int rc, .int (nI y)])), (b1, .inl (cJ, 320, .inr (.inl fw)))]) hP hD [0, 1, 2, 3, 4, 5, 6, 7, 8, 9] [] rfl rfl (by decide) (by decide) hk1 hFc hP1 hD1
      generalize H1 = H at hP hS ⊢
      have hP := hP.sub (ws' := [(h0, .inr (1, [.ref h4, .ref s2, .ref s3, .ref p4, .ref u4_w5, .ref u4_w6, .int (nI 1)])), (h4, .inr (4, [.ref a1, .ref a2, .ref a3, .int (nI n), .int sn, .int sg])), (a1, .inl (cI, 9, .inl fg)), (a2, .inl (cI, 9, .inl fb)), (a3, .inl (cI, 9, .inl fp)), (p4, .inl (cI, 9, .inl u4_uq)), (u4_w5, .inl (cJ, u4_ul, .inr (.inl u4_ub))), (u4_w6, .inl (cI, u4_ul, .inl u4_uw)), (s2, .inr (3, [.ref b1, .ref b2, .int pt, .int rc, .int (nI y)])), (b1, .inl (cJ, 320, .inr (.inl fw)))]) [0, 1, 2, 3, 4, 5, 6, 7, 8, 9] rfl
      have hD := hD.sub (ws' := [(h0, .inr (1, [.ref h4, .ref s2, .ref s3, .ref p4, .ref u4_w5, .ref u4_w6, .int (nI 1)])), (h4, .inr (4, [.ref a1, .ref a2, .ref a3, .int (nI n), .int sn, .int sg])), (a1, .inl (cI, 9, .inl fg)), (a2, .inl (cI, 9, .inl fb)), (a3, .inl (cI, 9, .inl fp)), (p4, .inl (cI, 9, .inl u4_uq)), (u4_w5, .inl (cJ, u4_ul, .inr (.inl u4_ub))), (u4_w6, .inl (cI, u4_ul, .inl u4_uw)), (s2, .inr (3, [.ref b1, .ref b2, .int pt, .int rc, .int (nI y)])), (b1, .inl (cJ, 320, .inr (.inl fw)))]) [0, 1, 2, 3, 4, 5, 6, 7, 8, 9] (by decide) rfl
      have hP : va_P D vwCl [(h0, .inr (1, [.ref h4, .ref s2, .ref s3, .ref p4, .ref u4_w5, .ref u4_w6, .int (nI 1)])), (h4, .inr (4, [.ref a1, .ref a2, .ref a3, .int (nI n), .int sn, .int sg])), (a1, .inl (cI, 9, .inl fg)), (a2, .inl (cI, 9, .inl fb)), (a3, .inl (cI, 9, .inl fp)), (p4, .inl (cI, 9, .inl u4_uq)), (u4_w5, .inl (cJ, u4_ul, .inr (.inl u4_ub))), (u4_w6, .inl (cI, u4_ul, .inl u4_uw)), (s2, .inr (3, [.ref b1, .ref b2, .int pt, .int rc, .int (nI y)])), (b1, .inl (cJ, 320, .inr (.inl fw)))] H := hP
      have hD : va_D A [(h0, .inr (1, [.ref h4, .ref s2, .ref s3, .ref p4, .ref u4_w5, .ref u4_w6, .int (nI 1)])), (h4, .inr (4, [.ref a1, .ref a2, .ref a3, .int (nI n), .int sn, .int sg])), (a1, .inl (cI, 9, .inl fg)), (a2, .inl (cI, 9, .inl fb)), (a3, .inl (cI, 9, .inl fp)), (p4, .inl (cI, 9, .inl u4_uq)), (u4_w5, .inl (cJ, u4_ul, .inr (.inl u4_ub))), (u4_w6, .inl (cI, u4_ul, .inl u4_uw)), (s2, .inr (3, [.ref b1, .ref b2, .int pt, .int rc, .int (nI y)])), (b1, .inl (cJ, 320, .inr (.inl fw)))] := hD
      refine W.widen (k := mc) (n := ms) (by omega) (by omega) ?_
      obtain ⟨hfs9, h3l⟩ := w4
      have hul := hfs9.1
      have hst := stN_lt lk gd n
      refine lv_aload_n hx hb dX1_next_58 rfl (lv_at hl 1 rfl) ?_
      refine lv_iload_n hx hb dX1_next_59 rfl (lv_at hl 3 rfl) ?_
      refine lv_iload_n hx hb dX1_next_60 rfl (lv_at hl 4 rfl) ?_
      refine pu_i (va_runV (As := [.int (nI lk), .int (nI gd)]) (rest := []) ⟨hx, hb, hml, hown, hts⟩ (c_X1_stateOf l D cI cJ cZ z3 t3 h0 h4 s2 s3 p4 u4_w5 u4_w6 a1 a2 a3 n lk gd sn sg (nI 1) (by first | assumption | omega) (by first | assumption | omega) (by first | assumption | omega)) (cwV 2 hts gX1_next_X1_stateOf rfl rfl rfl (by decide +kernel) ⟨Nat.le_of_ble_eq_true rfl, Nat.le_of_ble_eq_true rfl⟩) ⟨pcT_blind, va_recv hK hP (ci := 1) (q0 := 0) rfl rfl, fun U hU hW => ⟨rfl, by rw [hU]; exact hP.sub (ws' := [(h0, .inr (1, [.ref h4, .ref s2, .ref s3, .ref p4, .ref u4_w5, .ref u4_w6, .int (nI 1)])), (h4, .inr (4, [.ref a1, .ref a2, .ref a3, .int (nI n), .int sn, .int sg]))]) [0, 1] rfl, hKN.warm hW, hT0.go hS hzA htA hW hU⟩⟩ rfl rfl hl.1 rfl (lv_room (Nat.le_of_ble_eq_true rfl)) dX1_next_61 ⟨(show mc + 0 ≤ mc by omega), (show ms + 0 ≤ ms by omega)⟩) hS hP (fun r5 H locs w5r hP hS => ?_)
      have w5 : r5 = nI (stN lk gd n) := w5r
      clear w5r
      obtain rfl : r5 = nI (stN lk gd n) := w5
      refine lv_istore (lv' := [(5, .int (nI (stN lk gd n))), (4, .int (nI ((2 ^ n - 1) ^^^ lk))), (0, .ref h0), (1, .int (nI pl)), (2, .int (nI lk)), (3, .int (nI gd))]) hx hb dX1_next_64 hl (by decide) rfl (fun ls hl => ?_)
      refine lv_iload_n hx hb dX1_next_66 rfl (lv_at hl 3 rfl) ?_
      refine lv_if_ne (tgt := 90) hx hb dX1_next_67 (by decide) (fun c6 => ?_) (fun c6 => ?_)
      · skip
        have d6 := c6
        rw [nz_eq (by omega)] at d6
        refine lv_aload_n hx hb dX1_next_90 rfl (lv_at hl 2 rfl) ?_
        refine lv_iload hx hb dX1_next_91 (lv_at hl 0 rfl) ?_
        refine lv_iload hx hb dX1_next_93 (lv_at hl 1 rfl) ?_
        refine pu_i (va_runV (As := [.int (nI (stN lk gd n)), .int (nI ((2 ^ n - 1) ^^^ lk))]) (rest := []) ⟨hx, hb, hml, hown, hts⟩ (c_X1_nextOfWorst l D cI cJ cZ z3 t3 h0 h4 s2 s3 p4 u4_w5 u4_w6 a1 a2 a3 n (stN lk gd n) ((2 ^ n - 1) ^^^ lk) u4_ul sn sg (nI 1) fp u4_uw (by first | assumption | omega) (by exact hu9) (by omega) (by exact fun z hz h9 => by have := stN_free (gd := gd) (nb_free hz h9) n hz; omega) (by first | assumption | omega)) (cwV 2 hts gX1_next_X1_nextOfWorst rfl rfl rfl (by decide +kernel) ⟨Nat.le_of_ble_eq_true rfl, Nat.le_of_ble_eq_true rfl⟩) ⟨pcT_blind, va_recv hK hP (ci := 1) (q0 := 0) rfl rfl, fun U hU hW => ⟨rfl, by rw [hU]; exact hP.sub (ws' := [(h0, .inr (1, [.ref h4, .ref s2, .ref s3, .ref p4, .ref u4_w5, .ref u4_w6, .int (nI 1)])), (h4, .inr (4, [.ref a1, .ref a2, .ref a3, .int (nI n), .int sn, .int sg])), (a3, .inl (cI, 9, .inl fp)), (u4_w6, .inl (cI, u4_ul, .inl u4_uw))]) [0, 1, 4, 7] rfl, hKN.warm hW, hT0.go hS hzA htA hW hU⟩⟩ rfl rfl hl.1 rfl (lv_room (Nat.le_of_ble_eq_true rfl)) dX1_next_95 ⟨(show mc + 0 ≤ mc by omega), (show ms + 0 ≤ ms by omega)⟩) hS hP (fun r7 H locs w7r hP hS => ?_)
        have w7 : r7 = -1 ∨ ∃ x, x < n ∧ r7 = nI x ∧ ((2 ^ n - 1) ^^^ lk) / 2 ^ x % 2 = 1 := w7r
        clear w7r
        refine W.widen (k := mc) (n := ms) (by omega) (by omega) ?_
        rw [← hQ]
        have hP9 := hP.sub (ws' := [(h0, .inr (1, [.ref h4, .ref s2, .ref s3, .ref p4, .ref u4_w5, .ref u4_w6, .int (nI 1)])), (h4, .inr (4, [.ref a1, .ref a2, .ref a3, .int (nI n), .int sn, .int sg])), (a1, .inl (cI, 9, .inl fg)), (a2, .inl (cI, 9, .inl fb)), (a3, .inl (cI, 9, .inl fp)), (p4, .inl (cI, 9, .inl u4_uq)), (u4_w5, .inl (cJ, u4_ul, .inr (.inl u4_ub))), (u4_w6, .inl (cI, u4_ul, .inl u4_uw)), (s2, .inr (3, [.ref b1, .ref b2, .int pt, .int rc, .int (nI y)])), (b1, .inl (cJ, 320, .inr (.inl fw)))]) [0, 1, 2, 3, 4, 5, 6, 7, 8, 9] rfl
        have hD9 := hD.sub (ws' := [(h0, .inr (1, [.ref h4, .ref s2, .ref s3, .ref p4, .ref u4_w5, .ref u4_w6, .int (nI 1)])), (h4, .inr (4, [.ref a1, .ref a2, .ref a3, .int (nI n), .int sn, .int sg])), (a1, .inl (cI, 9, .inl fg)), (a2, .inl (cI, 9, .inl fb)), (a3, .inl (cI, 9, .inl fp)), (p4, .inl (cI, 9, .inl u4_uq)), (u4_w5, .inl (cJ, u4_ul, .inr (.inl u4_ub))), (u4_w6, .inl (cI, u4_ul, .inl u4_uw)), (s2, .inr (3, [.ref b1, .ref b2, .int pt, .int rc, .int (nI y)])), (b1, .inl (cJ, 320, .inr (.inl fw)))]) [0, 1, 2, 3, 4, 5, 6, 7, 8, 9] (by decide) rfl
        exact W.iret (v := r7) hx hb hr (fun tS htS hWS => ⟨⟨r7, (u4_w5, u4_w6, u4_ul, u4_uq, u4_ub, u4_uw, nI 1), rfl, by rcases w7 with h | ⟨x, a, b, c⟩; exact Or.inl ⟨h, FS.mono hnv hfs9⟩; exact Or.inr ⟨x, a, b, nb_free a c, rfl, FS.mono hnv hfs9⟩, m_at htS hP9, hD9⟩, hS.F htS⟩) hS.2.2 dX1_next_98
      · skip
        have d6 := c6
        rw [nz_eq (by omega)] at d6
        refine lv_aload_n hx hb dX1_next_70 rfl (lv_at hl 2 rfl) ?_
        refine lv_iload hx hb dX1_next_71 (lv_at hl 0 rfl) ?_
        refine lv_iload hx hb dX1_next_73 (lv_at hl 1 rfl) ?_
        refine lv_aload_n hx hb dX1_next_75 rfl (lv_at hl 2 rfl) ?_
        refine va_get (D := D) (ci := 1) (v := .ref h4) (C := RX1) (T := TX1) (N := 7) hx hb hts hiX1 hown hK hP 0 rfl rfl 0 (by decide) hf22 (fun _ h9 => h9) rfl dX1_next_76 ?_
        refine lv_iload_n hx hb dX1_next_79 rfl (lv_at hl 4 rfl) ?_
        refine lv_iload_n hx hb dX1_next_80 rfl (lv_at hl 5 rfl) ?_
        refine pu_l (va_runV (As := [.int (nI lk), .int (nI gd)]) (rest := [.int (nI ((2 ^ n - 1) ^^^ lk)), .int (nI (stN lk gd n)), .ref h0]) ⟨hx, hb, hml, hown, hts⟩ (c_X4_left l D cI cJ cZ h4 a1 a2 a3 n sn sg (nI lk) (nI gd) fg fb (by first | assumption | omega)) (cwV 2 hts gX1_next_X4_left rfl rfl rfl (by decide +kernel) ⟨Nat.le_of_ble_eq_true rfl, Nat.le_of_ble_eq_true rfl⟩) ⟨pc_blind, va_recv hK hP (ci := 4) (q0 := 1) rfl rfl, fun U hU hW => ⟨rfl, by rw [hU]; exact hP.sub (ws' := [(h4, .inr (4, [.ref a1, .ref a2, .ref a3, .int (nI n), .int sn, .int sg])), (a1, .inl (cI, 9, .inl fg)), (a2, .inl (cI, 9, .inl fb))]) [1, 2, 3] rfl, hKN.warm hW⟩⟩ rfl rfl hl.1 rfl (lv_room (Nat.le_of_ble_eq_true rfl)) dX1_next_81 ⟨(show mc + 0 ≤ mc by omega), (show ms + 0 ≤ ms by omega)⟩) hS hP (fun r8 H locs w8r hP hS => ?_)
        have w8 : r8 = lf fg fb (nI lk) (nI gd) n := w8r
        clear w8r
        refine pu_i (va_runV (As := [.int (nI (stN lk gd n)), .int (nI ((2 ^ n - 1) ^^^ lk)), .long r8]) (rest := []) ⟨hx, hb, hml, hown, hts⟩ (c_X1_nextOfBest l D cI cJ cZ z3 t3 h0 h4 s2 s3 p4 u4_w5 u4_w6 a1 a2 a3 n (stN lk gd n) ((2 ^ n - 1) ^^^ lk) u4_ul sn sg (nI 1) r8 fp u4_ub (by first | assumption | omega) (by exact hu9) (by omega) (by exact fun z hz h9 => by have := stN_free (gd := gd) (nb_free hz h9) n hz; omega) (by first | assumption | omega)) (cwV 3 hts gX1_next_X1_nextOfBest rfl rfl rfl (by decide +kernel) ⟨Nat.le_of_ble_eq_true rfl, Nat.le_of_ble_eq_true rfl⟩) ⟨pcT_blind, va_recv hK hP (ci := 1) (q0 := 0) rfl rfl, fun U hU hW => ⟨rfl, by rw [hU]; exact hP.sub (ws' := [(h0, .inr (1, [.ref h4, .ref s2, .ref s3, .ref p4, .ref u4_w5, .ref u4_w6, .int (nI 1)])), (h4, .inr (4, [.ref a1, .ref a2, .ref a3, .int (nI n), .int sn, .int sg])), (a3, .inl (cI, 9, .inl fp)), (u4_w5, .inl (cJ, u4_ul, .inr (.inl u4_ub)))]) [0, 1, 4, 6] rfl, hKN.warm hW, hT0.go hS hzA htA hW hU⟩⟩ rfl rfl hl.1 rfl (lv_room (Nat.le_of_ble_eq_true rfl)) dX1_next_84 ⟨(show mc + 0 ≤ mc by omega), (show ms + 0 ≤ ms by omega)⟩) hS hP (fun r9 H locs w9r hP hS => ?_)
        have w9 : r9 = -1 ∨ ∃ x, x < n ∧ r9 = nI x ∧ ((2 ^ n - 1) ^^^ lk) / 2 ^ x % 2 = 1 := w9r
        clear w9r
        refine lv_goto (tgt := 98) hx hb dX1_next_87 (by decide) ?_
        refine W.widen (k := mc) (n := ms) (by omega) (by omega) ?_
        rw [← hQ]
        have hP9 := hP.sub (ws' := [(h0, .inr (1, [.ref h4, .ref s2, .ref s3, .ref p4, .ref u4_w5, .ref u4_w6, .int (nI 1)])), (h4, .inr (4, [.ref a1, .ref a2, .ref a3, .int (nI n), .int sn, .int sg])), (a1, .inl (cI, 9, .inl fg)), (a2, .inl (cI, 9, .inl fb)), (a3, .inl (cI, 9, .inl fp)), (p4, .inl (cI, 9, .inl u4_uq)), (u4_w5, .inl (cJ, u4_ul, .inr (.inl u4_ub))), (u4_w6, .inl (cI, u4_ul, .inl u4_uw)), (s2, .inr (3, [.ref b1, .ref b2, .int pt, .int rc, .int (nI y)])), (b1, .inl (cJ, 320, .inr (.inl fw)))]) [0, 1, 2, 3, 4, 5, 6, 7, 8, 9] rfl
        have hD9 := hD.sub (ws' := [(h0, .inr (1, [.ref h4, .ref s2, .ref s3, .ref p4, .ref u4_w5, .ref u4_w6, .int (nI 1)])), (h4, .inr (4, [.ref a1, .ref a2, .ref a3, .int (nI n), .int sn, .int sg])), (a1, .inl (cI, 9, .inl fg)), (a2, .inl (cI, 9, .inl fb)), (a3, .inl (cI, 9, .inl fp)), (p4, .inl (cI, 9, .inl u4_uq)), (u4_w5, .inl (cJ, u4_ul, .inr (.inl u4_ub))), (u4_w6, .inl (cI, u4_ul, .inl u4_uw)), (s2, .inr (3, [.ref b1, .ref b2, .int pt, .int rc, .int (nI y)])), (b1, .inl (cJ, 320, .inr (.inl fw)))]) [0, 1, 2, 3, 4, 5, 6, 7, 8, 9] (by decide) rfl
        exact W.iret (v := r9) hx hb hr (fun tS htS hWS => ⟨⟨r9, (u4_w5, u4_w6, u4_ul, u4_uq, u4_ub, u4_uw, nI 1), rfl, by rcases w9 with h | ⟨x, a, b, c⟩; exact Or.inl ⟨h, FS.mono hnv hfs9⟩; exact Or.inr ⟨x, a, b, nb_free a c, rfl, FS.mono hnv hfs9⟩, m_at htS hP9, hD9⟩, hS.F htS⟩) hS.2.2 dX1_next_98
    · skip
      have d3 := c3
      rw [nI_eq (by omega) (by omega)] at d3
      exact absurd d3 (by omega)
  · skip
    refine lv_iconst (v := (-1 : Int32)) hx hb dX1_next_31 (by decide) ?_
    refine W.widen (k := mc) (n := ms) (by omega) (by omega) ?_
    rw [← hQ]
    have hP9 := hP.sub (ws' := [(h0, .inr (1, [.ref h4, .ref s2, .ref s3, .ref p4, .ref p5, .ref p6, .int fr])), (h4, .inr (4, [.ref a1, .ref a2, .ref a3, .int (nI n), .int sn, .int sg])), (a1, .inl (cI, 9, .inl fg)), (a2, .inl (cI, 9, .inl fb)), (a3, .inl (cI, 9, .inl fp)), (p4, .inl (cI, 9, .inl fq)), (p5, .inl (cJ, len, .inr (.inl eb))), (p6, .inl (cI, len, .inl ew)), (s2, .inr (3, [.ref b1, .ref b2, .int pt, .int rc, .int (nI y)])), (b1, .inl (cJ, 320, .inr (.inl fw)))]) [0, 1, 2, 3, 4, 5, 6, 7, 8, 9] rfl
    have hD9 := hD.sub (ws' := [(h0, .inr (1, [.ref h4, .ref s2, .ref s3, .ref p4, .ref p5, .ref p6, .int fr])), (h4, .inr (4, [.ref a1, .ref a2, .ref a3, .int (nI n), .int sn, .int sg])), (a1, .inl (cI, 9, .inl fg)), (a2, .inl (cI, 9, .inl fb)), (a3, .inl (cI, 9, .inl fp)), (p4, .inl (cI, 9, .inl fq)), (p5, .inl (cJ, len, .inr (.inl eb))), (p6, .inl (cI, len, .inl ew)), (s2, .inr (3, [.ref b1, .ref b2, .int pt, .int rc, .int (nI y)])), (b1, .inl (cJ, 320, .inr (.inl fw)))]) [0, 1, 2, 3, 4, 5, 6, 7, 8, 9] (by decide) rfl
    exact W.iret (v := (-1 : Int32)) hx hb hr (fun tS htS hWS => ⟨⟨(-1 : Int32), (p5, p6, len, fq, eb, ew, fr), rfl, Or.inl ⟨rfl, FS.no (VD.nn w1 (by assumption)) hfr hlen⟩, m_at htS hP9, hD9⟩, hS.F htS⟩) hS.2.2 dX1_next_32
