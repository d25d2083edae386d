def rm_c_X1_fillSure_v : Room := { frames := 0, cells := 0, slots := 0, locals := 0 }
set_option maxHeartbeats 400000 in
set_option maxRecDepth 100000 in
theorem c_X1_fillSure_v (l : Launch) (D : va_G) (cI cJ cZ : ClassId) (h0 : Nat) (h4 : Nat) (s2 : Nat) (s3 : Nat) (p4 : Nat) (p5 : Nat) (p6 : Nat) (a1 : Nat) (a2 : Nat) (a3 : Nat) (n : Nat) (fa : Nat) (tb : Nat) (len : Nat) (fr : Int32) (eb : Nat → Int64) (ew : Nat → Int32) (hft : fa ≤ tb) (htb : tb ≤ len) (hlen : len ≤ 19683) : Met l yX1_fillSure wsX1_fillSure rm_c_X1_fillSure_v (pm_ D cI cJ cZ [.ref h0, .int (nI fa), .int (nI tb)] [(h0, .inr (1, [.ref h4, .ref s2, .ref s3, .ref p4, .ref p5, .ref p6, .int fr])), (p5, .inl (cJ, len, .inr (.inl eb))), (p6, .inl (cI, len, .inl ew))]) (va_Qv (fun (u : (Nat → Int64) × (Nat → Int32)) => ZER fa tb eb ew u.1 u.2) (fun (u : (Nat → Int64) × (Nat → Int32)) tS => va_P D vwCl [(h0, .inr (1, [.ref h4, .ref s2, .ref s3, .ref p4, .ref p5, .ref p6, .int fr])), (p5, .inl (cJ, len, .inr (.inl u.1))), (p6, .inl (cI, len, .inl u.2))] tS.heap) (aA [h0, p5, p6])) 0 0 (aA [h0, p5, p6]) := by
  refine Met.ofW (cc := cX1_fillSure) (maxL := 4) (ret := none) (by decide) rfl ?_
  intro p e s m args below meth c s₁ B hml hv
  obtain ⟨rfl, hP, hKN, hD0⟩ := hv
  have hK := hKN.1
  have hx := B.exec
  have hb := B.bytes
  have hr := B.returns
  have hts := atoms_spec (ws := wsX1_fillSure) B.pre
  have hown : s.vm.findClass RX1 = some m.cls := findClass_of_methodNamed B.named
  have hlocks := B.notSynchronized
  have hiX1 : ∀ w ∈ wsX10, w ∈ wsX1_fillSure := by decide +kernel
  have hf15 := hts (.fieldLink RX1 15 "LookBench$Plans" "best" "[J") (by decide +kernel)
  have hf19 := hts (.fieldLink RX1 19 "LookBench$Plans" "worst" "[I") (by decide +kernel)
  obtain ⟨as, has⟩ : ∃ z : List Nat, z = [h0, p5, p6] := ⟨_, rfl⟩
  have hD := hD0.addr (as := as) (by rw [has]; rfl)
  have hS : va_S (aA as) s.heap s.heap [] := va_S.rf
  have hl := lv_entry ([.ref h0, .int (nI fa), .int (nI tb)]) (n := 4) (Nat.le_of_ble_eq_true rfl)
  rw [lg_entry_eq]
  generalize (lg_sl ([.ref h0, .int (nI fa), .int (nI tb)]) ++ List.replicate (4 - (lg_sl ([.ref h0, .int (nI fa), .int (nI tb)])).length) Slot.unset).toArray = ls at hl ⊢
  have hl : lv_has ls 4 [(0, .ref h0), (1, .int (nI fa)), (2, .int (nI tb))] := hl
  generalize hQ : MQ below _ _ s _ _ _ = Q
  obtain ⟨H, hH⟩ : ∃ z, z = s.heap := ⟨_, rfl⟩
  have hP : va_P D vwCl [(h0, .inr (1, [.ref h4, .ref s2, .ref s3, .ref p4, .ref p5, .ref p6, .int fr])), (p5, .inl (cJ, len, .inr (.inl eb))), (p6, .inl (cI, len, .inl ew))] H := by rw [hH]; exact hP
  have hS : va_S (aA as) s.heap H [] := by rw [hH]; exact hS
  refine m_heap hH ?_
  clear hH
  refine lv_iload_n hx hb dX1_fillSure_0 rfl (lv_at hl 1 rfl) ?_
  refine lv_istore_n (lv' := [(3, .int (nI fa)), (0, .ref h0), (1, .int (nI fa)), (2, .int (nI tb))]) hx hb dX1_fillSure_1 rfl hl (by decide) rfl (fun ls hl => ?_)
  have loop1 : ∀ (fu : Nat) (k : Nat) (ub : Nat → Int64) (uw : Nat → Int32) (H : Heap) (locs : List Loc) (ls : Array Slot), (k ≤ tb ∧ tb < k + fu) → (fa ≤ k ∧ ZER fa k eb ew ub uw) → va_P D vwCl [(h0, .inr (1, [.ref h4, .ref s2, .ref s3, .ref p4, .ref p5, .ref p6, .int fr])), (p5, .inl (cJ, len, .inr (.inl ub))), (p6, .inl (cI, len, .inl uw))] H → va_D (aA as) [(h0, .inr (1, [.ref h4, .ref s2, .ref s3, .ref p4, .ref p5, .ref p6, .int fr])), (p5, .inl (cJ, len, .inr (.inl ub))), (p6, .inl (cI, len, .inl uw))] → va_S (aA as) s.heap H locs → lv_has ls 4 [(3, .int (nI k)), (0, .ref h0), (1, .int (nI fa)), (2, .int (nI tb))] → W p l e (headSpec wsX1_fillSure rm_c_X1_fillSure_v).room s m ([.ref h0, .int (nI fa), .int (nI tb)] : List Value).toArray below meth c H locs 0 0 Q (F0 m 2 ls []) := by
    intro fu
    induction fu with
    | zero => intro k ub uw H locs ls hk hZ; exact absurd hk (by omega)
    | succ fu ih1 =>
      intro k ub uw H locs ls hk hZ hP hD hS hl
      refine lv_iload_n hx hb dX1_fillSure_2 rfl (lv_at hl 0 rfl) ?_
      refine lv_iload_n hx hb dX1_fillSure_3 rfl (lv_at hl 3 rfl) ?_
      refine lv_icmp_ge (tgt := 27) hx hb dX1_fillSure_4 (by decide) (fun c2 => ?_) (fun c2 => ?_)
      · skip
        have d2 := c2
        rw [nI_leI (by omega) (by omega)] at d2
        rw [← hQ]
        exact W.vret hx hb hr (fun tS htS hWS => ⟨⟨(ub, uw), rfl, by rw [show tb = k by omega]; exact hZ.2, m_at htS hP⟩, by rw [← has]; exact hS.F htS⟩) (by rw [← has]; exact hS.2.2) dX1_fillSure_27
      · skip
        have d2 := c2
        rw [nI_leI (by omega) (by omega)] at d2
        refine lv_aload_n hx hb dX1_fillSure_7 rfl (lv_at hl 1 rfl) ?_
        refine va_get (D := D) (ci := 1) (v := .ref p5) (C := RX1) (T := TX1) (N := 7) hx hb hts hiX1 hown hK hP 0 rfl rfl 4 (by decide) hf15 (fun _ h9 => h9) rfl dX1_fillSure_8 ?_
        refine lv_iload_n hx hb dX1_fillSure_11 rfl (lv_at hl 0 rfl) ?_
        refine lv_lconst (v := lN 0) hx hb dX1_fillSure_12 (by decide) ?_
        refine va_last hx hb hK hP hD hS 1 1 rfl rfl (i := nI k) (vp_in_nI (by omega) (by omega)) dX1_fillSure_13 (fun H locs hP hD hS => ?_)
        have hP : va_P D vwCl [(h0, .inr (1, [.ref h4, .ref s2, .ref s3, .ref p4, .ref p5, .ref p6, .int fr])), (p5, .inl (cJ, len, .inr (.inl (vp_updL ub (nI k).toNatClampNeg (lN 0))))), (p6, .inl (cI, len, .inl uw))] H := hP
        have hD : va_D (aA as) [(h0, .inr (1, [.ref h4, .ref s2, .ref s3, .ref p4, .ref p5, .ref p6, .int fr])), (p5, .inl (cJ, len, .inr (.inl (vp_updL ub (nI k).toNatClampNeg (lN 0))))), (p6, .inl (cI, len, .inl uw))] := hD
        rw [nI_clamp (n := k) (by omega)] at hP hD
        refine lv_aload_n hx hb dX1_fillSure_14 rfl (lv_at hl 1 rfl) ?_
        refine va_get (D := D) (ci := 1) (v := .ref p6) (C := RX1) (T := TX1) (N := 7) hx hb hts hiX1 hown hK hP 0 rfl rfl 5 (by decide) hf19 (fun _ h9 => h9) rfl dX1_fillSure_15 ?_
        refine lv_iload_n hx hb dX1_fillSure_18 rfl (lv_at hl 0 rfl) ?_
        refine lv_iconst (v := nI 0) hx hb dX1_fillSure_19 (by decide) ?_
        refine va_iast hx hb hK hP hD hS 2 0 rfl rfl (i := nI k) (vp_in_nI (by omega) (by omega)) dX1_fillSure_20 (fun H locs hP hD hS => ?_)
        have hP : va_P D vwCl [(h0, .inr (1, [.ref h4, .ref s2, .ref s3, .ref p4, .ref p5, .ref p6, .int fr])), (p5, .inl (cJ, len, .inr (.inl (vp_updL ub k (lN 0))))), (p6, .inl (cI, len, .inl (upd uw (nI k).toNatClampNeg (nI 0))))] H := hP
        have hD : va_D (aA as) [(h0, .inr (1, [.ref h4, .ref s2, .ref s3, .ref p4, .ref p5, .ref p6, .int fr])), (p5, .inl (cJ, len, .inr (.inl (vp_updL ub k (lN 0))))), (p6, .inl (cI, len, .inl (upd uw (nI k).toNatClampNeg (nI 0))))] := hD
        rw [nI_clamp (n := k) (by omega)] at hP hD
        refine lv_iinc (v := nI (k + 1)) (lv' := [(3, .int (nI (k + 1))), (0, .ref h0), (1, .int (nI fa)), (2, .int (nI tb))]) hx hb dX1_fillSure_21 hl (k := 0) rfl (nI_1 k) (by decide) rfl (fun ls hl => ?_)
        refine lv_goto (tgt := 2) hx hb dX1_fillSure_24 (by decide) ?_
        exact ih1 (k + 1) (vp_updL ub k (lN 0)) (upd uw k (nI 0)) _ _ _ (by omega) (⟨by omega, hZ.2.next hZ.1⟩) hP hD hS (lv_sub hl [0, 1, 2, 3] rfl)
  exact loop1 (tb + 1) fa eb ew _ _ _ (by omega) (⟨Nat.le_refl fa, ZER.nil fa eb ew⟩) hP hD hS (lv_sub hl [0, 1, 2, 3] rfl)
def rm_c_X1_settle_v : Room := { frames := 0, cells := 0, slots := 0, locals := 0 }
set_option maxHeartbeats 400000 in
set_option maxRecDepth 100000 in
theorem c_X1_settle_v (l : Launch) (D : va_G) (cI cJ cZ : ClassId) (z3 t3 : Nat) (h0 : Nat) (h4 : Nat) (s2 : Nat) (s3 : Nat) (p4 : Nat) (p5 : Nat) (p6 : Nat) (a1 : Nat) (a2 : Nat) (a3 : Nat) (n : Nat) (sx : Nat) (op : Nat) (len : Nat) (sn : Int32) (sg : Int32) (fr : Int32) (le : Int64) (fp : Nat → Int32) (fq : Nat → Int32) (eb : Nat → Int64) (ew : Nat → Int32) (gx : Nat → Nat) (hop : op ≤ 9) (hsx : sx < len) (hfq : ∀ z, z < op → gx z < 9 ∧ fq z = nI (gx z) ∧ sx + 2 * 3 ^ gx z < len) (hlen : len ≤ 19683) (hz3 : nz3 z3 t3 [h0, h4, a3, p4, p5, p6]) : Met l yX1_settle wsX1_settle rm_c_X1_settle_v (pmT_ D cI cJ cZ z3 t3 [.ref h0, .int (nI sx), .long le, .int (nI op)] [(h0, .inr (1, [.ref h4, .ref s2, .ref s3, .ref p4, .ref p5, .ref p6, .int fr])), (h4, .inr (4, [.ref a1, .ref a2, .ref a3, .int (nI n), .int sn, .int sg])), (a3, .inl (cI, 9, .inl fp)), (p4, .inl (cI, 9, .inl fq)), (p5, .inl (cJ, len, .inr (.inl eb))), (p6, .inl (cI, len, .inl ew))]) (va_Qv (fun (u : (Nat → Int64) × (Nat → Int32)) => STL op sx gx fp le eb ew u.1 u.2) (fun (u : (Nat → Int64) × (Nat → Int32)) tS => va_P D vwCl [(h0, .inr (1, [.ref h4, .ref s2, .ref s3, .ref p4, .ref p5, .ref p6, .int fr])), (h4, .inr (4, [.ref a1, .ref a2, .ref a3, .int (nI n), .int sn, .int sg])), (a3, .inl (cI, 9, .inl fp)), (p4, .inl (cI, 9, .inl fq)), (p5, .inl (cJ, len, .inr (.inl u.1))), (p6, .inl (cI, len, .inl u.2))] tS.heap) (aA [h0, h4, a3, p4, p5, p6])) 0 0 (aA [h0, h4, a3, p4, p5, p6]) := by
  refine Met.ofW (cc := cX1_settle) (maxL := 18) (ret := none) (by decide) rfl ?_
  intro p e s m args below meth c s₁ B hml hv
  obtain ⟨rfl, hP, hKN, hT0, hD0⟩ := hv
  have hK := hKN.1
  have hx := B.exec
  have hb := B.bytes
  have hr := B.returns
  have hts := atoms_spec (ws := wsX1_settle) B.pre
  have hown : s.vm.findClass RX1 = some m.cls := findClass_of_methodNamed B.named
  have hlocks := B.notSynchronized
  have hiX1 : ∀ w ∈ wsX10, w ∈ wsX1_settle := by decide +kernel
  have hiX4 : ∀ w ∈ wsX40, w ∈ wsX1_settle := by decide +kernel
  have hf9 := hts (.fieldLink RX1 9 "LookBench$Plans" "open" "[I") (by decide +kernel)
  have hf15 := hts (.fieldLink RX1 15 "LookBench$Plans" "best" "[J") (by decide +kernel)
  have hf19 := hts (.fieldLink RX1 19 "LookBench$Plans" "worst" "[I") (by decide +kernel)
  have hf22 := hts (.fieldLink RX1 22 "LookBench$Plans" "shelf" "LLookBench$Shelf;") (by decide +kernel)
  have hf92 := va_Nw.use (A := [.ref h0, .int (nI sx), .long le, .int (nI op)].toArray) rfl (hKN.2 (.fieldLinkNest RX1 92 RX4 "prices" "[I" RX6) (by decide +kernel))
  obtain ⟨as, has⟩ : ∃ z : List Nat, z = [h0, h4, a3, p4, p5, p6] := ⟨_, rfl⟩
  have hD := hD0.addr (as := as) (by rw [has]; rfl)
  have hS : va_S (aA as) s.heap s.heap [] := va_S.rf
  have hzA : ¬ aA as z3 := by rw [has]; exact hz3.z
  have htA : ¬ aA as t3 := by rw [has]; exact hz3.t
  have hZ3 := hT0.Z hzA
  have hT3 := hT0.T htA
  have hfs := hts (.fieldLink RX1 54 "LookBench$Plans" "THREES" "[I") (by decide +kernel)
  have hl := lv_entry ([.ref h0, .int (nI sx), .long le, .int (nI op)]) (n := 18) (Nat.le_of_ble_eq_true rfl)
  rw [lg_entry_eq]
  generalize (lg_sl ([.ref h0, .int (nI sx), .long le, .int (nI op)]) ++ List.replicate (18 - (lg_sl ([.ref h0, .int (nI sx), .long le, .int (nI op)])).length) Slot.unset).toArray = ls at hl ⊢
  have hl : lv_has ls 18 [(0, .ref h0), (1, .int (nI sx)), (2, .long le), (4, .int (nI op))] := hl
  generalize hQ : MQ below _ _ s _ _ _ = Q
  obtain ⟨H, hH⟩ : ∃ z, z = s.heap := ⟨_, rfl⟩
  have hP : va_P D vwCl [(h0, .inr (1, [.ref h4, .ref s2, .ref s3, .ref p4, .ref p5, .ref p6, .int fr])), (h4, .inr (4, [.ref a1, .ref a2, .ref a3, .int (nI n), .int sn, .int sg])), (a3, .inl (cI, 9, .inl fp)), (p4, .inl (cI, 9, .inl fq)), (p5, .inl (cJ, len, .inr (.inl eb))), (p6, .inl (cI, len, .inl ew))] H := by rw [hH]; exact hP
  have hS : va_S (aA as) s.heap H [] := by rw [hH]; exact hS
  refine m_heap hH ?_
  clear hH
  refine lv_aload_n hx hb dX1_settle_0 rfl (lv_at hl 0 rfl) ?_
  refine va_get (D := D) (ci := 1) (v := .ref p5) (C := RX1) (T := TX1) (N := 7) hx hb hts hiX1 hown hK hP 0 rfl rfl 4 (by decide) hf15 (fun _ h9 => h9) rfl dX1_settle_1 ?_
  refine lv_astore (lv' := [(5, .ref p5), (0, .ref h0), (1, .int (nI sx)), (2, .long le), (4, .int (nI op))]) hx hb dX1_settle_4 hl (by decide) rfl (fun ls hl => ?_)
  refine lv_aload_n hx hb dX1_settle_6 rfl (lv_at hl 1 rfl) ?_
  refine va_get (D := D) (ci := 1) (v := .ref p6) (C := RX1) (T := TX1) (N := 7) hx hb hts hiX1 hown hK hP 0 rfl rfl 5 (by decide) hf19 (fun _ h9 => h9) rfl dX1_settle_7 ?_
  refine lv_astore (lv' := [(6, .ref p6), (5, .ref p5), (0, .ref h0), (1, .int (nI sx)), (2, .long le), (4, .int (nI op))]) hx hb dX1_settle_10 hl (by decide) rfl (fun ls hl => ?_)
  refine lv_aload_n hx hb dX1_settle_12 rfl (lv_at hl 2 rfl) ?_
  refine va_get (D := D) (ci := 1) (v := .ref h4) (C := RX1) (T := TX1) (N := 7) hx hb hts hiX1 hown hK hP 0 rfl rfl 0 (by decide) hf22 (fun _ h9 => h9) rfl dX1_settle_13 ?_
  refine va_getN (D := D) (ci := 4) (v := .ref a3) (C := RX4) (T := TX4) (N := 6) hx hb hts hiX4 hown hK hP 1 rfl rfl 2 (by decide) hf92 (fun _ h9 => h9) rfl dX1_settle_16 ?_
  refine lv_astore (lv' := [(7, .ref a3), (6, .ref p6), (5, .ref p5), (0, .ref h0), (1, .int (nI sx)), (2, .long le), (4, .int (nI op))]) hx hb dX1_settle_19 hl (by decide) rfl (fun ls hl => ?_)
  refine lv_ldc2 (v := lN 9223372036854775807) hx hb hown (hts (.constantLong RX1 131 (lN 9223372036854775807)) (by decide +kernel)) dX1_settle_21 ?_
  refine lv_lstore (lv' := [(8, .long (lN 9223372036854775807)), (7, .ref a3), (6, .ref p6), (5, .ref p5), (0, .ref h0), (1, .int (nI sx)), (2, .long le), (4, .int (nI op))]) hx hb dX1_settle_24 hl (by decide) rfl (fun ls hl => ?_)
  refine lv_ldc (v := 2147483647) hx hb hown (hts (.constant RX1 135 (2147483647)) (by decide +kernel)) dX1_settle_26 ?_
  refine lv_istore (lv' := [(10, .int 2147483647), (8, .long (lN 9223372036854775807)), (7, .ref a3), (6, .ref p6), (5, .ref p5), (0, .ref h0), (1, .int (nI sx)), (2, .long le), (4, .int (nI op))]) hx hb dX1_settle_28 hl (by decide) rfl (fun ls hl => ?_)
  refine lv_iconst (v := nI 0) hx hb dX1_settle_30 (by decide) ?_
  refine lv_istore (lv' := [(11, .int (nI 0)), (10, .int 2147483647), (8, .long (lN 9223372036854775807)), (7, .ref a3), (6, .ref p6), (5, .ref p5), (0, .ref h0), (1, .int (nI sx)), (2, .long le), (4, .int (nI op))]) hx hb dX1_settle_31 hl (by decide) rfl (fun ls hl => ?_)
  have loop1 : ∀ (fu : Nat) (k : Nat) (v8 : Int64) (v10 : Int32) (H : Heap) (locs : List Loc) (ls : Array Slot), (k ≤ op ∧ op < k + fu) → (MK (fun i => (mE fp eb le sx (gx i)).toInt) 9223372036854775807 k v8.toInt) → (MK (fun i => (mW fp ew sx (gx i)).toInt) 2147483647 k v10.toInt) → va_P D vwCl [(h0, .inr (1, [.ref h4, .ref s2, .ref s3, .ref p4, .ref p5, .ref p6, .int fr])), (h4, .inr (4, [.ref a1, .ref a2, .ref a3, .int (nI n), .int sn, .int sg])), (a3, .inl (cI, 9, .inl fp)), (p4, .inl (cI, 9, .inl fq)), (p5, .inl (cJ, len, .inr (.inl eb))), (p6, .inl (cI, len, .inl ew))] H → va_D (aA as) [(h0, .inr (1, [.ref h4, .ref s2, .ref s3, .ref p4, .ref p5, .ref p6, .int fr])), (h4, .inr (4, [.ref a1, .ref a2, .ref a3, .int (nI n), .int sn, .int sg])), (a3, .inl (cI, 9, .inl fp)), (p4, .inl (cI, 9, .inl fq)), (p5, .inl (cJ, len, .inr (.inl eb))), (p6, .inl (cI, len, .inl ew))] → va_S (aA as) s.heap H locs → lv_has ls 18 [(11, .int (nI k)), (10, .int v10), (8, .long v8), (7, .ref a3), (6, .ref p6), (5, .ref p5), (0, .ref h0), (1, .int (nI sx)), (2, .long le), (4, .int (nI op))] → W p l e (headSpec wsX1_settle rm_c_X1_settle_v).room s m ([.ref h0, .int (nI sx), .long le, .int (nI op)] : List Value).toArray below meth c H locs 0 0 Q (F0 m 33 ls []) := by
    intro fu
    induction fu with
    | zero => intro k v8 v10 H locs ls hk hm8 hm10; exact absurd hk (by omega)
    | succ fu ih1 =>
      intro k v8 v10 H locs ls hk hm8 hm10 hP hD hS hl
      refine lv_iload hx hb dX1_settle_33 (lv_at hl 0 rfl) ?_
      refine lv_iload hx hb dX1_settle_35 (lv_at hl 9 rfl) ?_
      refine lv_icmp_ge (tgt := 165) hx hb dX1_settle_37 (by decide) (fun c2 => ?_) (fun c2 => ?_)
      · skip
        have d2 := c2
        rw [nI_leI (by omega) (by omega)] at d2
        refine lv_aload hx hb dX1_settle_165 (lv_at hl 5 rfl) ?_
        refine lv_iload_n hx hb dX1_settle_167 rfl (lv_at hl 7 rfl) ?_
        refine lv_lload hx hb dX1_settle_168 (lv_at hl 2 rfl) ?_
        refine va_last hx hb hK hP hD hS 4 1 rfl rfl (i := nI sx) (vp_in_nI (by omega) (by omega)) dX1_settle_170 (fun H locs hP hD hS => ?_)
        have hP : va_P D vwCl [(h0, .inr (1, [.ref h4, .ref s2, .ref s3, .ref p4, .ref p5, .ref p6, .int fr])), (h4, .inr (4, [.ref a1, .ref a2, .ref a3, .int (nI n), .int sn, .int sg])), (a3, .inl (cI, 9, .inl fp)), (p4, .inl (cI, 9, .inl fq)), (p5, .inl (cJ, len, .inr (.inl (vp_updL eb (nI sx).toNatClampNeg v8)))), (p6, .inl (cI, len, .inl ew))] H := hP
        have hD : va_D (aA as) [(h0, .inr (1, [.ref h4, .ref s2, .ref s3, .ref p4, .ref p5, .ref p6, .int fr])), (h4, .inr (4, [.ref a1, .ref a2, .ref a3, .int (nI n), .int sn, .int sg])), (a3, .inl (cI, 9, .inl fp)), (p4, .inl (cI, 9, .inl fq)), (p5, .inl (cJ, len, .inr (.inl (vp_updL eb (nI sx).toNatClampNeg v8)))), (p6, .inl (cI, len, .inl ew))] := hD
        rw [nI_clamp (n := sx) (by omega)] at hP hD
        refine lv_aload hx hb dX1_settle_171 (lv_at hl 4 rfl) ?_
        refine lv_iload_n hx hb dX1_settle_173 rfl (lv_at hl 7 rfl) ?_
        refine lv_iload hx hb dX1_settle_174 (lv_at hl 1 rfl) ?_
        refine va_iast hx hb hK hP hD hS 5 0 rfl rfl (i := nI sx) (vp_in_nI (by omega) (by omega)) dX1_settle_176 (fun H locs hP hD hS => ?_)
        have hP : va_P D vwCl [(h0, .inr (1, [.ref h4, .ref s2, .ref s3, .ref p4, .ref p5, .ref p6, .int fr])), (h4, .inr (4, [.ref a1, .ref a2, .ref a3, .int (nI n), .int sn, .int sg])), (a3, .inl (cI, 9, .inl fp)), (p4, .inl (cI, 9, .inl fq)), (p5, .inl (cJ, len, .inr (.inl (vp_updL eb sx v8)))), (p6, .inl (cI, len, .inl (upd ew (nI sx).toNatClampNeg v10)))] H := hP
        have hD : va_D (aA as) [(h0, .inr (1, [.ref h4, .ref s2, .ref s3, .ref p4, .ref p5, .ref p6, .int fr])), (h4, .inr (4, [.ref a1, .ref a2, .ref a3, .int (nI n), .int sn, .int sg])), (a3, .inl (cI, 9, .inl fp)), (p4, .inl (cI, 9, .inl fq)), (p5, .inl (cJ, len, .inr (.inl (vp_updL eb sx v8)))), (p6, .inl (cI, len, .inl (upd ew (nI sx).toNatClampNeg v10)))] := hD
        rw [nI_clamp (n := sx) (by omega)] at hP hD
        rw [← hQ]
        exact W.vret hx hb hr (fun tS htS hWS => ⟨⟨(vp_updL eb sx v8, upd ew sx v10), rfl, ⟨v8, v10, rfl, rfl, by rw [show op = k by omega]; exact hm8, by rw [show op = k by omega]; exact hm10⟩, m_at htS hP⟩, by rw [← has]; exact hS.F htS⟩) (by rw [← has]; exact hS.2.2) dX1_settle_177
      · skip
        have d2 := c2
        rw [nI_leI (by omega) (by omega)] at d2
        refine lv_aload_n hx hb dX1_settle_40 rfl (lv_at hl 6 rfl) ?_
        refine va_get (D := D) (ci := 1) (v := .ref p4) (C := RX1) (T := TX1) (N := 7) hx hb hts hiX1 hown hK hP 0 rfl rfl 3 (by decide) hf9 (fun _ h9 => h9) rfl dX1_settle_41 ?_
        refine lv_iload hx hb dX1_settle_44 (lv_at hl 0 rfl) ?_
        obtain ⟨hx9, ex9, hs9⟩ := hfq k (by omega)
        refine va_iald hx hb hK hP 3 0 rfl rfl (i := nI k) (vp_in_nI (by omega) (by omega)) dX1_settle_46 ?_
        refine cn_i (y := nI (gx k)) ((congrArg fq (nI_clamp (by omega))).trans ex9) ?_
        refine lv_istore (lv' := [(12, .int (nI (gx k))), (11, .int (nI k)), (10, .int v10), (8, .long v8), (7, .ref a3), (6, .ref p6), (5, .ref p5), (0, .ref h0), (1, .int (nI sx)), (2, .long le), (4, .int (nI op))]) hx hb dX1_settle_47 hl (by decide) rfl (fun ls hl => ?_)
        refine lv_iload_n hx hb dX1_settle_49 rfl (lv_at hl 8 rfl) ?_
        refine va_gets hx hb hZ3 hS hown hfs (fun _ h9 => h9) dX1_settle_50 ?_
        refine lv_iload hx hb dX1_settle_53 (lv_at hl 0 rfl) ?_
        refine va_ti hx hb hT3 hS (i := nI (gx k)) (vp_in_nI (by omega) (by omega)) (v := .int (nI (3 ^ (gx k)))) (congrArg (fun j => Value.int (nI (3 ^ j))) (nI_clamp (n := (gx k)) (by omega))) dX1_settle_55 ?_
        refine lv_iadd hx hb dX1_settle_56 ?_
        refine cn_i (y := nI (sx + (3 ^ (gx k)))) (nI_add sx (3 ^ (gx k))) ?_
        refine lv_istore (lv' := [(13, .int (nI (sx + (3 ^ (gx k))))), (12, .int (nI (gx k))), (11, .int (nI k)), (10, .int v10), (8, .long v8), (7, .ref a3), (6, .ref p6), (5, .ref p5), (0, .ref h0), (1, .int (nI sx)), (2, .long le), (4, .int (nI op))]) hx hb dX1_settle_57 hl (by decide) rfl (fun ls hl => ?_)
        refine lv_iload hx hb dX1_settle_59 (lv_at hl 0 rfl) ?_
        refine va_gets hx hb hZ3 hS hown hfs (fun _ h9 => h9) dX1_settle_61 ?_
        refine lv_iload hx hb dX1_settle_64 (lv_at hl 1 rfl) ?_
        refine va_ti hx hb hT3 hS (i := nI (gx k)) (vp_in_nI (by omega) (by omega)) (v := .int (nI (3 ^ (gx k)))) (congrArg (fun j => Value.int (nI (3 ^ j))) (nI_clamp (n := (gx k)) (by omega))) dX1_settle_66 ?_
        refine lv_iadd hx hb dX1_settle_67 ?_
        refine cn_i (y := nI ((sx + (3 ^ (gx k))) + (3 ^ (gx k)))) (nI_add (sx + (3 ^ (gx k))) (3 ^ (gx k))) ?_
        refine lv_istore (lv' := [(14, .int (nI ((sx + (3 ^ (gx k))) + (3 ^ (gx k))))), (13, .int (nI (sx + (3 ^ (gx k))))), (12, .int (nI (gx k))), (11, .int (nI k)), (10, .int v10), (8, .long v8), (7, .ref a3), (6, .ref p6), (5, .ref p5), (0, .ref h0), (1, .int (nI sx)), (2, .long le), (4, .int (nI op))]) hx hb dX1_settle_68 hl (by decide) rfl (fun ls hl => ?_)
        refine lv_aload hx hb dX1_settle_70 (lv_at hl 6 rfl) ?_
        refine lv_iload hx hb dX1_settle_72 (lv_at hl 2 rfl) ?_
        refine va_iald hx hb hK hP 2 0 rfl rfl (i := nI (gx k)) (vp_in_nI (by omega) (by omega)) dX1_settle_74 ?_
        refine cn_i (y := fp (gx k)) (congrArg fp (nI_clamp (by omega))) ?_
        refine lv_i2l hx hb dX1_settle_75 rfl ?_
        refine lv_lload_n hx hb dX1_settle_76 rfl (lv_at hl 11 rfl) ?_
        refine lv_lmul hx hb dX1_settle_77 ?_
        refine lv_aload hx hb dX1_settle_78 (lv_at hl 8 rfl) ?_
        refine lv_iload hx hb dX1_settle_80 (lv_at hl 1 rfl) ?_
        refine va_lald hx hb hK hP 4 1 rfl rfl (i := nI (sx + (3 ^ (gx k)))) (vp_in_nI (by omega) (by omega)) dX1_settle_82 ?_
        refine cn_l (y := eb (sx + (3 ^ (gx k)))) (congrArg eb (nI_clamp (by omega))) ?_
        refine lv_ladd hx hb dX1_settle_83 ?_
        refine lv_aload hx hb dX1_settle_84 (lv_at hl 8 rfl) ?_
        refine lv_iload hx hb dX1_settle_86 (lv_at hl 0 rfl) ?_
        refine va_lald hx hb hK hP 4 1 rfl rfl (i := nI ((sx + (3 ^ (gx k))) + (3 ^ (gx k)))) (vp_in_nI (by omega) (by omega)) dX1_settle_88 ?_
        refine cn_l (y := eb ((sx + (3 ^ (gx k))) + (3 ^ (gx k)))) (congrArg eb (nI_clamp (by omega))) ?_
        refine lv_ladd hx hb dX1_settle_89 ?_
        refine lv_lstore (lv' := [(15, .long (((((fp (gx k)).toInt64) * le) + (eb (sx + (3 ^ (gx k))))) + (eb ((sx + (3 ^ (gx k))) + (3 ^ (gx k)))))), (14, .int (nI ((sx + (3 ^ (gx k))) + (3 ^ (gx k))))), (13, .int (nI (sx + (3 ^ (gx k))))), (12, .int (nI (gx k))), (11, .int (nI k)), (10, .int v10), (8, .long v8), (7, .ref a3), (6, .ref p6), (5, .ref p5), (0, .ref h0), (1, .int (nI sx)), (2, .long le), (4, .int (nI op))]) hx hb dX1_settle_90 hl (by decide) rfl (fun ls hl => ?_)
        refine lv_aload hx hb dX1_settle_92 (lv_at hl 7 rfl) ?_
        refine lv_iload hx hb dX1_settle_94 (lv_at hl 3 rfl) ?_
        refine va_iald hx hb hK hP 2 0 rfl rfl (i := nI (gx k)) (vp_in_nI (by omega) (by omega)) dX1_settle_96 ?_
        refine cn_i (y := fp (gx k)) (congrArg fp (nI_clamp (by omega))) ?_
        refine lv_aload hx hb dX1_settle_97 (lv_at hl 8 rfl) ?_
        refine lv_iload hx hb dX1_settle_99 (lv_at hl 2 rfl) ?_
        refine va_iald hx hb hK hP 5 0 rfl rfl (i := nI (sx + (3 ^ (gx k)))) (vp_in_nI (by omega) (by omega)) dX1_settle_101 ?_
        refine cn_i (y := ew (sx + (3 ^ (gx k)))) (congrArg ew (nI_clamp (by omega))) ?_
        refine lv_aload hx hb dX1_settle_102 (lv_at hl 8 rfl) ?_
        refine lv_iload hx hb dX1_settle_104 (lv_at hl 1 rfl) ?_
        refine va_iald hx hb hK hP 5 0 rfl rfl (i := nI ((sx + (3 ^ (gx k))) + (3 ^ (gx k)))) (vp_in_nI (by omega) (by omega)) dX1_settle_106 ?_
        refine cn_i (y := ew ((sx + (3 ^ (gx k))) + (3 ^ (gx k)))) (congrArg ew (nI_clamp (by omega))) ?_
        refine lv_icmp_le (tgt := 118) hx hb dX1_settle_107 (by decide) (fun c3 => ?_) (fun c3 => ?_)
        · skip
          have hmx := mxw_r c3
          refine lv_aload hx hb dX1_settle_118 (lv_at hl 8 rfl) ?_
          refine lv_iload hx hb dX1_settle_120 (lv_at hl 1 rfl) ?_
          refine va_iald hx hb hK hP 5 0 rfl rfl (i := nI ((sx + (3 ^ (gx k))) + (3 ^ (gx k)))) (vp_in_nI (by omega) (by omega)) dX1_settle_122 ?_
          refine cn_i (y := ew ((sx + (3 ^ (gx k))) + (3 ^ (gx k)))) (congrArg ew (nI_clamp (by omega))) ?_
          refine lv_iadd hx hb dX1_settle_123 ?_
          refine lv_istore (lv' := [(17, .int ((fp (gx k)) + (ew ((sx + (3 ^ (gx k))) + (3 ^ (gx k)))))), (15, .long (((((fp (gx k)).toInt64) * le) + (eb (sx + (3 ^ (gx k))))) + (eb ((sx + (3 ^ (gx k))) + (3 ^ (gx k)))))), (14, .int (nI ((sx + (3 ^ (gx k))) + (3 ^ (gx k))))), (13, .int (nI (sx + (3 ^ (gx k))))), (12, .int (nI (gx k))), (11, .int (nI k)), (10, .int v10), (8, .long v8), (7, .ref a3), (6, .ref p6), (5, .ref p5), (0, .ref h0), (1, .int (nI sx)), (2, .long le), (4, .int (nI op))]) hx hb dX1_settle_124 hl (by decide) rfl (fun ls hl => ?_)
          refine lv_lload hx hb dX1_settle_126 (lv_at hl 1 rfl) ?_
          refine lv_lload hx hb dX1_settle_128 (lv_at hl 7 rfl) ?_
          refine W.lcmp hx hb dX1_settle_130 ?_
          refine lv_if_ge (tgt := 139) hx hb dX1_settle_131 (by decide) (fun c4 => ?_) (fun c4 => ?_)
          · skip
            have d4 := c4
            rw [lc_ge, j_le] at d4
            have h8t := d4
            refine lv_lload hx hb dX1_settle_139 (lv_at hl 7 rfl) ?_
            refine lv_lstore (lv' := [(8, .long v8), (17, .int ((fp (gx k)) + (ew ((sx + (3 ^ (gx k))) + (3 ^ (gx k)))))), (15, .long (((((fp (gx k)).toInt64) * le) + (eb (sx + (3 ^ (gx k))))) + (eb ((sx + (3 ^ (gx k))) + (3 ^ (gx k)))))), (14, .int (nI ((sx + (3 ^ (gx k))) + (3 ^ (gx k))))), (13, .int (nI (sx + (3 ^ (gx k))))), (12, .int (nI (gx k))), (11, .int (nI k)), (10, .int v10), (7, .ref a3), (6, .ref p6), (5, .ref p5), (0, .ref h0), (1, .int (nI sx)), (2, .long le), (4, .int (nI op))]) hx hb dX1_settle_141 hl (by decide) rfl (fun ls hl => ?_)
            refine lv_iload hx hb dX1_settle_143 (lv_at hl 1 rfl) ?_
            refine lv_iload hx hb dX1_settle_145 (lv_at hl 7 rfl) ?_
            refine lv_icmp_ge (tgt := 155) hx hb dX1_settle_147 (by decide) (fun c5 => ?_) (fun c5 => ?_)
            · skip
              have d5 := c5
              rw [i_le] at d5
              have h10t := d5
              refine lv_iload hx hb dX1_settle_155 (lv_at hl 7 rfl) ?_
              refine lv_istore (lv' := [(10, .int v10), (8, .long v8), (17, .int ((fp (gx k)) + (ew ((sx + (3 ^ (gx k))) + (3 ^ (gx k)))))), (15, .long (((((fp (gx k)).toInt64) * le) + (eb (sx + (3 ^ (gx k))))) + (eb ((sx + (3 ^ (gx k))) + (3 ^ (gx k)))))), (14, .int (nI ((sx + (3 ^ (gx k))) + (3 ^ (gx k))))), (13, .int (nI (sx + (3 ^ (gx k))))), (12, .int (nI (gx k))), (11, .int (nI k)), (7, .ref a3), (6, .ref p6), (5, .ref p5), (0, .ref h0), (1, .int (nI sx)), (2, .long le), (4, .int (nI op))]) hx hb dX1_settle_157 hl (by decide) rfl (fun ls hl => ?_)
              refine lv_iinc (v := nI (k + 1)) (lv' := [(11, .int (nI (k + 1))), (10, .int v10), (8, .long v8), (17, .int ((fp (gx k)) + (ew ((sx + (3 ^ (gx k))) + (3 ^ (gx k)))))), (15, .long (((((fp (gx k)).toInt64) * le) + (eb (sx + (3 ^ (gx k))))) + (eb ((sx + (3 ^ (gx k))) + (3 ^ (gx k)))))), (14, .int (nI ((sx + (3 ^ (gx k))) + (3 ^ (gx k))))), (13, .int (nI (sx + (3 ^ (gx k))))), (12, .int (nI (gx k))), (7, .ref a3), (6, .ref p6), (5, .ref p5), (0, .ref h0), (1, .int (nI sx)), (2, .long le), (4, .int (nI op))]) hx hb dX1_settle_159 hl (k := 7) rfl (nI_1 k) (by decide) rfl (fun ls hl => ?_)
              refine lv_goto (tgt := 33) hx hb dX1_settle_162 (by decide) ?_
              exact ih1 (k + 1) v8 v10 _ _ _ (by omega) (by first | exact hm8.leave h8t | exact hm8.take h8f) (by first | exact hm10.leaveE (congrArg (fun q => (fp (gx k) + q).toInt) hmx) h10t | exact hm10.takeE (congrArg (fun q => (fp (gx k) + q).toInt) hmx) h10f) hP hD hS (lv_sub hl [0, 1, 2, 8, 9, 10, 11, 12, 13, 14] rfl)
            · skip
              have d5 := c5
              rw [i_le] at d5
              have h10f := d5
              refine lv_iload hx hb dX1_settle_150 (lv_at hl 1 rfl) ?_
              refine lv_goto (tgt := 157) hx hb dX1_settle_152 (by decide) ?_
              refine lv_istore (lv' := [(10, .int ((fp (gx k)) + (ew ((sx + (3 ^ (gx k))) + (3 ^ (gx k)))))), (8, .long v8), (17, .int ((fp (gx k)) + (ew ((sx + (3 ^ (gx k))) + (3 ^ (gx k)))))), (15, .long (((((fp (gx k)).toInt64) * le) + (eb (sx + (3 ^ (gx k))))) + (eb ((sx + (3 ^ (gx k))) + (3 ^ (gx k)))))), (14, .int (nI ((sx + (3 ^ (gx k))) + (3 ^ (gx k))))), (13, .int (nI (sx + (3 ^ (gx k))))), (12, .int (nI (gx k))), (11, .int (nI k)), (7, .ref a3), (6, .ref p6), (5, .ref p5), (0, .ref h0), (1, .int (nI sx)), (2, .long le), (4, .int (nI op))]) hx hb dX1_settle_157 hl (by decide) rfl (fun ls hl => ?_)
              refine lv_iinc (v := nI (k + 1)) (lv' := [(11, .int (nI (k + 1))), (10, .int ((fp (gx k)) + (ew ((sx + (3 ^ (gx k))) + (3 ^ (gx k)))))), (8, .long v8), (17, .int ((fp (gx k)) + (ew ((sx + (3 ^ (gx k))) + (3 ^ (gx k)))))), (15, .long (((((fp (gx k)).toInt64) * le) + (eb (sx + (3 ^ (gx k))))) + (eb ((sx + (3 ^ (gx k))) + (3 ^ (gx k)))))), (14, .int (nI ((sx + (3 ^ (gx k))) + (3 ^ (gx k))))), (13, .int (nI (sx + (3 ^ (gx k))))), (12, .int (nI (gx k))), (7, .ref a3), (6, .ref p6), (5, .ref p5), (0, .ref h0), (1, .int (nI sx)), (2, .long le), (4, .int (nI op))]) hx hb dX1_settle_159 hl (k := 7) rfl (nI_1 k) (by decide) rfl (fun ls hl => ?_)
              refine lv_goto (tgt := 33) hx hb dX1_settle_162 (by decide) ?_
              exact ih1 (k + 1) v8 ((fp (gx k)) + (ew ((sx + (3 ^ (gx k))) + (3 ^ (gx k))))) _ _ _ (by omega) (by first | exact hm8.leave h8t | exact hm8.take h8f) (by first | exact hm10.leaveE (congrArg (fun q => (fp (gx k) + q).toInt) hmx) h10t | exact hm10.takeE (congrArg (fun q => (fp (gx k) + q).toInt) hmx) h10f) hP hD hS (lv_sub hl [0, 1, 2, 8, 9, 10, 11, 12, 13, 14] rfl)
          · skip
            have d4 := c4
            rw [lc_ge, j_le] at d4
            have h8f := d4
            refine lv_lload hx hb dX1_settle_134 (lv_at hl 1 rfl) ?_
            refine lv_goto (tgt := 141) hx hb dX1_settle_136 (by decide) ?_
            refine lv_lstore (lv' := [(8, .long (((((fp (gx k)).toInt64) * le) + (eb (sx + (3 ^ (gx k))))) + (eb ((sx + (3 ^ (gx k))) + (3 ^ (gx k)))))), (17, .int ((fp (gx k)) + (ew ((sx + (3 ^ (gx k))) + (3 ^ (gx k)))))), (15, .long (((((fp (gx k)).toInt64) * le) + (eb (sx + (3 ^ (gx k))))) + (eb ((sx + (3 ^ (gx k))) + (3 ^ (gx k)))))), (14, .int (nI ((sx + (3 ^ (gx k))) + (3 ^ (gx k))))), (13, .int (nI (sx + (3 ^ (gx k))))), (12, .int (nI (gx k))), (11, .int (nI k)), (10, .int v10), (7, .ref a3), (6, .ref p6), (5, .ref p5), (0, .ref h0), (1, .int (nI sx)), (2, .long le), (4, .int (nI op))]) hx hb dX1_settle_141 hl (by decide) rfl (fun ls hl => ?_)
            refine lv_iload hx hb dX1_settle_143 (lv_at hl 1 rfl) ?_
            refine lv_iload hx hb dX1_settle_145 (lv_at hl 7 rfl) ?_
            refine lv_icmp_ge (tgt := 155) hx hb dX1_settle_147 (by decide) (fun c6 => ?_) (fun c6 => ?_)
            · skip
              have d6 := c6
              rw [i_le] at d6
              have h10t := d6
              refine lv_iload hx hb dX1_settle_155 (lv_at hl 7 rfl) ?_
              refine lv_istore (lv' := [(10, .int v10), (8, .long (((((fp (gx k)).toInt64) * le) + (eb (sx + (3 ^ (gx k))))) + (eb ((sx + (3 ^ (gx k))) + (3 ^ (gx k)))))), (17, .int ((fp (gx k)) + (ew ((sx + (3 ^ (gx k))) + (3 ^ (gx k)))))), (15, .long (((((fp (gx k)).toInt64) * le) + (eb (sx + (3 ^ (gx k))))) + (eb ((sx + (3 ^ (gx k))) + (3 ^ (gx k)))))), (14, .int (nI ((sx + (3 ^ (gx k))) + (3 ^ (gx k))))), (13, .int (nI (sx + (3 ^ (gx k))))), (12, .int (nI (gx k))), (11, .int (nI k)), (7, .ref a3), (6, .ref p6), (5, .ref p5), (0, .ref h0), (1, .int (nI sx)), (2, .long le), (4, .int (nI op))]) hx hb dX1_settle_157 hl (by decide) rfl (fun ls hl => ?_)
              refine lv_iinc (v := nI (k + 1)) (lv' := [(11, .int (nI (k + 1))), (10, .int v10), (8, .long (((((fp (gx k)).toInt64) * le) + (eb (sx + (3 ^ (gx k))))) + (eb ((sx + (3 ^ (gx k))) + (3 ^ (gx k)))))), (17, .int ((fp (gx k)) + (ew ((sx + (3 ^ (gx k))) + (3 ^ (gx k)))))), (15, .long (((((fp (gx k)).toInt64) * le) + (eb (sx + (3 ^ (gx k))))) + (eb ((sx + (3 ^ (gx k))) + (3 ^ (gx k)))))), (14, .int (nI ((sx + (3 ^ (gx k))) + (3 ^ (gx k))))), (13, .int (nI (sx + (3 ^ (gx k))))), (12, .int (nI (gx k))), (7, .ref a3), (6, .ref p6), (5, .ref p5), (0, .ref h0), (1, .int (nI sx)), (2, .long le), (4, .int (nI op))]) hx hb dX1_settle_159 hl (k := 7) rfl (nI_1 k) (by decide) rfl (fun ls hl => ?_)
              refine lv_goto (tgt := 33) hx hb dX1_settle_162 (by decide) ?_
              exact ih1 (k + 1) (((((fp (gx k)).toInt64) * le) + (eb (sx + (3 ^ (gx k))))) + (eb ((sx + (3 ^ (gx k))) + (3 ^ (gx k))))) v10 _ _ _ (by omega) (by first | exact hm8.leave h8t | exact hm8.take h8f) (by first | exact hm10.leaveE (congrArg (fun q => (fp (gx k) + q).toInt) hmx) h10t | exact hm10.takeE (congrArg (fun q => (fp (gx k) + q).toInt) hmx) h10f) hP hD hS (lv_sub hl [0, 1, 2, 8, 9, 10, 11, 12, 13, 14] rfl)
            · skip
              have d6 := c6
              rw [i_le] at d6
              have h10f := d6
              refine lv_iload hx hb dX1_settle_150 (lv_at hl 1 rfl) ?_
              refine lv_goto (tgt := 157) hx hb dX1_settle_152 (by decide) ?_
              refine lv_istore (lv' := [(10, .int ((fp (gx k)) + (ew ((sx + (3 ^ (gx k))) + (3 ^ (gx k)))))), (8, .long (((((fp (gx k)).toInt64) * le) + (eb (sx + (3 ^ (gx k))))) + (eb ((sx + (3 ^ (gx k))) + (3 ^ (gx k)))))), (17, .int ((fp (gx k)) + (ew ((sx + (3 ^ (gx k))) + (3 ^ (gx k)))))), (15, .long (((((fp (gx k)).toInt64) * le) + (eb (sx + (3 ^ (gx k))))) + (eb ((sx + (3 ^ (gx k))) + (3 ^ (gx k)))))), (14, .int (nI ((sx + (3 ^ (gx k))) + (3 ^ (gx k))))), (13, .int (nI (sx + (3 ^ (gx k))))), (12, .int (nI (gx k))), (11, .int (nI k)), (7, .ref a3), (6, .ref p6), (5, .ref p5), (0, .ref h0), (1, .int (nI sx)), (2, .long le), (4, .int (nI op))]) hx hb dX1_settle_157 hl (by decide) rfl (fun ls hl => ?_)
              refine lv_iinc (v := nI (k + 1)) (lv' := [(11, .int (nI (k + 1))), (10, .int ((fp (gx k)) + (ew ((sx + (3 ^ (gx k))) + (3 ^ (gx k)))))), (8, .long (((((fp (gx k)).toInt64) * le) + (eb (sx + (3 ^ (gx k))))) + (eb ((sx + (3 ^ (gx k))) + (3 ^ (gx k)))))), (17, .int ((fp (gx k)) + (ew ((sx + (3 ^ (gx k))) + (3 ^ (gx k)))))), (15, .long (((((fp (gx k)).toInt64) * le) + (eb (sx + (3 ^ (gx k))))) + (eb ((sx + (3 ^ (gx k))) + (3 ^ (gx k)))))), (14, .int (nI ((sx + (3 ^ (gx k))) + (3 ^ (gx k))))), (13, .int (nI (sx + (3 ^ (gx k))))), (12, .int (nI (gx k))), (7, .ref a3), (6, .ref p6), (5, .ref p5), (0, .ref h0), (1, .int (nI sx)), (2, .long le), (4, .int (nI op))]) hx hb dX1_settle_159 hl (k := 7) rfl (nI_1 k) (by decide) rfl (fun ls hl => ?_)
              refine lv_goto (tgt := 33) hx hb dX1_settle_162 (by decide) ?_
              exact ih1 (k + 1) (((((fp (gx k)).toInt64) * le) + (eb (sx + (3 ^ (gx k))))) + (eb ((sx + (3 ^ (gx k))) + (3 ^ (gx k))))) ((fp (gx k)) + (ew ((sx + (3 ^ (gx k))) + (3 ^ (gx k))))) _ _ _ (by omega) (by first | exact hm8.leave h8t | exact hm8.take h8f) (by first | exact hm10.leaveE (congrArg (fun q => (fp (gx k) + q).toInt) hmx) h10t | exact hm10.takeE (congrArg (fun q => (fp (gx k) + q).toInt) hmx) h10f) hP hD hS (lv_sub hl [0, 1, 2, 8, 9, 10, 11, 12, 13, 14] rfl)
        · skip
          have hmx := mxw_l c3
          refine lv_aload hx hb dX1_settle_110 (lv_at hl 8 rfl) ?_
          refine lv_iload hx hb dX1_settle_112 (lv_at hl 2 rfl) ?_
          refine va_iald hx hb hK hP 5 0 rfl rfl (i := nI (sx + (3 ^ (gx k)))) (vp_in_nI (by omega) (by omega)) dX1_settle_114 ?_
          refine cn_i (y := ew (sx + (3 ^ (gx k)))) (congrArg ew (nI_clamp (by omega))) ?_
          refine lv_goto (tgt := 123) hx hb dX1_settle_115 (by decide) ?_
          refine lv_iadd hx hb dX1_settle_123 ?_
          refine lv_istore (lv' := [(17, .int ((fp (gx k)) + (ew (sx + (3 ^ (gx k)))))), (15, .long (((((fp (gx k)).toInt64) * le) + (eb (sx + (3 ^ (gx k))))) + (eb ((sx + (3 ^ (gx k))) + (3 ^ (gx k)))))), (14, .int (nI ((sx + (3 ^ (gx k))) + (3 ^ (gx k))))), (13, .int (nI (sx + (3 ^ (gx k))))), (12, .int (nI (gx k))), (11, .int (nI k)), (10, .int v10), (8, .long v8), (7, .ref a3), (6, .ref p6), (5, .ref p5), (0, .ref h0), (1, .int (nI sx)), (2, .long le), (4, .int (nI op))]) hx hb dX1_settle_124 hl (by decide) rfl (fun ls hl => ?_)
          refine lv_lload hx hb dX1_settle_126 (lv_at hl 1 rfl) ?_
          refine lv_lload hx hb dX1_settle_128 (lv_at hl 7 rfl) ?_
          refine W.lcmp hx hb dX1_settle_130 ?_
          refine lv_if_ge (tgt := 139) hx hb dX1_settle_131 (by decide) (fun c7 => ?_) (fun c7 => ?_)
          · skip
            have d7 := c7
            rw [lc_ge, j_le] at d7
            have h8t := d7
            refine lv_lload hx hb dX1_settle_139 (lv_at hl 7 rfl) ?_
            refine lv_lstore (lv' := [(8, .long v8), (17, .int ((fp (gx k)) + (ew (sx + (3 ^ (gx k)))))), (15, .long (((((fp (gx k)).toInt64) * le) + (eb (sx + (3 ^ (gx k))))) + (eb ((sx + (3 ^ (gx k))) + (3 ^ (gx k)))))), (14, .int (nI ((sx + (3 ^ (gx k))) + (3 ^ (gx k))))), (13, .int (nI (sx + (3 ^ (gx k))))), (12, .int (nI (gx k))), (11, .int (nI k)), (10, .int v10), (7, .ref a3), (6, .ref p6), (5, .ref p5), (0, .ref h0), (1, .int (nI sx)), (2, .long le), (4, .int (nI op))]) hx hb dX1_settle_141 hl (by decide) rfl (fun ls hl => ?_)
            refine lv_iload hx hb dX1_settle_143 (lv_at hl 1 rfl) ?_
            refine lv_iload hx hb dX1_settle_145 (lv_at hl 7 rfl) ?_
            refine lv_icmp_ge (tgt := 155) hx hb dX1_settle_147 (by decide) (fun c8 => ?_) (fun c8 => ?_)
            · skip
              have d8 := c8
              rw [i_le] at d8
              have h10t := d8
              refine lv_iload hx hb dX1_settle_155 (lv_at hl 7 rfl) ?_
              refine lv_istore (lv' := [(10, .int v10), (8, .long v8), (17, .int ((fp (gx k)) + (ew (sx + (3 ^ (gx k)))))), (15, .long (((((fp (gx k)).toInt64) * le) + (eb (sx + (3 ^ (gx k))))) + (eb ((sx + (3 ^ (gx k))) + (3 ^ (gx k)))))), (14, .int (nI ((sx + (3 ^ (gx k))) + (3 ^ (gx k))))), (13, .int (nI (sx + (3 ^ (gx k))))), (12, .int (nI (gx k))), (11, .int (nI k)), (7, .ref a3), (6, .ref p6), (5, .ref p5), (0, .ref h0), (1, .int (nI sx)), (2, .long le), (4, .int (nI op))]) hx hb dX1_settle_157 hl (by decide) rfl (fun ls hl => ?_)
              refine lv_iinc (v := nI (k + 1)) (lv' := [(11, .int (nI (k + 1))), (10, .int v10), (8, .long v8), (17, .int ((fp (gx k)) + (ew (sx + (3 ^ (gx k)))))), (15, .long (((((fp (gx k)).toInt64) * le) + (eb (sx + (3 ^ (gx k))))) + (eb ((sx + (3 ^ (gx k))) + (3 ^ (gx k)))))), (14, .int (nI ((sx + (3 ^ (gx k))) + (3 ^ (gx k))))), (13, .int (nI (sx + (3 ^ (gx k))))), (12, .int (nI (gx k))), (7, .ref a3), (6, .ref p6), (5, .ref p5), (0, .ref h0), (1, .int (nI sx)), (2, .long le), (4, .int (nI op))]) hx hb dX1_settle_159 hl (k := 7) rfl (nI_1 k) (by decide) rfl (fun ls hl => ?_)
              refine lv_goto (tgt := 33) hx hb dX1_settle_162 (by decide) ?_
              exact ih1 (k + 1) v8 v10 _ _ _ (by omega) (by first | exact hm8.leave h8t | exact hm8.take h8f) (by first | exact hm10.leaveE (congrArg (fun q => (fp (gx k) + q).toInt) hmx) h10t | exact hm10.takeE (congrArg (fun q => (fp (gx k) + q).toInt) hmx) h10f) hP hD hS (lv_sub hl [0, 1, 2, 8, 9, 10, 11, 12, 13, 14] rfl)
            · skip
              have d8 := c8
              rw [i_le] at d8
              have h10f := d8
              refine lv_iload hx hb dX1_settle_150 (lv_at hl 1 rfl) ?_
              refine lv_goto (tgt := 157) hx hb dX1_settle_152 (by decide) ?_
              refine lv_istore (lv' := [(10, .int ((fp (gx k)) + (ew (sx + (3 ^ (gx k)))))), (8, .long v8), (17, .int ((fp (gx k)) + (ew (sx + (3 ^ (gx k)))))), (15, .long (((((fp (gx k)).toInt64) * le) + (eb (sx + (3 ^ (gx k))))) + (eb ((sx + (3 ^ (gx k))) + (3 ^ (gx k)))))), (14, .int (nI ((sx + (3 ^ (gx k))) + (3 ^ (gx k))))), (13, .int (nI (sx + (3 ^ (gx k))))), (12, .int (nI (gx k))), (11, .int (nI k)), (7, .ref a3), (6, .ref p6), (5, .ref p5), (0, .ref h0), (1, .int (nI sx)), (2, .long le), (4, .int (nI op))]) hx hb dX1_settle_157 hl (by decide) rfl (fun ls hl => ?_)
              refine lv_iinc (v := nI (k + 1)) (lv' := [(11, .int (nI (k + 1))), (10, .int ((fp (gx k)) + (ew (sx + (3 ^ (gx k)))))), (8, .long v8), (17, .int ((fp (gx k)) + (ew (sx + (3 ^ (gx k)))))), (15, .long (((((fp (gx k)).toInt64) * le) + (eb (sx + (3 ^ (gx k))))) + (eb ((sx + (3 ^ (gx k))) + (3 ^ (gx k)))))), (14, .int (nI ((sx + (3 ^ (gx k))) + (3 ^ (gx k))))), (13, .int (nI (sx + (3 ^ (gx k))))), (12, .int (nI (gx k))), (7, .ref a3), (6, .ref p6), (5, .ref p5), (0, .ref h0), (1, .int (nI sx)), (2, .long le), (4, .int (nI op))]) hx hb dX1_settle_159 hl (k := 7) rfl (nI_1 k) (by decide) rfl (fun ls hl => ?_)
              refine lv_goto (tgt := 33) hx hb dX1_settle_162 (by decide) ?_
              exact ih1 (k + 1) v8 ((fp (gx k)) + (ew (sx + (3 ^ (gx k))))) _ _ _ (by omega) (by first | exact hm8.leave h8t | exact hm8.take h8f) (by first | exact hm10.leaveE (congrArg (fun q => (fp (gx k) + q).toInt) hmx) h10t | exact hm10.takeE (congrArg (fun q => (fp (gx k) + q).toInt) hmx) h10f) hP hD hS (lv_sub hl [0, 1, 2, 8, 9, 10, 11, 12, 13, 14] rfl)
          · skip
            have d7 := c7
            rw [lc_ge, j_le] at d7
            have h8f := d7
            refine lv_lload hx hb dX1_settle_134 (lv_at hl 1 rfl) ?_
            refine lv_goto (tgt := 141) hx hb dX1_settle_136 (by decide) ?_
            refine lv_lstore (lv' := [(8, .long (((((fp (gx k)).toInt64) * le) + (eb (sx + (3 ^ (gx k))))) + (eb ((sx + (3 ^ (gx k))) + (3 ^ (gx k)))))), (17, .int ((fp (gx k)) + (ew (sx + (3 ^ (gx k)))))), (15, .long (((((fp (gx k)).toInt64) * le) + (eb (sx + (3 ^ (gx k))))) + (eb ((sx + (3 ^ (gx k))) + (3 ^ (gx k)))))), (14, .int (nI ((sx + (3 ^ (gx k))) + (3 ^ (gx k))))), (13, .int (nI (sx + (3 ^ (gx k))))), (12, .int (nI (gx k))), (11, .int (nI k)), (10, .int v10), (7, .ref a3), (6, .ref p6), (5, .ref p5), (0, .ref h0), (1, .int (nI sx)), (2, .long le), (4, .int (nI op))]) hx hb dX1_settle_141 hl (by decide) rfl (fun ls hl => ?_)
            refine lv_iload hx hb dX1_settle_143 (lv_at hl 1 rfl) ?_
            refine lv_iload hx hb dX1_settle_145 (lv_at hl 7 rfl) ?_
            refine lv_icmp_ge (tgt := 155) hx hb dX1_settle_147 (by decide) (fun c9 => ?_) (fun c9 => ?_)
            · skip
              have d9 := c9
              rw [i_le] at d9
              have h10t := d9
              refine lv_iload hx hb dX1_settle_155 (lv_at hl 7 rfl) ?_
              refine lv_istore (lv' := [(10, .int v10), (8, .long (((((fp (gx k)).toInt64) * le) + (eb (sx + (3 ^ (gx k))))) + (eb ((sx + (3 ^ (gx k))) + (3 ^ (gx k)))))), (17, .int ((fp (gx k)) + (ew (sx + (3 ^ (gx k)))))), (15, .long (((((fp (gx k)).toInt64) * le) + (eb (sx + (3 ^ (gx k))))) + (eb ((sx + (3 ^ (gx k))) + (3 ^ (gx k)))))), (14, .int (nI ((sx + (3 ^ (gx k))) + (3 ^ (gx k))))), (13, .int (nI (sx + (3 ^ (gx k))))), (12, .int (nI (gx k))), (11, .int (nI k)), (7, .ref a3), (6, .ref p6), (5, .ref p5), (0, .ref h0), (1, .int (nI sx)), (2, .long le), (4, .int (nI op))]) hx hb dX1_settle_157 hl (by decide) rfl (fun ls hl => ?_)
              refine lv_iinc (v := nI (k + 1)) (lv' := [(11, .int (nI (k + 1))), (10, .int v10), (8, .long (((((fp (gx k)).toInt64) * le) + (eb (sx + (3 ^ (gx k))))) + (eb ((sx + (3 ^ (gx k))) + (3 ^ (gx k)))))), (17, .int ((fp (gx k)) + (ew (sx + (3 ^ (gx k)))))), (15, .long (((((fp (gx k)).toInt64) * le) + (eb (sx + (3 ^ (gx k))))) + (eb ((sx + (3 ^ (gx k))) + (3 ^ (gx k)))))), (14, .int (nI ((sx + (3 ^ (gx k))) + (3 ^ (gx k))))), (13, .int (nI (sx + (3 ^ (gx k))))), (12, .int (nI (gx k))), (7, .ref a3), (6, .ref p6), (5, .ref p5), (0, .ref h0), (1, .int (nI sx)), (2, .long le), (4, .int (nI op))]) hx hb dX1_settle_159 hl (k := 7) rfl (nI_1 k) (by decide) rfl (fun ls hl => ?_)
              refine lv_goto (tgt := 33) hx hb dX1_settle_162 (by decide) ?_
              exact ih1 (k + 1) (((((fp (gx k)).toInt64) * le) + (eb (sx + (3 ^ (gx k))))) + (eb ((sx + (3 ^ (gx k))) + (3 ^ (gx k))))) v10 _ _ _ (by omega) (by first | exact hm8.leave h8t | exact hm8.take h8f) (by first | exact hm10.leaveE (congrArg (fun q => (fp (gx k) + q).toInt) hmx) h10t | exact hm10.takeE (congrArg (fun q => (fp (gx k) + q).toInt) hmx) h10f) hP hD hS (lv_sub hl [0, 1, 2, 8, 9, 10, 11, 12, 13, 14] rfl)
            · skip
              have d9 := c9
              rw [i_le] at d9
              have h10f := d9
              refine lv_iload hx hb dX1_settle_150 (lv_at hl 1 rfl) ?_
              refine lv_goto (tgt := 157) hx hb dX1_settle_152 (by decide) ?_
              refine lv_istore (lv' := [(10, .int ((fp (gx k)) + (ew (sx + (3 ^ (gx k)))))), (8, .long (((((fp (gx k)).toInt64) * le) + (eb (sx + (3 ^ (gx k))))) + (eb ((sx + (3 ^ (gx k))) + (3 ^ (gx k)))))), (17, .int ((fp (gx k)) + (ew (sx + (3 ^ (gx k)))))), (15, .long (((((fp (gx k)).toInt64) * le) + (eb (sx + (3 ^ (gx k))))) + (eb ((sx + (3 ^ (gx k))) + (3 ^ (gx k)))))), (14, .int (nI ((sx + (3 ^ (gx k))) + (3 ^ (gx k))))), (13, .int (nI (sx + (3 ^ (gx k))))), (12, .int (nI (gx k))), (11, .int (nI k)), (7, .ref a3), (6, .ref p6), (5, .ref p5), (0, .ref h0), (1, .int (nI sx)), (2, .long le), (4, .int (nI op))]) hx hb dX1_settle_157 hl (by decide) rfl (fun ls hl => ?_)
              refine lv_iinc (v := nI (k + 1)) (lv' := [(11, .int (nI (k + 1))), (10, .int ((fp (gx k)) + (ew (sx + (3 ^ (gx k)))))), (8, .long (((((fp (gx k)).toInt64) * le) + (eb (sx + (3 ^ (gx k))))) + (eb ((sx + (3 ^ (gx k))) + (3 ^ (gx k)))))), (17, .int ((fp (gx k)) + (ew (sx + (3 ^ (gx k)))))), (15, .long (((((fp (gx k)).toInt64) * le) + (eb (sx + (3 ^ (gx k))))) + (eb ((sx + (3 ^ (gx k))) + (3 ^ (gx k)))))), (14, .int (nI ((sx + (3 ^ (gx k))) + (3 ^ (gx k))))), (13, .int (nI (sx + (3 ^ (gx k))))), (12, .int (nI (gx k))), (7, .ref a3), (6, .ref p6), (5, .ref p5), (0, .ref h0), (1, .int (nI sx)), (2, .long le), (4, .int (nI op))]) hx hb dX1_settle_159 hl (k := 7) rfl (nI_1 k) (by decide) rfl (fun ls hl => ?_)
              refine lv_goto (tgt := 33) hx hb dX1_settle_162 (by decide) ?_
              exact ih1 (k + 1) (((((fp (gx k)).toInt64) * le) + (eb (sx + (3 ^ (gx k))))) + (eb ((sx + (3 ^ (gx k))) + (3 ^ (gx k))))) ((fp (gx k)) + (ew (sx + (3 ^ (gx k))))) _ _ _ (by omega) (by first | exact hm8.leave h8t | exact hm8.take h8f) (by first | exact hm10.leaveE (congrArg (fun q => (fp (gx k) + q).toInt) hmx) h10t | exact hm10.takeE (congrArg (fun q => (fp (gx k) + q).toInt) hmx) h10f) hP hD hS (lv_sub hl [0, 1, 2, 8, 9, 10, 11, 12, 13, 14] rfl)
  exact loop1 (op + 1) 0 (lN 9223372036854775807) 2147483647 _ _ _ (by omega) (by rw [show (lN 9223372036854775807).toInt = 9223372036854775807 by first | rfl | decide]; exact MK.nil _ _) (by rw [show ((2147483647 : Int32)).toInt = 2147483647 by first | rfl | decide]; exact MK.nil _ _) hP hD hS (lv_sub hl [0, 1, 2, 3, 4, 5, 6, 7, 8, 9] rfl)
def rm_c_X1_fill_v (k : Nat) : Room := { frames := k + 2, cells := 0, slots := 0, locals := k * 30 + 43 }
set_option maxHeartbeats 400000 in
set_option maxRecDepth 100000 in
theorem c_X1_fill_v (l : Launch) (D : va_G) (cI cJ cZ : ClassId) (z3 t3 : Nat) : ∀ (k : Nat) (h0 : Nat) (h4 : Nat) (s2 : Nat) (s3 : Nat) (p4 : Nat) (p5 : Nat) (p6 : Nat) (a1 : Nat) (a2 : Nat) (a3 : Nat) (n : Nat) (b1 : Nat) (b2 : Nat) (y : Nat) (sx : Nat) (lo : Nat) (hi : Nat) (op : Nat) (len : Nat) (pt : Int32) (rc : Int32) (sn : Int32) (sg : Int32) (fr : Int32) (le : Int64) (fg : Nat → Int32) (fb : Nat → Int32) (fp : Nat → Int32) (fq : Nat → Int32) (eb : Nat → Int64) (ew : Nat → Int32) (fw : Nat → Int64) (gx : Nat → Nat) (hn : n ≤ 9) (hy : y < 40) (hlen : len ≤ 19683) (h3l : 3 ^ n ≤ len) (hmon : MON (isG fw y) n) (hFI : FI (isG fw y) n k sx lo hi op fg fb le gx) (hfq : ∀ z, z < op → fq z = nI (gx z)) (hok : OKT (isG fw y) n fg fb fp eb ew (sx + 3 ^ k)) (hz3 : nz3 z3 t3 [h0, h4, a1, a2, a3, p4, p5, p6, s2, b1]), Met l yX1_fill wsX1_fill (rm_c_X1_fill_v k) (pmT_ D cI cJ cZ z3 t3 [.ref h0, .int (pI k), .int (nI sx), .int (nI lo), .int (nI hi), .long le, .int (nI op)] [(h0, .inr (1, [.ref h4, .ref s2, .ref s3, .ref p4, .ref p5, .ref p6, .int fr])), (h4, .inr (4, [.ref a1, .ref a2, .ref a3, .int (nI n), .int sn, .int sg])), (a1, .inl (cI, 9, .inl fg)), (a2, .inl (cI, 9, .inl fb)), (a3, .inl (cI, 9, .inl fp)), (p4, .inl (cI, 9, .inl fq)), (p5, .inl (cJ, len, .inr (.inl eb))), (p6, .inl (cI, len, .inl ew)), (s2, .inr (3, [.ref b1, .ref b2, .int pt, .int rc, .int (nI y)])), (b1, .inl (cJ, 320, .inr (.inl fw)))]) (va_Qv (fun (u : (Nat → Int32) × (Nat → Int64) × (Nat → Int32)) => (∀ z, z < op → u.1 z = fq z) ∧ OKT (isG fw y) n fg fb fp u.2.1 u.2.2 (sx)) (fun (u : (Nat → Int32) × (Nat → Int64) × (Nat → Int32)) tS => va_P D vwCl [(h0, .inr (1, [.ref h4, .ref s2, .ref s3, .ref p4, .ref p5, .ref p6, .int fr])), (h4, .inr (4, [.ref a1, .ref a2, .ref a3, .int (nI n), .int sn, .int sg])), (a1, .inl (cI, 9, .inl fg)), (a2, .inl (cI, 9, .inl fb)), (a3, .inl (cI, 9, .inl fp)), (p4, .inl (cI, 9, .inl u.1)), (p5, .inl (cJ, len, .inr (.inl u.2.1))), (p6, .inl (cI, len, .inl u.2.2)), (s2, .inr (3, [.ref b1, .ref b2, .int pt, .int rc, .int (nI y)])), (b1, .inl (cJ, 320, .inr (.inl fw)))] tS.heap) (aA [h0, h4, a1, a2, a3, p4, p5, p6, s2, b1])) 0 0 (aA [h0, h4, a1, a2, a3, p4, p5, p6, s2, b1]) := by
  intro k
  induction k with
  | zero =>
    intro h0 h4 s2 s3 p4 p5 p6 a1 a2 a3 n b1 b2 y sx lo hi op len pt rc sn sg fr le fg fb fp fq eb ew fw gx hn hy hlen h3l hmon hFI hfq hok hz3
    show Met l yX1_fill wsX1_fill (rm_c_X1_fill_v 0) (pmT_ D cI cJ cZ z3 t3 [.ref h0, .int (-1 : Int32), .int (nI sx), .int (nI lo), .int (nI hi), .long le, .int (nI op)] [(h0, .inr (1, [.ref h4, .ref s2, .ref s3, .ref p4, .ref p5, .ref p6, .int fr])), (h4, .inr (4, [.ref a1, .ref a2, .ref a3, .int (nI n), .int sn, .int sg])), (a1, .inl (cI, 9, .inl fg)), (a2, .inl (cI, 9, .inl fb)), (a3, .inl (cI, 9, .inl fp)), (p4, .inl (cI, 9, .inl fq)), (p5, .inl (cJ, len, .inr (.inl eb))), (p6, .inl (cI, len, .inl ew)), (s2, .inr (3, [.ref b1, .ref b2, .int pt, .int rc, .int (nI y)])), (b1, .inl (cJ, 320, .inr (.inl fw)))]) (va_Qv (fun (u : (Nat → Int32) × (Nat → Int64) × (Nat → Int32)) => (∀ z, z < op → u.1 z = fq z) ∧ OKT (isG fw y) n fg fb fp u.2.1 u.2.2 (sx)) (fun (u : (Nat → Int32) × (Nat → Int64) × (Nat → Int32)) tS => va_P D vwCl [(h0, .inr (1, [.ref h4, .ref s2, .ref s3, .ref p4, .ref p5, .ref p6, .int fr])), (h4, .inr (4, [.ref a1, .ref a2, .ref a3, .int (nI n), .int sn, .int sg])), (a1, .inl (cI, 9, .inl fg)), (a2, .inl (cI, 9, .inl fb)), (a3, .inl (cI, 9, .inl fp)), (p4, .inl (cI, 9, .inl u.1)), (p5, .inl (cJ, len, .inr (.inl u.2.1))), (p6, .inl (cI, len, .inl u.2.2)), (s2, .inr (3, [.ref b1, .ref b2, .int pt, .int rc, .int (nI y)])), (b1, .inl (cJ, 320, .inr (.inl fw)))] tS.heap) (aA [h0, h4, a1, a2, a3, p4, p5, p6, s2, b1])) 0 0 (aA [h0, h4, a1, a2, a3, p4, p5, p6, s2, b1])
    refine Met.ofW (cc := cX1_fill) (maxL := 11) (ret := none) (by decide) rfl ?_
    intro p e s m args below meth c s₁ B hml hv
    obtain ⟨rfl, hP, hKN, hT0, hD0⟩ := hv
    have hK := hKN.1
    have hx := B.exec
    have hb := B.bytes
    have hr := B.returns
    have hts := atoms_spec (ws := wsX1_fill) B.pre
    have hown : s.vm.findClass RX1 = some m.cls := findClass_of_methodNamed B.named
    have hlocks := B.notSynchronized
    obtain ⟨as, has⟩ : ∃ z : List Nat, z = [h0, h4, a1, a2, a3, p4, p5, p6, s2, b1] := ⟨_, rfl⟩
    have hD := hD0.addr (as := as) (by rw [has]; rfl)
    have hS : va_S (aA as) s.heap s.heap [] := va_S.rf
    have hzA : ¬ aA as z3 := by rw [has]; exact hz3.z
    have htA : ¬ aA as t3 := by rw [has]; exact hz3.t
    have hZ3 := hT0.Z hzA
    have hT3 := hT0.T htA
    have hl := lv_entry ([.ref h0, .int (-1 : Int32), .int (nI sx), .int (nI lo), .int (nI hi), .long le, .int (nI op)]) (n := 11) (Nat.le_of_ble_eq_true rfl)
    rw [lg_entry_eq]
    generalize (lg_sl ([.ref h0, .int (-1 : Int32), .int (nI sx), .int (nI lo), .int (nI hi), .long le, .int (nI op)]) ++ List.replicate (11 - (lg_sl ([.ref h0, .int (-1 : Int32), .int (nI sx), .int (nI lo), .int (nI hi), .long le, .int (nI op)])).length) Slot.unset).toArray = ls at hl ⊢
    have hl : lv_has ls 11 [(0, .ref h0), (1, .int (-1 : Int32)), (2, .int (nI sx)), (3, .int (nI lo)), (4, .int (nI hi)), (5, .long le), (7, .int (nI op))] := hl
    generalize hQ : MQ below _ _ s _ _ _ = Q
    obtain ⟨H, hH⟩ : ∃ z, z = s.heap := ⟨_, rfl⟩
    have hP : va_P D vwCl [(h0, .inr (1, [.ref h4, .ref s2, .ref s3, .ref p4, .ref p5, .ref p6, .int fr])), (h4, .inr (4, [.ref a1, .ref a2, .ref a3, .int (nI n), .int sn, .int sg])), (a1, .inl (cI, 9, .inl fg)), (a2, .inl (cI, 9, .inl fb)), (a3, .inl (cI, 9, .inl fp)), (p4, .inl (cI, 9, .inl fq)), (p5, .inl (cJ, len, .inr (.inl eb))), (p6, .inl (cI, len, .inl ew)), (s2, .inr (3, [.ref b1, .ref b2, .int pt, .int rc, .int (nI y)])), (b1, .inl (cJ, 320, .inr (.inl fw)))] H := by rw [hH]; exact hP
    have hS : va_S (aA as) s.heap H [] := by rw [hH]; exact hS
    refine m_heap hH ?_
    clear hH
    obtain ⟨hk, hlo, hhi, hop, hsx⟩ := hFI.bnd hn h3l
    refine lv_iload_n hx hb dX1_fill_0 rfl (lv_at hl 1 rfl) ?_
    refine lv_if_ge (tgt := 14) hx hb dX1_fill_1 (by decide) (fun c1 => ?_) (fun c1 => ?_)
    · exact absurd c1 (by first | decide | exact nz_lt (by omega) | exact fun h => h (nz_ge (by omega)))
    · skip
      rw [Nat.pow_zero] at hsx
      refine lv_aload_n hx hb dX1_fill_4 rfl (lv_at hl 0 rfl) ?_
      refine lv_iload_n hx hb dX1_fill_5 rfl (lv_at hl 2 rfl) ?_
      refine lv_lload hx hb dX1_fill_6 (lv_at hl 5 rfl) ?_
      refine lv_iload hx hb dX1_fill_8 (lv_at hl 6 rfl) ?_
      refine mu2_v (n := 10) (wc := [(h0, .inr (1, [.ref h4, .ref s2, .ref s3, .ref p4, .ref p5, .ref p6, .int fr])), (h4, .inr (4, [.ref a1, .ref a2, .ref a3, .int (nI n), .int sn, .int sg])), (a3, .inl (cI, 9, .inl fp)), (p4, .inl (cI, 9, .inl fq)), (p5, .inl (cJ, len, .inr (.inl eb))), (p6, .inl (cI, len, .inl ew))]) (wr := [(a1, .inl (cI, 9, .inl fg)), (a2, .inl (cI, 9, .inl fb)), (s2, .inr (3, [.ref b1, .ref b2, .int pt, .int rc, .int (nI y)])), (b1, .inl (cJ, 320, .inr (.inl fw)))]) (as0 := [h0, h4, a1, a2, a3, p4, p5, p6, s2, b1]) (va_runV (As := [.int (nI sx), .long le, .int (nI op)]) (rest := []) ⟨hx, hb, hml, hown, hts⟩ (c_X1_settle_v l D cI cJ cZ z3 t3 h0 h4 s2 s3 p4 p5 p6 a1 a2 a3 n sx op len sn sg fr le fp fq eb ew gx (by first | assumption | omega) (by first | assumption | omega) (by exact hFI.open0 hn h3l hfq) (by first | assumption | omega) ((nz3.D hD hzA htA).sub [0, 1, 4, 5, 6, 7] rfl)) (cwV 3 hts gX1_fill_X1_settle rfl rfl rfl (by decide +kernel) ⟨(show 0 + 1 ≤ 0 + 2 by omega), (show 8 + (18 + 11) + (0) ≤ 0 * 30 + 43 by omega)⟩) ⟨pmT_blind, va_recv hK hP (ci := 1) (q0 := 0) rfl rfl, fun U hU hW => ⟨rfl, by rw [hU]; exact hP.sub (ws' := [(h0, .inr (1, [.ref h4, .ref s2, .ref s3, .ref p4, .ref p5, .ref p6, .int fr])), (h4, .inr (4, [.ref a1, .ref a2, .ref a3, .int (nI n), .int sn, .int sg])), (a3, .inl (cI, 9, .inl fp)), (p4, .inl (cI, 9, .inl fq)), (p5, .inl (cJ, len, .inr (.inl eb))), (p6, .inl (cI, len, .inl ew))]) [0, 1, 4, 5, 6, 7] rfl, hKN.warm hW, hT0.go hS hzA htA hW hU, (hD.sub (ws' := [(h0, .inr (1, [.ref h4, .ref s2, .ref s3, .ref p4, .ref p5, .ref p6, .int fr])), (h4, .inr (4, [.ref a1, .ref a2, .ref a3, .int (nI n), .int sn, .int sg])), (a3, .inl (cI, 9, .inl fp)), (p4, .inl (cI, 9, .inl fq)), (p5, .inl (cJ, len, .inr (.inl eb))), (p6, .inl (cI, len, .inl ew))]) [0, 1, 4, 5, 6, 7] (by decide) rfl).weaken (fun _ _ _ _ => trivial)⟩⟩ rfl rfl hl.1 rfl (lv_room (Nat.le_of_ble_eq_true rfl)) dX1_fill_10 ⟨Nat.le_of_ble_eq_true rfl, Nat.le_of_ble_eq_true rfl⟩) hS hP hD (fun (u : (Nat → Int64) × (Nat → Int32)) => [(h0, .inr (1, [.ref h4, .ref s2, .ref s3, .ref p4, .ref p5, .ref p6, .int fr])), (h4, .inr (4, [.ref a1, .ref a2, .ref a3, .int (nI n), .int sn, .int sg])), (a1, .inl (cI, 9, .inl fg)), (a2, .inl (cI, 9, .inl fb)), (a3, .inl (cI, 9, .inl fp)), (p4, .inl (cI, 9, .inl fq)), (p5, .inl (cJ, len, .inr (.inl u.1))), (p6, .inl (cI, len, .inl u.2)), (s2, .inr (3, [.ref b1, .ref b2, .int pt, .int rc, .int (nI y)])), (b1, .inl (cJ, 320, .inr (.inl fw)))]) [0, 1, 4, 5, 6, 7] [2, 3, 8, 9] rfl rfl rfl (fun _ => rfl) (fun _ => rfl) rfl (fun _ => rfl) (fun _ => rfl) (m_cov rfl) (m_dis rfl) (fun u2 H locs w2r hP hD hS => ?_)
      obtain ⟨u2_ub, u2_uw⟩ := u2
      have hP : va_P D vwCl [(h0, .inr (1, [.ref h4, .ref s2, .ref s3, .ref p4, .ref p5, .ref p6, .int fr])), (h4, .inr (4, [.ref a1, .ref a2, .ref a3, .int (nI n), .int sn, .int sg])), (a1, .inl (cI, 9, .inl fg)), (a2, .inl (cI, 9, .inl fb)), (a3, .inl (cI, 9, .inl fp)), (p4, .inl (cI, 9, .inl fq)), (p5, .inl (cJ, len, .inr (.inl u2_ub))), (p6, .inl (cI, len, .inl u2_uw)), (s2, .inr (3, [.ref b1, .ref b2, .int pt, .int rc, .int (nI y)])), (b1, .inl (cJ, 320, .inr (.inl fw)))] H := hP
      have hD : va_D (aA as) [(h0, .inr (1, [.ref h4, .ref s2, .ref s3, .ref p4, .ref p5, .ref p6, .int fr])), (h4, .inr (4, [.ref a1, .ref a2, .ref a3, .int (nI n), .int sn, .int sg])), (a1, .inl (cI, 9, .inl fg)), (a2, .inl (cI, 9, .inl fb)), (a3, .inl (cI, 9, .inl fp)), (p4, .inl (cI, 9, .inl fq)), (p5, .inl (cJ, len, .inr (.inl u2_ub))), (p6, .inl (cI, len, .inl u2_uw)), (s2, .inr (3, [.ref b1, .ref b2, .int pt, .int rc, .int (nI y)])), (b1, .inl (cJ, 320, .inr (.inl fw)))] := hD
      have w2 : STL op sx gx fp le eb ew u2_ub u2_uw := w2r
      clear w2r
      rw [← hQ]
      exact W.vret hx hb hr (fun tS htS hWS => ⟨⟨(fq, u2_ub, u2_uw), rfl, ⟨fun _ _ => rfl, hFI.settle hok w2⟩, m_at htS hP⟩, by rw [← has]; exact hS.F htS⟩) (by rw [← has]; exact hS.2.2) dX1_fill_13
  | succ k ih =>
    intro h0 h4 s2 s3 p4 p5 p6 a1 a2 a3 n b1 b2 y sx lo hi op len pt rc sn sg fr le fg fb fp fq eb ew fw gx hn hy hlen h3l hmon hFI hfq hok hz3
    show Met l yX1_fill wsX1_fill (rm_c_X1_fill_v (k + 1)) (pmT_ D cI cJ cZ z3 t3 [.ref h0, .int (nI k), .int (nI sx), .int (nI lo), .int (nI hi), .long le, .int (nI op)] [(h0, .inr (1, [.ref h4, .ref s2, .ref s3, .ref p4, .ref p5, .ref p6, .int fr])), (h4, .inr (4, [.ref a1, .ref a2, .ref a3, .int (nI n), .int sn, .int sg])), (a1, .inl (cI, 9, .inl fg)), (a2, .inl (cI, 9, .inl fb)), (a3, .inl (cI, 9, .inl fp)), (p4, .inl (cI, 9, .inl fq)), (p5, .inl (cJ, len, .inr (.inl eb))), (p6, .inl (cI, len, .inl ew)), (s2, .inr (3, [.ref b1, .ref b2, .int pt, .int rc, .int (nI y)])), (b1, .inl (cJ, 320, .inr (.inl fw)))]) (va_Qv (fun (u : (Nat → Int32) × (Nat → Int64) × (Nat → Int32)) => (∀ z, z < op → u.1 z = fq z) ∧ OKT (isG fw y) n fg fb fp u.2.1 u.2.2 (sx)) (fun (u : (Nat → Int32) × (Nat → Int64) × (Nat → Int32)) tS => va_P D vwCl [(h0, .inr (1, [.ref h4, .ref s2, .ref s3, .ref p4, .ref p5, .ref p6, .int fr])), (h4, .inr (4, [.ref a1, .ref a2, .ref a3, .int (nI n), .int sn, .int sg])), (a1, .inl (cI, 9, .inl fg)), (a2, .inl (cI, 9, .inl fb)), (a3, .inl (cI, 9, .inl fp)), (p4, .inl (cI, 9, .inl u.1)), (p5, .inl (cJ, len, .inr (.inl u.2.1))), (p6, .inl (cI, len, .inl u.2.2)), (s2, .inr (3, [.ref b1, .ref b2, .int pt, .int rc, .int (nI y)])), (b1, .inl (cJ, 320, .inr (.inl fw)))] tS.heap) (aA [h0, h4, a1, a2, a3, p4, p5, p6, s2, b1])) 0 0 (aA [h0, h4, a1, a2, a3, p4, p5, p6, s2, b1])
    refine Met.ofW (cc := cX1_fill) (maxL := 11) (ret := none) (by decide) rfl ?_
    intro p e s m args below meth c s₁ B hml hv
    obtain ⟨rfl, hP, hKN, hT0, hD0⟩ := hv
    have hK := hKN.1
    have hx := B.exec
    have hb := B.bytes
    have hr := B.returns
    have hts := atoms_spec (ws := wsX1_fill) B.pre
    have hown : s.vm.findClass RX1 = some m.cls := findClass_of_methodNamed B.named
    have hlocks := B.notSynchronized
    have hiX1 : ∀ w ∈ wsX10, w ∈ wsX1_fill := by decide +kernel
    have hiX4 : ∀ w ∈ wsX40, w ∈ wsX1_fill := by decide +kernel
    have hf9 := hts (.fieldLink RX1 9 "LookBench$Plans" "open" "[I") (by decide +kernel)
    have hf22 := hts (.fieldLink RX1 22 "LookBench$Plans" "shelf" "LLookBench$Shelf;") (by decide +kernel)
    have hf26 := hts (.fieldLink RX1 26 "LookBench$Plans" "rules" "LLookBench$Rules;") (by decide +kernel)
    have hf123 := va_Nw.use (A := [.ref h0, .int (nI k), .int (nI sx), .int (nI lo), .int (nI hi), .long le, .int (nI op)].toArray) rfl (hKN.2 (.fieldLinkNest RX1 123 RX4 "goods" "[I" RX6) (by decide +kernel))
    have hf126 := va_Nw.use (A := [.ref h0, .int (nI k), .int (nI sx), .int (nI lo), .int (nI hi), .long le, .int (nI op)].toArray) rfl (hKN.2 (.fieldLinkNest RX1 126 RX4 "bads" "[I" RX6) (by decide +kernel))
    obtain ⟨as, has⟩ : ∃ z : List Nat, z = [h0, h4, a1, a2, a3, p4, p5, p6, s2, b1] := ⟨_, rfl⟩
    have hD := hD0.addr (as := as) (by rw [has]; rfl)
    have hS : va_S (aA as) s.heap s.heap [] := va_S.rf
    have hzA : ¬ aA as z3 := by rw [has]; exact hz3.z
    have htA : ¬ aA as t3 := by rw [has]; exact hz3.t
    have hZ3 := hT0.Z hzA
    have hT3 := hT0.T htA
    have hfs := hts (.fieldLink RX1 54 "LookBench$Plans" "THREES" "[I") (by decide +kernel)
    have hl := lv_entry ([.ref h0, .int (nI k), .int (nI sx), .int (nI lo), .int (nI hi), .long le, .int (nI op)]) (n := 11) (Nat.le_of_ble_eq_true rfl)
    rw [lg_entry_eq]
    generalize (lg_sl ([.ref h0, .int (nI k), .int (nI sx), .int (nI lo), .int (nI hi), .long le, .int (nI op)]) ++ List.replicate (11 - (lg_sl ([.ref h0, .int (nI k), .int (nI sx), .int (nI lo), .int (nI hi), .long le, .int (nI op)])).length) Slot.unset).toArray = ls at hl ⊢
    have hl : lv_has ls 11 [(0, .ref h0), (1, .int (nI k)), (2, .int (nI sx)), (3, .int (nI lo)), (4, .int (nI hi)), (5, .long le), (7, .int (nI op))] := hl
    generalize hQ : MQ below _ _ s _ _ _ = Q
    obtain ⟨H, hH⟩ : ∃ z, z = s.heap := ⟨_, rfl⟩
    have hP : va_P D vwCl [(h0, .inr (1, [.ref h4, .ref s2, .ref s3, .ref p4, .ref p5, .ref p6, .int fr])), (h4, .inr (4, [.ref a1, .ref a2, .ref a3, .int (nI n), .int sn, .int sg])), (a1, .inl (cI, 9, .inl fg)), (a2, .inl (cI, 9, .inl fb)), (a3, .inl (cI, 9, .inl fp)), (p4, .inl (cI, 9, .inl fq)), (p5, .inl (cJ, len, .inr (.inl eb))), (p6, .inl (cI, len, .inl ew)), (s2, .inr (3, [.ref b1, .ref b2, .int pt, .int rc, .int (nI y)])), (b1, .inl (cJ, 320, .inr (.inl fw)))] H := by rw [hH]; exact hP
    have hS : va_S (aA as) s.heap H [] := by rw [hH]; exact hS
    refine m_heap hH ?_
    clear hH
    obtain ⟨hk, hlo, hhi, hop, hsx⟩ := hFI.bnd hn h3l
    refine lv_iload_n hx hb dX1_fill_0 rfl (lv_at hl 1 rfl) ?_
    refine lv_if_ge (tgt := 14) hx hb dX1_fill_1 (by decide) (fun c1 => ?_) (fun c1 => ?_)
    · skip
      have hp9 := m_p512 (j := k) (by omega)
      have ho9 := m_o512 hlo hp9
      have h3 : 3 ^ (k + 1) = 3 * 3 ^ k := by rw [Nat.pow_succ]; omega
      have h3p := m_p3p k
      have h3n := m_3n (n := k) (by omega)
      have hb9 : hi &&& ((2 ^ 9 - 1) ^^^ 2 ^ k) < 512 := Nat.lt_of_le_of_lt Nat.and_le_left hhi
      refine va_gets hx hb hZ3 hS hown hfs (fun _ h9 => h9) dX1_fill_14 ?_
      refine lv_iload_n hx hb dX1_fill_17 rfl (lv_at hl 1 rfl) ?_
      refine va_ti hx hb hT3 hS (i := nI k) (vp_in_nI (by omega) (by omega)) (v := .int (nI (3 ^ k))) (congrArg (fun j => Value.int (nI (3 ^ j))) (nI_clamp (n := k) (by omega))) dX1_fill_18 ?_
      refine lv_istore (lv' := [(8, .int (nI (3 ^ k))), (0, .ref h0), (1, .int (nI k)), (2, .int (nI sx)), (3, .int (nI lo)), (4, .int (nI hi)), (5, .long le), (7, .int (nI op))]) hx hb dX1_fill_19 hl (by decide) rfl (fun ls hl => ?_)
      refine lv_iload_n hx hb dX1_fill_21 rfl (lv_at hl 4 rfl) ?_
      refine lv_iconst (v := nI 1) hx hb dX1_fill_22 (by decide) ?_
      refine lv_iload_n hx hb dX1_fill_23 rfl (lv_at hl 2 rfl) ?_
      refine lv_ishl hx hb dX1_fill_24 ?_
      refine cn_i (y := nI (2 ^ k)) (m_shl1 (by omega)) ?_
      refine lv_ior hx hb dX1_fill_25 ?_
      refine cn_i (y := nI (lo ||| (2 ^ k))) (mb_or lo (2 ^ k)) ?_
      refine lv_istore (lv' := [(9, .int (nI (lo ||| (2 ^ k)))), (8, .int (nI (3 ^ k))), (0, .ref h0), (1, .int (nI k)), (2, .int (nI sx)), (3, .int (nI lo)), (4, .int (nI hi)), (5, .long le), (7, .int (nI op))]) hx hb dX1_fill_26 hl (by decide) rfl (fun ls hl => ?_)
      refine lv_aload_n hx hb dX1_fill_28 rfl (lv_at hl 2 rfl) ?_
      refine va_get (D := D) (ci := 1) (v := .ref s2) (C := RX1) (T := TX1) (N := 7) hx hb hts hiX1 hown hK hP 0 rfl rfl 1 (by decide) hf26 (fun _ h9 => h9) rfl dX1_fill_29 ?_
      refine lv_iload hx hb dX1_fill_32 (lv_at hl 0 rfl) ?_
      refine pu_i (va_runV (As := [.int (nI (lo ||| (2 ^ k)))]) (rest := []) ⟨hx, hb, hml, hown, hts⟩ (c_X3_isSystemGood l D cI cJ cZ s2 b1 b2 y (lo ||| (2 ^ k)) pt rc fw (by first | assumption | omega) (by first | assumption | omega)) (cwV 1 hts gX1_fill_X3_isSystemGood rfl rfl rfl (by decide +kernel) ⟨(show 1 + 1 ≤ (k + 1) + 2 by omega), (show 8 + (2 + 11) + (22) ≤ (k + 1) * 30 + 43 by omega)⟩) ⟨pc_blind, va_recv hK hP (ci := 3) (q0 := 8) rfl rfl, fun U hU hW => ⟨rfl, by rw [hU]; exact hP.sub (ws' := [(s2, .inr (3, [.ref b1, .ref b2, .int pt, .int rc, .int (nI y)])), (b1, .inl (cJ, 320, .inr (.inl fw)))]) [8, 9] rfl, hKN.warm hW⟩⟩ rfl rfl hl.1 rfl (lv_room (Nat.le_of_ble_eq_true rfl)) dX1_fill_34 ⟨Nat.le_of_ble_eq_true rfl, Nat.le_of_ble_eq_true rfl⟩) hS hP (fun r2 H locs w2r hP hS => ?_)
      have w2 : B01 r2 (isG fw y (lo ||| (2 ^ k))) := w2r
      clear w2r
      rcases w2 with ⟨rfl, w2⟩ | ⟨rfl, w2⟩
      · skip
        have hgY := w2
        refine lv_if_eq (tgt := 59) hx hb dX1_fill_37 (by decide) (fun c3 => ?_) (fun c3 => ?_)
        · exact absurd c3 (by first | decide | exact nz_lt (by omega) | exact fun h => h (nz_ge (by omega)))
        · skip
          refine lv_aload_n hx hb dX1_fill_40 rfl (lv_at hl 2 rfl) ?_
          refine lv_iload_n hx hb dX1_fill_41 rfl (lv_at hl 4 rfl) ?_
          refine lv_iconst (v := nI 2) hx hb dX1_fill_42 (by decide) ?_
          refine lv_iload hx hb dX1_fill_43 (lv_at hl 1 rfl) ?_
          refine lv_imul hx hb dX1_fill_45 ?_
          refine cn_i (y := nI (2 * (3 ^ k))) (pk_mul 2 (3 ^ k)) ?_
          refine lv_iadd hx hb dX1_fill_46 ?_
          refine cn_i (y := nI (sx + (2 * (3 ^ k)))) (nI_add sx (2 * (3 ^ k))) ?_
          refine lv_iload_n hx hb dX1_fill_47 rfl (lv_at hl 4 rfl) ?_
          refine lv_iconst (v := nI 3) hx hb dX1_fill_48 (by decide) ?_
          refine lv_iload hx hb dX1_fill_49 (lv_at hl 1 rfl) ?_
          refine lv_imul hx hb dX1_fill_51 ?_
          refine cn_i (y := nI (3 * (3 ^ k))) (pk_mul 3 (3 ^ k)) ?_
          refine lv_iadd hx hb dX1_fill_52 ?_
          refine cn_i (y := nI (sx + (3 * (3 ^ k)))) (nI_add sx (3 * (3 ^ k))) ?_
          refine mu2_v (n := 10) (wc := [(h0, .inr (1, [.ref h4, .ref s2, .ref s3, .ref p4, .ref p5, .ref p6, .int fr])), (p5, .inl (cJ, len, .inr (.inl eb))), (p6, .inl (cI, len, .inl ew))]) (wr := [(h4, .inr (4, [.ref a1, .ref a2, .ref a3, .int (nI n), .int sn, .int sg])), (a1, .inl (cI, 9, .inl fg)), (a2, .inl (cI, 9, .inl fb)), (a3, .inl (cI, 9, .inl fp)), (p4, .inl (cI, 9, .inl fq)), (s2, .inr (3, [.ref b1, .ref b2, .int pt, .int rc, .int (nI y)])), (b1, .inl (cJ, 320, .inr (.inl fw)))]) (as0 := [h0, h4, a1, a2, a3, p4, p5, p6, s2, b1]) (va_runV (As := [.int (nI (sx + (2 * (3 ^ k)))), .int (nI (sx + (3 * (3 ^ k))))]) (rest := []) ⟨hx, hb, hml, hown, hts⟩ (c_X1_fillSure_v l D cI cJ cZ h0 h4 s2 s3 p4 p5 p6 a1 a2 a3 n (sx + (2 * (3 ^ k))) (sx + (3 * (3 ^ k))) len fr eb ew (by first | assumption | omega) (by first | assumption | omega) (by first | assumption | omega)) (cwV 2 hts gX1_fill_X1_fillSure rfl rfl rfl (by decide +kernel) ⟨(show 0 + 1 ≤ (k + 1) + 2 by omega), (show 8 + (4 + 11) + (0) ≤ (k + 1) * 30 + 43 by omega)⟩) ⟨pm_blind, va_recv hK hP (ci := 1) (q0 := 0) rfl rfl, fun U hU hW => ⟨rfl, by rw [hU]; exact hP.sub (ws' := [(h0, .inr (1, [.ref h4, .ref s2, .ref s3, .ref p4, .ref p5, .ref p6, .int fr])), (p5, .inl (cJ, len, .inr (.inl eb))), (p6, .inl (cI, len, .inl ew))]) [0, 6, 7] rfl, hKN.warm hW, (hD.sub (ws' := [(h0, .inr (1, [.ref h4, .ref s2, .ref s3, .ref p4, .ref p5, .ref p6, .int fr])), (p5, .inl (cJ, len, .inr (.inl eb))), (p6, .inl (cI, len, .inl ew))]) [0, 6, 7] (by decide) rfl).weaken (fun _ _ _ _ => trivial)⟩⟩ rfl rfl hl.1 rfl (lv_room (Nat.le_of_ble_eq_true rfl)) dX1_fill_53 ⟨Nat.le_of_ble_eq_true rfl, Nat.le_of_ble_eq_true rfl⟩) hS hP hD (fun (u : (Nat → Int64) × (Nat → Int32)) => [(h0, .inr (1, [.ref h4, .ref s2, .ref s3, .ref p4, .ref p5, .ref p6, .int fr])), (h4, .inr (4, [.ref a1, .ref a2, .ref a3, .int (nI n), .int sn, .int sg])), (a1, .inl (cI, 9, .inl fg)), (a2, .inl (cI, 9, .inl fb)), (a3, .inl (cI, 9, .inl fp)), (p4, .inl (cI, 9, .inl fq)), (p5, .inl (cJ, len, .inr (.inl u.1))), (p6, .inl (cI, len, .inl u.2)), (s2, .inr (3, [.ref b1, .ref b2, .int pt, .int rc, .int (nI y)])), (b1, .inl (cJ, 320, .inr (.inl fw)))]) [0, 6, 7] [1, 2, 3, 4, 5, 8, 9] rfl rfl rfl (fun _ => rfl) (fun _ => rfl) rfl (fun _ => rfl) (fun _ => rfl) (m_cov rfl) (m_dis rfl) (fun u4 H locs w4r hP hD hS => ?_)
          obtain ⟨u4_ub, u4_uw⟩ := u4
          have hP : va_P D vwCl [(h0, .inr (1, [.ref h4, .ref s2, .ref s3, .ref p4, .ref p5, .ref p6, .int fr])), (h4, .inr (4, [.ref a1, .ref a2, .ref a3, .int (nI n), .int sn, .int sg])), (a1, .inl (cI, 9, .inl fg)), (a2, .inl (cI, 9, .inl fb)), (a3, .inl (cI, 9, .inl fp)), (p4, .inl (cI, 9, .inl fq)), (p5, .inl (cJ, len, .inr (.inl u4_ub))), (p6, .inl (cI, len, .inl u4_uw)), (s2, .inr (3, [.ref b1, .ref b2, .int pt, .int rc, .int (nI y)])), (b1, .inl (cJ, 320, .inr (.inl fw)))] H := hP
          have hD : va_D (aA as) [(h0, .inr (1, [.ref h4, .ref s2, .ref s3, .ref p4, .ref p5, .ref p6, .int fr])), (h4, .inr (4, [.ref a1, .ref a2, .ref a3, .int (nI n), .int sn, .int sg])), (a1, .inl (cI, 9, .inl fg)), (a2, .inl (cI, 9, .inl fb)), (a3, .inl (cI, 9, .inl fp)), (p4, .inl (cI, 9, .inl fq)), (p5, .inl (cJ, len, .inr (.inl u4_ub))), (p6, .inl (cI, len, .inl u4_uw)), (s2, .inr (3, [.ref b1, .ref b2, .int pt, .int rc, .int (nI y)])), (b1, .inl (cJ, 320, .inr (.inl fw)))] := hD
          have w4 : ZER (sx + (2 * (3 ^ k))) (sx + (3 * (3 ^ k))) eb ew u4_ub u4_uw := w4r
          clear w4r
          have hq88 : ∀ z, z < op → fq z = fq z := fun _ _ => rfl
          have hok1 := hFI.fillG hmon hgY hok w4
          refine lv_goto (tgt := 91) hx hb dX1_fill_56 (by decide) ?_
          refine lv_iload hx hb dX1_fill_91 (lv_at hl 6 rfl) ?_
          refine lv_iconst (v := nI 1) hx hb dX1_fill_93 (by decide) ?_
          refine lv_iload_n hx hb dX1_fill_94 rfl (lv_at hl 3 rfl) ?_
          refine lv_ishl hx hb dX1_fill_95 ?_
          refine cn_i (y := nI (2 ^ k)) (m_shl1 (by omega)) ?_
          refine lv_iconst (v := (-1 : Int32)) hx hb dX1_fill_96 (by decide) ?_
          refine lv_ixor hx hb dX1_fill_97 ?_
          refine lv_iand hx hb dX1_fill_98 ?_
          refine cn_i (y := nI (hi &&& ((2 ^ 9 - 1) ^^^ 2 ^ k))) (mb_clr hhi (by omega)) ?_
          refine lv_istore (lv' := [(10, .int (nI (hi &&& ((2 ^ 9 - 1) ^^^ 2 ^ k)))), (9, .int (nI (lo ||| (2 ^ k)))), (8, .int (nI (3 ^ k))), (0, .ref h0), (1, .int (nI k)), (2, .int (nI sx)), (3, .int (nI lo)), (4, .int (nI hi)), (5, .long le), (7, .int (nI op))]) hx hb dX1_fill_99 hl (by decide) rfl (fun ls hl => ?_)
          refine lv_aload_n hx hb dX1_fill_101 rfl (lv_at hl 3 rfl) ?_
          refine va_get (D := D) (ci := 1) (v := .ref s2) (C := RX1) (T := TX1) (N := 7) hx hb hts hiX1 hown hK hP 0 rfl rfl 1 (by decide) hf26 (fun _ h9 => h9) rfl dX1_fill_102 ?_
          refine lv_iload hx hb dX1_fill_105 (lv_at hl 0 rfl) ?_
          refine pu_i (va_runV (As := [.int (nI (hi &&& ((2 ^ 9 - 1) ^^^ 2 ^ k)))]) (rest := []) ⟨hx, hb, hml, hown, hts⟩ (c_X3_isSystemGood l D cI cJ cZ s2 b1 b2 y (hi &&& ((2 ^ 9 - 1) ^^^ 2 ^ k)) pt rc fw (by first | assumption | omega) (by first | assumption | omega)) (cwV 1 hts gX1_fill_X3_isSystemGood rfl rfl rfl (by decide +kernel) ⟨(show 1 + 1 ≤ (k + 1) + 2 by omega), (show 8 + (2 + 11) + (22) ≤ (k + 1) * 30 + 43 by omega)⟩) ⟨pc_blind, va_recv hK hP (ci := 3) (q0 := 8) rfl rfl, fun U hU hW => ⟨rfl, by rw [hU]; exact hP.sub (ws' := [(s2, .inr (3, [.ref b1, .ref b2, .int pt, .int rc, .int (nI y)])), (b1, .inl (cJ, 320, .inr (.inl fw)))]) [8, 9] rfl, hKN.warm hW⟩⟩ rfl rfl hl.1 rfl (lv_room (Nat.le_of_ble_eq_true rfl)) dX1_fill_107 ⟨Nat.le_of_ble_eq_true rfl, Nat.le_of_ble_eq_true rfl⟩) hS hP (fun r5 H locs w5r hP hS => ?_)
          have w5 : B01 r5 (isG fw y (hi &&& ((2 ^ 9 - 1) ^^^ 2 ^ k))) := w5r
          clear w5r
          rcases w5 with ⟨rfl, w5⟩ | ⟨rfl, w5⟩
          · skip
            have hbY := w5
            refine lv_if_eq (tgt := 145) hx hb dX1_fill_110 (by decide) (fun c6 => ?_) (fun c6 => ?_)
            · exact absurd c6 (by first | decide | exact nz_lt (by omega) | exact fun h => h (nz_ge (by omega)))
            · skip
              refine lv_aload_n hx hb dX1_fill_113 rfl (lv_at hl 3 rfl) ?_
              refine lv_iload_n hx hb dX1_fill_114 rfl (lv_at hl 4 rfl) ?_
              refine lv_iconst (v := nI 1) hx hb dX1_fill_115 (by decide) ?_
              refine lv_isub hx hb dX1_fill_116 ?_
              refine cn_i (y := pI k) (pI_sub k) ?_
              refine lv_iload_n hx hb dX1_fill_117 rfl (lv_at hl 5 rfl) ?_
              refine lv_iload hx hb dX1_fill_118 (lv_at hl 2 rfl) ?_
              refine lv_iadd hx hb dX1_fill_120 ?_
              refine cn_i (y := nI (sx + (3 ^ k))) (nI_add sx (3 ^ k)) ?_
              refine lv_iload_n hx hb dX1_fill_121 rfl (lv_at hl 6 rfl) ?_
              refine lv_iload hx hb dX1_fill_122 (lv_at hl 0 rfl) ?_
              refine lv_lload hx hb dX1_fill_124 (lv_at hl 8 rfl) ?_
              refine lv_aload_n hx hb dX1_fill_126 rfl (lv_at hl 3 rfl) ?_
              refine va_get (D := D) (ci := 1) (v := .ref h4) (C := RX1) (T := TX1) (N := 7) hx hb hts hiX1 hown hK hP 0 rfl rfl 0 (by decide) hf22 (fun _ h9 => h9) rfl dX1_fill_127 ?_
              refine va_getN (D := D) (ci := 4) (v := .ref a2) (C := RX4) (T := TX4) (N := 6) hx hb hts hiX4 hown hK hP 1 rfl rfl 1 (by decide) hf126 (fun _ h9 => h9) rfl dX1_fill_130 ?_
              refine lv_iload_n hx hb dX1_fill_133 rfl (lv_at hl 4 rfl) ?_
              refine va_iald hx hb hK hP 3 0 rfl rfl (i := nI k) (vp_in_nI (by omega) (by omega)) dX1_fill_134 ?_
              refine cn_i (y := fb k) (congrArg fb (nI_clamp (by omega))) ?_
              refine lv_i2l hx hb dX1_fill_135 rfl ?_
              refine lv_lmul hx hb dX1_fill_136 ?_
              refine lv_iload hx hb dX1_fill_137 (lv_at hl 9 rfl) ?_
              refine mu2_v (n := 10) (wc := [(h0, .inr (1, [.ref h4, .ref s2, .ref s3, .ref p4, .ref p5, .ref p6, .int fr])), (h4, .inr (4, [.ref a1, .ref a2, .ref a3, .int (nI n), .int sn, .int sg])), (a1, .inl (cI, 9, .inl fg)), (a2, .inl (cI, 9, .inl fb)), (a3, .inl (cI, 9, .inl fp)), (p4, .inl (cI, 9, .inl fq)), (p5, .inl (cJ, len, .inr (.inl u4_ub))), (p6, .inl (cI, len, .inl u4_uw)), (s2, .inr (3, [.ref b1, .ref b2, .int pt, .int rc, .int (nI y)])), (b1, .inl (cJ, 320, .inr (.inl fw)))]) (wr := []) (as0 := [h0, h4, a1, a2, a3, p4, p5, p6, s2, b1]) (va_runV (As := [.int (pI k), .int (nI (sx + (3 ^ k))), .int (nI lo), .int (nI (hi &&& ((2 ^ 9 - 1) ^^^ 2 ^ k))), .long (le * ((fb k).toInt64)), .int (nI op)]) (rest := []) ⟨hx, hb, hml, hown, hts⟩ (ih h0 h4 s2 s3 p4 p5 p6 a1 a2 a3 n b1 b2 y (sx + (3 ^ k)) lo (hi &&& ((2 ^ 9 - 1) ^^^ 2 ^ k)) op len pt rc sn sg fr (le * ((fb k).toInt64)) fg fb fp fq u4_ub u4_uw fw gx (by first | assumption | omega) (by first | assumption | omega) (by first | assumption | omega) (by first | assumption | omega) (by first | assumption | omega) (by exact hFI.bad hn hbY) (by exact fun z hz => (hq88 z hz).trans (hfq z hz)) (by rw [show sx + 3 ^ k + 3 ^ k = sx + 2 * 3 ^ k by omega]; exact hok1) ((nz3.D hD hzA htA).sub [0, 1, 2, 3, 4, 5, 6, 7, 8, 9] rfl)) (cwV 6 hts gX1_fill_X1_fill rfl rfl rfl (by decide +kernel) ⟨(show k + 2 + 1 ≤ (k + 1) + 2 by omega), (show 8 + (11 + 11) + (k * 30 + 43) ≤ (k + 1) * 30 + 43 by omega)⟩) ⟨pmT_blind, va_recv hK hP (ci := 1) (q0 := 0) rfl rfl, fun U hU hW => ⟨rfl, by rw [hU]; exact hP.sub (ws' := [(h0, .inr (1, [.ref h4, .ref s2, .ref s3, .ref p4, .ref p5, .ref p6, .int fr])), (h4, .inr (4, [.ref a1, .ref a2, .ref a3, .int (nI n), .int sn, .int sg])), (a1, .inl (cI, 9, .inl fg)), (a2, .inl (cI, 9, .inl fb)), (a3, .inl (cI, 9, .inl fp)), (p4, .inl (cI, 9, .inl fq)), (p5, .inl (cJ, len, .inr (.inl u4_ub))), (p6, .inl (cI, len, .inl u4_uw)), (s2, .inr (3, [.ref b1, .ref b2, .int pt, .int rc, .int (nI y)])), (b1, .inl (cJ, 320, .inr (.inl fw)))]) [0, 1, 2, 3, 4, 5, 6, 7, 8, 9] rfl, hKN.warm hW, hT0.go hS hzA htA hW hU, (hD.sub (ws' := [(h0, .inr (1, [.ref h4, .ref s2, .ref s3, .ref p4, .ref p5, .ref p6, .int fr])), (h4, .inr (4, [.ref a1, .ref a2, .ref a3, .int (nI n), .int sn, .int sg])), (a1, .inl (cI, 9, .inl fg)), (a2, .inl (cI, 9, .inl fb)), (a3, .inl (cI, 9, .inl fp)), (p4, .inl (cI, 9, .inl fq)), (p5, .inl (cJ, len, .inr (.inl u4_ub))), (p6, .inl (cI, len, .inl u4_uw)), (s2, .inr (3, [.ref b1, .ref b2, .int pt, .int rc, .int (nI y)])), (b1, .inl (cJ, 320, .inr (.inl fw)))]) [0, 1, 2, 3, 4, 5, 6, 7, 8, 9] (by decide) rfl).weaken (fun _ _ _ _ => trivial)⟩⟩ rfl rfl hl.1 rfl (lv_room (Nat.le_of_ble_eq_true rfl)) dX1_fill_139 ⟨Nat.le_of_ble_eq_true rfl, Nat.le_of_ble_eq_true rfl⟩) hS hP hD (fun (u : (Nat → Int32) × (Nat → Int64) × (Nat → Int32)) => [(h0, .inr (1, [.ref h4, .ref s2, .ref s3, .ref p4, .ref p5, .ref p6, .int fr])), (h4, .inr (4, [.ref a1, .ref a2, .ref a3, .int (nI n), .int sn, .int sg])), (a1, .inl (cI, 9, .inl fg)), (a2, .inl (cI, 9, .inl fb)), (a3, .inl (cI, 9, .inl fp)), (p4, .inl (cI, 9, .inl u.1)), (p5, .inl (cJ, len, .inr (.inl u.2.1))), (p6, .inl (cI, len, .inl u.2.2)), (s2, .inr (3, [.ref b1, .ref b2, .int pt, .int rc, .int (nI y)])), (b1, .inl (cJ, 320, .inr (.inl fw)))]) [0, 1, 2, 3, 4, 5, 6, 7, 8, 9] [] rfl rfl rfl (fun _ => rfl) (fun _ => rfl) rfl (fun _ => rfl) (fun _ => rfl) (m_cov rfl) (m_dis rfl) (fun u7 H locs w7r hP hD hS => ?_)
              obtain ⟨u7_uq, u7_ub, u7_uw⟩ := u7
              have hP : va_P D vwCl [(h0, .inr (1, [.ref h4, .ref s2, .ref s3, .ref p4, .ref p5, .ref p6, .int fr])), (h4, .inr (4, [.ref a1, .ref a2, .ref a3, .int (nI n), .int sn, .int sg])), (a1, .inl (cI, 9, .inl fg)), (a2, .inl (cI, 9, .inl fb)), (a3, .inl (cI, 9, .inl fp)), (p4, .inl (cI, 9, .inl u7_uq)), (p5, .inl (cJ, len, .inr (.inl u7_ub))), (p6, .inl (cI, len, .inl u7_uw)), (s2, .inr (3, [.ref b1, .ref b2, .int pt, .int rc, .int (nI y)])), (b1, .inl (cJ, 320, .inr (.inl fw)))] H := hP
              have hD : va_D (aA as) [(h0, .inr (1, [.ref h4, .ref s2, .ref s3, .ref p4, .ref p5, .ref p6, .int fr])), (h4, .inr (4, [.ref a1, .ref a2, .ref a3, .int (nI n), .int sn, .int sg])), (a1, .inl (cI, 9, .inl fg)), (a2, .inl (cI, 9, .inl fb)), (a3, .inl (cI, 9, .inl fp)), (p4, .inl (cI, 9, .inl u7_uq)), (p5, .inl (cJ, len, .inr (.inl u7_ub))), (p6, .inl (cI, len, .inl u7_uw)), (s2, .inr (3, [.ref b1, .ref b2, .int pt, .int rc, .int (nI y)])), (b1, .inl (cJ, 320, .inr (.inl fw)))] := hD
              have w7 : (∀ z, z < op → u7_uq z = fq z) ∧ OKT (isG fw y) n fg fb fp u7_ub u7_uw ((sx + (3 ^ k))) := w7r
              clear w7r
              have hq139 := fun z hz => (w7.1 z hz).trans (hq88 z hz)
              have hok2 := w7.2
              refine lv_goto (tgt := 159) hx hb dX1_fill_142 (by decide) ?_
              refine lv_aload_n hx hb dX1_fill_159 rfl (lv_at hl 3 rfl) ?_
              refine va_get (D := D) (ci := 1) (v := .ref p4) (C := RX1) (T := TX1) (N := 7) hx hb hts hiX1 hown hK hP 0 rfl rfl 3 (by decide) hf9 (fun _ h9 => h9) rfl dX1_fill_160 ?_
              refine lv_iload hx hb dX1_fill_163 (lv_at hl 9 rfl) ?_
              refine lv_iload_n hx hb dX1_fill_165 rfl (lv_at hl 4 rfl) ?_
              refine va_iast hx hb hK hP hD hS 5 0 rfl rfl (i := nI op) (vp_in_nI (by omega) (by omega)) dX1_fill_166 (fun H locs hP hD hS => ?_)
              have hP : va_P D vwCl [(h0, .inr (1, [.ref h4, .ref s2, .ref s3, .ref p4, .ref p5, .ref p6, .int fr])), (h4, .inr (4, [.ref a1, .ref a2, .ref a3, .int (nI n), .int sn, .int sg])), (a1, .inl (cI, 9, .inl fg)), (a2, .inl (cI, 9, .inl fb)), (a3, .inl (cI, 9, .inl fp)), (p4, .inl (cI, 9, .inl (upd u7_uq (nI op).toNatClampNeg (nI k)))), (p5, .inl (cJ, len, .inr (.inl u7_ub))), (p6, .inl (cI, len, .inl u7_uw)), (s2, .inr (3, [.ref b1, .ref b2, .int pt, .int rc, .int (nI y)])), (b1, .inl (cJ, 320, .inr (.inl fw)))] H := hP
              have hD : va_D (aA as) [(h0, .inr (1, [.ref h4, .ref s2, .ref s3, .ref p4, .ref p5, .ref p6, .int fr])), (h4, .inr (4, [.ref a1, .ref a2, .ref a3, .int (nI n), .int sn, .int sg])), (a1, .inl (cI, 9, .inl fg)), (a2, .inl (cI, 9, .inl fb)), (a3, .inl (cI, 9, .inl fp)), (p4, .inl (cI, 9, .inl (upd u7_uq (nI op).toNatClampNeg (nI k)))), (p5, .inl (cJ, len, .inr (.inl u7_ub))), (p6, .inl (cI, len, .inl u7_uw)), (s2, .inr (3, [.ref b1, .ref b2, .int pt, .int rc, .int (nI y)])), (b1, .inl (cJ, 320, .inr (.inl fw)))] := hD
              rw [nI_clamp (n := op) (by omega)] at hP hD
              refine lv_aload_n hx hb dX1_fill_167 rfl (lv_at hl 3 rfl) ?_
              refine lv_iload_n hx hb dX1_fill_168 rfl (lv_at hl 4 rfl) ?_
              refine lv_iconst (v := nI 1) hx hb dX1_fill_169 (by decide) ?_
              refine lv_isub hx hb dX1_fill_170 ?_
              refine cn_i (y := pI k) (pI_sub k) ?_
              refine lv_iload_n hx hb dX1_fill_171 rfl (lv_at hl 5 rfl) ?_
              refine lv_iload_n hx hb dX1_fill_172 rfl (lv_at hl 6 rfl) ?_
              refine lv_iload hx hb dX1_fill_173 (lv_at hl 7 rfl) ?_
              refine lv_lload hx hb dX1_fill_175 (lv_at hl 8 rfl) ?_
              refine lv_aload_n hx hb dX1_fill_177 rfl (lv_at hl 3 rfl) ?_
              refine va_get (D := D) (ci := 1) (v := .ref h4) (C := RX1) (T := TX1) (N := 7) hx hb hts hiX1 hown hK hP 0 rfl rfl 0 (by decide) hf22 (fun _ h9 => h9) rfl dX1_fill_178 ?_
              refine va_getN (D := D) (ci := 4) (v := .ref a1) (C := RX4) (T := TX4) (N := 6) hx hb hts hiX4 hown hK hP 1 rfl rfl 0 (by decide) hf123 (fun _ h9 => h9) rfl dX1_fill_181 ?_
              refine lv_iload_n hx hb dX1_fill_184 rfl (lv_at hl 4 rfl) ?_
              refine va_iald hx hb hK hP 2 0 rfl rfl (i := nI k) (vp_in_nI (by omega) (by omega)) dX1_fill_185 ?_
              refine cn_i (y := fg k) (congrArg fg (nI_clamp (by omega))) ?_
              refine lv_aload_n hx hb dX1_fill_186 rfl (lv_at hl 3 rfl) ?_
              refine va_get (D := D) (ci := 1) (v := .ref h4) (C := RX1) (T := TX1) (N := 7) hx hb hts hiX1 hown hK hP 0 rfl rfl 0 (by decide) hf22 (fun _ h9 => h9) rfl dX1_fill_187 ?_
              refine va_getN (D := D) (ci := 4) (v := .ref a2) (C := RX4) (T := TX4) (N := 6) hx hb hts hiX4 hown hK hP 1 rfl rfl 1 (by decide) hf126 (fun _ h9 => h9) rfl dX1_fill_190 ?_
              refine lv_iload_n hx hb dX1_fill_193 rfl (lv_at hl 4 rfl) ?_
              refine va_iald hx hb hK hP 3 0 rfl rfl (i := nI k) (vp_in_nI (by omega) (by omega)) dX1_fill_194 ?_
              refine cn_i (y := fb k) (congrArg fb (nI_clamp (by omega))) ?_
              refine lv_iadd hx hb dX1_fill_195 ?_
              refine lv_i2l hx hb dX1_fill_196 rfl ?_
              refine lv_lmul hx hb dX1_fill_197 ?_
              refine lv_iload hx hb dX1_fill_198 (lv_at hl 9 rfl) ?_
              refine lv_iconst (v := nI 1) hx hb dX1_fill_200 (by decide) ?_
              refine lv_iadd hx hb dX1_fill_201 ?_
              refine cn_i (y := nI (op + 1)) (nI_add op 1) ?_
              refine mu2_v (n := 10) (wc := [(h0, .inr (1, [.ref h4, .ref s2, .ref s3, .ref p4, .ref p5, .ref p6, .int fr])), (h4, .inr (4, [.ref a1, .ref a2, .ref a3, .int (nI n), .int sn, .int sg])), (a1, .inl (cI, 9, .inl fg)), (a2, .inl (cI, 9, .inl fb)), (a3, .inl (cI, 9, .inl fp)), (p4, .inl (cI, 9, .inl (upd u7_uq op (nI k)))), (p5, .inl (cJ, len, .inr (.inl u7_ub))), (p6, .inl (cI, len, .inl u7_uw)), (s2, .inr (3, [.ref b1, .ref b2, .int pt, .int rc, .int (nI y)])), (b1, .inl (cJ, 320, .inr (.inl fw)))]) (wr := []) (as0 := [h0, h4, a1, a2, a3, p4, p5, p6, s2, b1]) (va_runV (As := [.int (pI k), .int (nI sx), .int (nI lo), .int (nI hi), .long (le * (((fg k) + (fb k)).toInt64)), .int (nI (op + 1))]) (rest := []) ⟨hx, hb, hml, hown, hts⟩ (ih h0 h4 s2 s3 p4 p5 p6 a1 a2 a3 n b1 b2 y sx lo hi (op + 1) len pt rc sn sg fr (le * (((fg k) + (fb k)).toInt64)) fg fb fp (upd u7_uq op (nI k)) u7_ub u7_uw fw (fun z9 => if z9 = op then k else gx z9) (by first | assumption | omega) (by first | assumption | omega) (by first | assumption | omega) (by first | assumption | omega) (by first | assumption | omega) (by exact hFI.skip) (by exact fun z hz => by by_cases e9 : z = op; exact (by simp [upd, e9]); exact (by rw [upd_eq, if_neg e9, if_neg e9]; exact (hq139 z (by omega)).trans (hfq z (by omega)))) (by exact hok2) ((nz3.D hD hzA htA).sub [0, 1, 2, 3, 4, 5, 6, 7, 8, 9] rfl)) (cwV 6 hts gX1_fill_X1_fill rfl rfl rfl (by decide +kernel) ⟨(show k + 2 + 1 ≤ (k + 1) + 2 by omega), (show 8 + (11 + 11) + (k * 30 + 43) ≤ (k + 1) * 30 + 43 by omega)⟩) ⟨pmT_blind, va_recv hK hP (ci := 1) (q0 := 0) rfl rfl, fun U hU hW => ⟨rfl, by rw [hU]; exact hP.sub (ws' := [(h0, .inr (1, [.ref h4, .ref s2, .ref s3, .ref p4, .ref p5, .ref p6, .int fr])), (h4, .inr (4, [.ref a1, .ref a2, .ref a3, .int (nI n), .int sn, .int sg])), (a1, .inl (cI, 9, .inl fg)), (a2, .inl (cI, 9, .inl fb)), (a3, .inl (cI, 9, .inl fp)), (p4, .inl (cI, 9, .inl (upd u7_uq op (nI k)))), (p5, .inl (cJ, len, .inr (.inl u7_ub))), (p6, .inl (cI, len, .inl u7_uw)), (s2, .inr (3, [.ref b1, .ref b2, .int pt, .int rc, .int (nI y)])), (b1, .inl (cJ, 320, .inr (.inl fw)))]) [0, 1, 2, 3, 4, 5, 6, 7, 8, 9] rfl, hKN.warm hW, hT0.go hS hzA htA hW hU, (hD.sub (ws' := [(h0, .inr (1, [.ref h4, .ref s2, .ref s3, .ref p4, .ref p5, .ref p6, .int fr])), (h4, .inr (4, [.ref a1, .ref a2, .ref a3, .int (nI n), .int sn, .int sg])), (a1, .inl (cI, 9, .inl fg)), (a2, .inl (cI, 9, .inl fb)), (a3, .inl (cI, 9, .inl fp)), (p4, .inl (cI, 9, .inl (upd u7_uq op (nI k)))), (p5, .inl (cJ, len, .inr (.inl u7_ub))), (p6, .inl (cI, len, .inl u7_uw)), (s2, .inr (3, [.ref b1, .ref b2, .int pt, .int rc, .int (nI y)])), (b1, .inl (cJ, 320, .inr (.inl fw)))]) [0, 1, 2, 3, 4, 5, 6, 7, 8, 9] (by decide) rfl).weaken (fun _ _ _ _ => trivial)⟩⟩ rfl rfl hl.1 rfl (lv_room (Nat.le_of_ble_eq_true rfl)) dX1_fill_202 ⟨Nat.le_of_ble_eq_true rfl, Nat.le_of_ble_eq_true rfl⟩) hS hP hD (fun (u : (Nat → Int32) × (Nat → Int64) × (Nat → Int32)) => [(h0, .inr (1, [.ref h4, .ref s2, .ref s3, .ref p4, .ref p5, .ref p6, .int fr])), (h4, .inr (4, [.ref a1, .ref a2, .ref a3, .int (nI n), .int sn, .int sg])), (a1, .inl (cI, 9, .inl fg)), (a2, .inl (cI, 9, .inl fb)), (a3, .inl (cI, 9, .inl fp)), (p4, .inl (cI, 9, .inl u.1)), (p5, .inl (cJ, len, .inr (.inl u.2.1))), (p6, .inl (cI, len, .inl u.2.2)), (s2, .inr (3, [.ref b1, .ref b2, .int pt, .int rc, .int (nI y)])), (b1, .inl (cJ, 320, .inr (.inl fw)))]) [0, 1, 2, 3, 4, 5, 6, 7, 8, 9] [] rfl rfl rfl (fun _ => rfl) (fun _ => rfl) rfl (fun _ => rfl) (fun _ => rfl) (m_cov rfl) (m_dis rfl) (fun u8 H locs w8r hP hD hS => ?_)
              obtain ⟨u8_uq, u8_ub, u8_uw⟩ := u8
              have hP : va_P D vwCl [(h0, .inr (1, [.ref h4, .ref s2, .ref s3, .ref p4, .ref p5, .ref p6, .int fr])), (h4, .inr (4, [.ref a1, .ref a2, .ref a3, .int (nI n), .int sn, .int sg])), (a1, .inl (cI, 9, .inl fg)), (a2, .inl (cI, 9, .inl fb)), (a3, .inl (cI, 9, .inl fp)), (p4, .inl (cI, 9, .inl u8_uq)), (p5, .inl (cJ, len, .inr (.inl u8_ub))), (p6, .inl (cI, len, .inl u8_uw)), (s2, .inr (3, [.ref b1, .ref b2, .int pt, .int rc, .int (nI y)])), (b1, .inl (cJ, 320, .inr (.inl fw)))] H := hP
              have hD : va_D (aA as) [(h0, .inr (1, [.ref h4, .ref s2, .ref s3, .ref p4, .ref p5, .ref p6, .int fr])), (h4, .inr (4, [.ref a1, .ref a2, .ref a3, .int (nI n), .int sn, .int sg])), (a1, .inl (cI, 9, .inl fg)), (a2, .inl (cI, 9, .inl fb)), (a3, .inl (cI, 9, .inl fp)), (p4, .inl (cI, 9, .inl u8_uq)), (p5, .inl (cJ, len, .inr (.inl u8_ub))), (p6, .inl (cI, len, .inl u8_uw)), (s2, .inr (3, [.ref b1, .ref b2, .int pt, .int rc, .int (nI y)])), (b1, .inl (cJ, 320, .inr (.inl fw)))] := hD
              have w8 : (∀ z, z < (op + 1) → u8_uq z = (upd u7_uq op (nI k)) z) ∧ OKT (isG fw y) n fg fb fp u8_ub u8_uw (sx) := w8r
              clear w8r
              rw [← hQ]
              exact W.vret hx hb hr (fun tS htS hWS => ⟨⟨(u8_uq, u8_ub, u8_uw), rfl, ⟨fun z hz => (w8.1 z (by omega)).trans ((upd_eq.trans (if_neg (by omega))).trans (hq139 z hz)), w8.2⟩, m_at htS hP⟩, by rw [← has]; exact hS.F htS⟩) (by rw [← has]; exact hS.2.2) dX1_fill_205
          · skip
            have hbN := w5
            refine lv_if_eq (tgt := 145) hx hb dX1_fill_110 (by decide) (fun c9 => ?_) (fun c9 => ?_)
            · skip
              refine lv_aload_n hx hb dX1_fill_145 rfl (lv_at hl 3 rfl) ?_
              refine lv_iload_n hx hb dX1_fill_146 rfl (lv_at hl 5 rfl) ?_
              refine lv_iload hx hb dX1_fill_147 (lv_at hl 2 rfl) ?_
              refine lv_iadd hx hb dX1_fill_149 ?_
              refine cn_i (y := nI (sx + (3 ^ k))) (nI_add sx (3 ^ k)) ?_
              refine lv_iload_n hx hb dX1_fill_150 rfl (lv_at hl 5 rfl) ?_
              refine lv_iconst (v := nI 2) hx hb dX1_fill_151 (by decide) ?_
              refine lv_iload hx hb dX1_fill_152 (lv_at hl 2 rfl) ?_
              refine lv_imul hx hb dX1_fill_154 ?_
              refine cn_i (y := nI (2 * (3 ^ k))) (pk_mul 2 (3 ^ k)) ?_
              refine lv_iadd hx hb dX1_fill_155 ?_
              refine cn_i (y := nI (sx + (2 * (3 ^ k)))) (nI_add sx (2 * (3 ^ k))) ?_
              refine mu2_v (n := 10) (wc := [(h0, .inr (1, [.ref h4, .ref s2, .ref s3, .ref p4, .ref p5, .ref p6, .int fr])), (p5, .inl (cJ, len, .inr (.inl u4_ub))), (p6, .inl (cI, len, .inl u4_uw))]) (wr := [(h4, .inr (4, [.ref a1, .ref a2, .ref a3, .int (nI n), .int sn, .int sg])), (a1, .inl (cI, 9, .inl fg)), (a2, .inl (cI, 9, .inl fb)), (a3, .inl (cI, 9, .inl fp)), (p4, .inl (cI, 9, .inl fq)), (s2, .inr (3, [.ref b1, .ref b2, .int pt, .int rc, .int (nI y)])), (b1, .inl (cJ, 320, .inr (.inl fw)))]) (as0 := [h0, h4, a1, a2, a3, p4, p5, p6, s2, b1]) (va_runV (As := [.int (nI (sx + (3 ^ k))), .int (nI (sx + (2 * (3 ^ k))))]) (rest := []) ⟨hx, hb, hml, hown, hts⟩ (c_X1_fillSure_v l D cI cJ cZ h0 h4 s2 s3 p4 p5 p6 a1 a2 a3 n (sx + (3 ^ k)) (sx + (2 * (3 ^ k))) len fr u4_ub u4_uw (by first | assumption | omega) (by first | assumption | omega) (by first | assumption | omega)) (cwV 2 hts gX1_fill_X1_fillSure rfl rfl rfl (by decide +kernel) ⟨(show 0 + 1 ≤ (k + 1) + 2 by omega), (show 8 + (4 + 11) + (0) ≤ (k + 1) * 30 + 43 by omega)⟩) ⟨pm_blind, va_recv hK hP (ci := 1) (q0 := 0) rfl rfl, fun U hU hW => ⟨rfl, by rw [hU]; exact hP.sub (ws' := [(h0, .inr (1, [.ref h4, .ref s2, .ref s3, .ref p4, .ref p5, .ref p6, .int fr])), (p5, .inl (cJ, len, .inr (.inl u4_ub))), (p6, .inl (cI, len, .inl u4_uw))]) [0, 6, 7] rfl, hKN.warm hW, (hD.sub (ws' := [(h0, .inr (1, [.ref h4, .ref s2, .ref s3, .ref p4, .ref p5, .ref p6, .int fr])), (p5, .inl (cJ, len, .inr (.inl u4_ub))), (p6, .inl (cI, len, .inl u4_uw))]) [0, 6, 7] (by decide) rfl).weaken (fun _ _ _ _ => trivial)⟩⟩ rfl rfl hl.1 rfl (lv_room (Nat.le_of_ble_eq_true rfl)) dX1_fill_156 ⟨Nat.le_of_ble_eq_true rfl, Nat.le_of_ble_eq_true rfl⟩) hS hP hD (fun (u : (Nat → Int64) × (Nat → Int32)) => [(h0, .inr (1, [.ref h4, .ref s2, .ref s3, .ref p4, .ref p5, .ref p6, .int fr])), (h4, .inr (4, [.ref a1, .ref a2, .ref a3, .int (nI n), .int sn, .int sg])), (a1, .inl (cI, 9, .inl fg)), (a2, .inl (cI, 9, .inl fb)), (a3, .inl (cI, 9, .inl fp)), (p4, .inl (cI, 9, .inl fq)), (p5, .inl (cJ, len, .inr (.inl u.1))), (p6, .inl (cI, len, .inl u.2)), (s2, .inr (3, [.ref b1, .ref b2, .int pt, .int rc, .int (nI y)])), (b1, .inl (cJ, 320, .inr (.inl fw)))]) [0, 6, 7] [1, 2, 3, 4, 5, 8, 9] rfl rfl rfl (fun _ => rfl) (fun _ => rfl) rfl (fun _ => rfl) (fun _ => rfl) (m_cov rfl) (m_dis rfl) (fun u10 H locs w10r hP hD hS => ?_)
              obtain ⟨u10_ub, u10_uw⟩ := u10
              have hP : va_P D vwCl [(h0, .inr (1, [.ref h4, .ref s2, .ref s3, .ref p4, .ref p5, .ref p6, .int fr])), (h4, .inr (4, [.ref a1, .ref a2, .ref a3, .int (nI n), .int sn, .int sg])), (a1, .inl (cI, 9, .inl fg)), (a2, .inl (cI, 9, .inl fb)), (a3, .inl (cI, 9, .inl fp)), (p4, .inl (cI, 9, .inl fq)), (p5, .inl (cJ, len, .inr (.inl u10_ub))), (p6, .inl (cI, len, .inl u10_uw)), (s2, .inr (3, [.ref b1, .ref b2, .int pt, .int rc, .int (nI y)])), (b1, .inl (cJ, 320, .inr (.inl fw)))] H := hP
              have hD : va_D (aA as) [(h0, .inr (1, [.ref h4, .ref s2, .ref s3, .ref p4, .ref p5, .ref p6, .int fr])), (h4, .inr (4, [.ref a1, .ref a2, .ref a3, .int (nI n), .int sn, .int sg])), (a1, .inl (cI, 9, .inl fg)), (a2, .inl (cI, 9, .inl fb)), (a3, .inl (cI, 9, .inl fp)), (p4, .inl (cI, 9, .inl fq)), (p5, .inl (cJ, len, .inr (.inl u10_ub))), (p6, .inl (cI, len, .inl u10_uw)), (s2, .inr (3, [.ref b1, .ref b2, .int pt, .int rc, .int (nI y)])), (b1, .inl (cJ, 320, .inr (.inl fw)))] := hD
              have w10 : ZER (sx + (3 ^ k)) (sx + (2 * (3 ^ k))) u4_ub u4_uw u10_ub u10_uw := w10r
              clear w10r
              have hq139 := hq88
              have hok2 := hFI.fillB hn hmon hbN hok1 w10
              refine lv_aload_n hx hb dX1_fill_159 rfl (lv_at hl 3 rfl) ?_
              refine va_get (D := D) (ci := 1) (v := .ref p4) (C := RX1) (T := TX1) (N := 7) hx hb hts hiX1 hown hK hP 0 rfl rfl 3 (by decide) hf9 (fun _ h9 => h9) rfl dX1_fill_160 ?_
              refine lv_iload hx hb dX1_fill_163 (lv_at hl 9 rfl) ?_
              refine lv_iload_n hx hb dX1_fill_165 rfl (lv_at hl 4 rfl) ?_
              refine va_iast hx hb hK hP hD hS 5 0 rfl rfl (i := nI op) (vp_in_nI (by omega) (by omega)) dX1_fill_166 (fun H locs hP hD hS => ?_)
              have hP : va_P D vwCl [(h0, .inr (1, [.ref h4, .ref s2, .ref s3, .ref p4, .ref p5, .ref p6, .int fr])), (h4, .inr (4, [.ref a1, .ref a2, .ref a3, .int (nI n), .int sn, .int sg])), (a1, .inl (cI, 9, .inl fg)), (a2, .inl (cI, 9, .inl fb)), (a3, .inl (cI, 9, .inl fp)), (p4, .inl (cI, 9, .inl (upd fq (nI op).toNatClampNeg (nI k)))), (p5, .inl (cJ, len, .inr (.inl u10_ub))), (p6, .inl (cI, len, .inl u10_uw)), (s2, .inr (3, [.ref b1, .ref b2, .int pt, .int rc, .int (nI y)])), (b1, .inl (cJ, 320, .inr (.inl fw)))] H := hP
              have hD : va_D (aA as) [(h0, .inr (1, [.ref h4, .ref s2, .ref s3, .ref p4, .ref p5, .ref p6, .int fr])), (h4, .inr (4, [.ref a1, .ref a2, .ref a3, .int (nI n), .int sn, .int sg])), (a1, .inl (cI, 9, .inl fg)), (a2, .inl (cI, 9, .inl fb)), (a3, .inl (cI, 9, .inl fp)), (p4, .inl (cI, 9, .inl (upd fq (nI op).toNatClampNeg (nI k)))), (p5, .inl (cJ, len, .inr (.inl u10_ub))), (p6, .inl (cI, len, .inl u10_uw)), (s2, .inr (3, [.ref b1, .ref b2, .int pt, .int rc, .int (nI y)])), (b1, .inl (cJ, 320, .inr (.inl fw)))] := hD
              rw [nI_clamp (n := op) (by omega)] at hP hD
              refine lv_aload_n hx hb dX1_fill_167 rfl (lv_at hl 3 rfl) ?_
              refine lv_iload_n hx hb dX1_fill_168 rfl (lv_at hl 4 rfl) ?_
              refine lv_iconst (v := nI 1) hx hb dX1_fill_169 (by decide) ?_
              refine lv_isub hx hb dX1_fill_170 ?_
              refine cn_i (y := pI k) (pI_sub k) ?_
              refine lv_iload_n hx hb dX1_fill_171 rfl (lv_at hl 5 rfl) ?_
              refine lv_iload_n hx hb dX1_fill_172 rfl (lv_at hl 6 rfl) ?_
              refine lv_iload hx hb dX1_fill_173 (lv_at hl 7 rfl) ?_
              refine lv_lload hx hb dX1_fill_175 (lv_at hl 8 rfl) ?_
              refine lv_aload_n hx hb dX1_fill_177 rfl (lv_at hl 3 rfl) ?_
              refine va_get (D := D) (ci := 1) (v := .ref h4) (C := RX1) (T := TX1) (N := 7) hx hb hts hiX1 hown hK hP 0 rfl rfl 0 (by decide) hf22 (fun _ h9 => h9) rfl dX1_fill_178 ?_
              refine va_getN (D := D) (ci := 4) (v := .ref a1) (C := RX4) (T := TX4) (N := 6) hx hb hts hiX4 hown hK hP 1 rfl rfl 0 (by decide) hf123 (fun _ h9 => h9) rfl dX1_fill_181 ?_
              refine lv_iload_n hx hb dX1_fill_184 rfl (lv_at hl 4 rfl) ?_
              refine va_iald hx hb hK hP 2 0 rfl rfl (i := nI k) (vp_in_nI (by omega) (by omega)) dX1_fill_185 ?_
              refine cn_i (y := fg k) (congrArg fg (nI_clamp (by omega))) ?_
              refine lv_aload_n hx hb dX1_fill_186 rfl (lv_at hl 3 rfl) ?_
              refine va_get (D := D) (ci := 1) (v := .ref h4) (C := RX1) (T := TX1) (N := 7) hx hb hts hiX1 hown hK hP 0 rfl rfl 0 (by decide) hf22 (fun _ h9 => h9) rfl dX1_fill_187 ?_
              refine va_getN (D := D) (ci := 4) (v := .ref a2) (C := RX4) (T := TX4) (N := 6) hx hb hts hiX4 hown hK hP 1 rfl rfl 1 (by decide) hf126 (fun _ h9 => h9) rfl dX1_fill_190 ?_
              refine lv_iload_n hx hb dX1_fill_193 rfl (lv_at hl 4 rfl) ?_
              refine va_iald hx hb hK hP 3 0 rfl rfl (i := nI k) (vp_in_nI (by omega) (by omega)) dX1_fill_194 ?_
              refine cn_i (y := fb k) (congrArg fb (nI_clamp (by omega))) ?_
              refine lv_iadd hx hb dX1_fill_195 ?_
              refine lv_i2l hx hb dX1_fill_196 rfl ?_
              refine lv_lmul hx hb dX1_fill_197 ?_
              refine lv_iload hx hb dX1_fill_198 (lv_at hl 9 rfl) ?_
              refine lv_iconst (v := nI 1) hx hb dX1_fill_200 (by decide) ?_
              refine lv_iadd hx hb dX1_fill_201 ?_
              refine cn_i (y := nI (op + 1)) (nI_add op 1) ?_
              refine mu2_v (n := 10) (wc := [(h0, .inr (1, [.ref h4, .ref s2, .ref s3, .ref p4, .ref p5, .ref p6, .int fr])), (h4, .inr (4, [.ref a1, .ref a2, .ref a3, .int (nI n), .int sn, .int sg])), (a1, .inl (cI, 9, .inl fg)), (a2, .inl (cI, 9, .inl fb)), (a3, .inl (cI, 9, .inl fp)), (p4, .inl (cI, 9, .inl (upd fq op (nI k)))), (p5, .inl (cJ, len, .inr (.inl u10_ub))), (p6, .inl (cI, len, .inl u10_uw)), (s2, .inr (3, [.ref b1, .ref b2, .int pt, .int rc, .int (nI y)])), (b1, .inl (cJ, 320, .inr (.inl fw)))]) (wr := []) (as0 := [h0, h4, a1, a2, a3, p4, p5, p6, s2, b1]) (va_runV (As := [.int (pI k), .int (nI sx), .int (nI lo), .int (nI hi), .long (le * (((fg k) + (fb k)).toInt64)), .int (nI (op + 1))]) (rest := []) ⟨hx, hb, hml, hown, hts⟩ (ih h0 h4 s2 s3 p4 p5 p6 a1 a2 a3 n b1 b2 y sx lo hi (op + 1) len pt rc sn sg fr (le * (((fg k) + (fb k)).toInt64)) fg fb fp (upd fq op (nI k)) u10_ub u10_uw fw (fun z9 => if z9 = op then k else gx z9) (by first | assumption | omega) (by first | assumption | omega) (by first | assumption | omega) (by first | assumption | omega) (by first | assumption | omega) (by exact hFI.skip) (by exact fun z hz => by by_cases e9 : z = op; exact (by simp [upd, e9]); exact (by rw [upd_eq, if_neg e9, if_neg e9]; exact (hq139 z (by omega)).trans (hfq z (by omega)))) (by exact hok2) ((nz3.D hD hzA htA).sub [0, 1, 2, 3, 4, 5, 6, 7, 8, 9] rfl)) (cwV 6 hts gX1_fill_X1_fill rfl rfl rfl (by decide +kernel) ⟨(show k + 2 + 1 ≤ (k + 1) + 2 by omega), (show 8 + (11 + 11) + (k * 30 + 43) ≤ (k + 1) * 30 + 43 by omega)⟩) ⟨pmT_blind, va_recv hK hP (ci := 1) (q0 := 0) rfl rfl, fun U hU hW => ⟨rfl, by rw [hU]; exact hP.sub (ws' := [(h0, .inr (1, [.ref h4, .ref s2, .ref s3, .ref p4, .ref p5, .ref p6, .int fr])), (h4, .inr (4, [.ref a1, .ref a2, .ref a3, .int (nI n), .int sn, .int sg])), (a1, .inl (cI, 9, .inl fg)), (a2, .inl (cI, 9, .inl fb)), (a3, .inl (cI, 9, .inl fp)), (p4, .inl (cI, 9, .inl (upd fq op (nI k)))), (p5, .inl (cJ, len, .inr (.inl u10_ub))), (p6, .inl (cI, len, .inl u10_uw)), (s2, .inr (3, [.ref b1, .ref b2, .int pt, .int rc, .int (nI y)])), (b1, .inl (cJ, 320, .inr (.inl fw)))]) [0, 1, 2, 3, 4, 5, 6, 7, 8, 9] rfl, hKN.warm hW, hT0.go hS hzA htA hW hU, (hD.sub (ws' := [(h0, .inr (1, [.ref h4, .ref s2, .ref s3, .ref p4, .ref p5, .ref p6, .int fr])), (h4, .inr (4, [.ref a1, .ref a2, .ref a3, .int (nI n), .int sn, .int sg])), (a1, .inl (cI, 9, .inl fg)), (a2, .inl (cI, 9, .inl fb)), (a3, .inl (cI, 9, .inl fp)), (p4, .inl (cI, 9, .inl (upd fq op (nI k)))), (p5, .inl (cJ, len, .inr (.inl u10_ub))), (p6, .inl (cI, len, .inl u10_uw)), (s2, .inr (3, [.ref b1, .ref b2, .int pt, .int rc, .int (nI y)])), (b1, .inl (cJ, 320, .inr (.inl fw)))]) [0, 1, 2, 3, 4, 5, 6, 7, 8, 9] (by decide) rfl).weaken (fun _ _ _ _ => trivial)⟩⟩ rfl rfl hl.1 rfl (lv_room (Nat.le_of_ble_eq_true rfl)) dX1_fill_202 ⟨Nat.le_of_ble_eq_true rfl, Nat.le_of_ble_eq_true rfl⟩) hS hP hD (fun (u : (Nat → Int32) × (Nat → Int64) × (Nat → Int32)) => [(h0, .inr (1, [.ref h4, .ref s2, .ref s3, .ref p4, .ref p5, .ref p6, .int fr])), (h4, .inr (4, [.ref a1, .ref a2, .ref a3, .int (nI n), .int sn, .int sg])), (a1, .inl (cI, 9, .inl fg)), (a2, .inl (cI, 9, .inl fb)), (a3, .inl (cI, 9, .inl fp)), (p4, .inl (cI, 9, .inl u.1)), (p5, .inl (cJ, len, .inr (.inl u.2.1))), (p6, .inl (cI, len, .inl u.2.2)), (s2, .inr (3, [.ref b1, .ref b2, .int pt, .int rc, .int (nI y)])), (b1, .inl (cJ, 320, .inr (.inl fw)))]) [0, 1, 2, 3, 4, 5, 6, 7, 8, 9] [] rfl rfl rfl (fun _ => rfl) (fun _ => rfl) rfl (fun _ => rfl) (fun _ => rfl) (m_cov rfl) (m_dis rfl) (fun u11 H locs w11r hP hD hS => ?_)
              obtain ⟨u11_uq, u11_ub, u11_uw⟩ := u11
              have hP : va_P D vwCl [(h0, .inr (1, [.ref h4, .ref s2, .ref s3, .ref p4, .ref p5, .ref p6, .int fr])), (h4, .inr (4, [.ref a1, .ref a2, .ref a3, .int (nI n), .int sn, .int sg])), (a1, .inl (cI, 9, .inl fg)), (a2, .inl (cI, 9, .inl fb)), (a3, .inl (cI, 9, .inl fp)), (p4, .inl (cI, 9, .inl u11_uq)), (p5, .inl (cJ, len, .inr (.inl u11_ub))), (p6, .inl (cI, len, .inl u11_uw)), (s2, .inr (3, [.ref b1, .ref b2, .int pt, .int rc, .int (nI y)])), (b1, .inl (cJ, 320, .inr (.inl fw)))] H := hP
              have hD : va_D (aA as) [(h0, .inr (1, [.ref h4, .ref s2, .ref s3, .ref p4, .ref p5, .ref p6, .int fr])), (h4, .inr (4, [.ref a1, .ref a2, .ref a3, .int (nI n), .int sn, .int sg])), (a1, .inl (cI, 9, .inl fg)), (a2, .inl (cI, 9, .inl fb)), (a3, .inl (cI, 9, .inl fp)), (p4, .inl (cI, 9, .inl u11_uq)), (p5, .inl (cJ, len, .inr (.inl u11_ub))), (p6, .inl (cI, len, .inl u11_uw)), (s2, .inr (3, [.ref b1, .ref b2, .int pt, .int rc, .int (nI y)])), (b1, .inl (cJ, 320, .inr (.inl fw)))] := hD
              have w11 : (∀ z, z < (op + 1) → u11_uq z = (upd fq op (nI k)) z) ∧ OKT (isG fw y) n fg fb fp u11_ub u11_uw (sx) := w11r
              clear w11r
              rw [← hQ]
              exact W.vret hx hb hr (fun tS htS hWS => ⟨⟨(u11_uq, u11_ub, u11_uw), rfl, ⟨fun z hz => (w11.1 z (by omega)).trans ((upd_eq.trans (if_neg (by omega))).trans (hq139 z hz)), w11.2⟩, m_at htS hP⟩, by rw [← has]; exact hS.F htS⟩) (by rw [← has]; exact hS.2.2) dX1_fill_205
            · exact absurd c9 (by first | decide | exact nz_lt (by omega) | exact fun h => h (nz_ge (by omega)))
      · skip
        have hgN := w2
        refine lv_if_eq (tgt := 59) hx hb dX1_fill_37 (by decide) (fun c12 => ?_) (fun c12 => ?_)
        · skip
          refine lv_aload_n hx hb dX1_fill_59 rfl (lv_at hl 2 rfl) ?_
          refine lv_iload_n hx hb dX1_fill_60 rfl (lv_at hl 3 rfl) ?_
          refine lv_iconst (v := nI 1) hx hb dX1_fill_61 (by decide) ?_
          refine lv_isub hx hb dX1_fill_62 ?_
          refine cn_i (y := pI k) (pI_sub k) ?_
          refine lv_iload_n hx hb dX1_fill_63 rfl (lv_at hl 4 rfl) ?_
          refine lv_iconst (v := nI 2) hx hb dX1_fill_64 (by decide) ?_
          refine lv_iload hx hb dX1_fill_65 (lv_at hl 1 rfl) ?_
          refine lv_imul hx hb dX1_fill_67 ?_
          refine cn_i (y := nI (2 * (3 ^ k))) (pk_mul 2 (3 ^ k)) ?_
          refine lv_iadd hx hb dX1_fill_68 ?_
          refine cn_i (y := nI (sx + (2 * (3 ^ k)))) (nI_add sx (2 * (3 ^ k))) ?_
          refine lv_iload hx hb dX1_fill_69 (lv_at hl 0 rfl) ?_
          refine lv_iload hx hb dX1_fill_71 (lv_at hl 6 rfl) ?_
          refine lv_lload hx hb dX1_fill_73 (lv_at hl 7 rfl) ?_
          refine lv_aload_n hx hb dX1_fill_75 rfl (lv_at hl 2 rfl) ?_
          refine va_get (D := D) (ci := 1) (v := .ref h4) (C := RX1) (T := TX1) (N := 7) hx hb hts hiX1 hown hK hP 0 rfl rfl 0 (by decide) hf22 (fun _ h9 => h9) rfl dX1_fill_76 ?_
          refine va_getN (D := D) (ci := 4) (v := .ref a1) (C := RX4) (T := TX4) (N := 6) hx hb hts hiX4 hown hK hP 1 rfl rfl 0 (by decide) hf123 (fun _ h9 => h9) rfl dX1_fill_79 ?_
          refine lv_iload_n hx hb dX1_fill_82 rfl (lv_at hl 3 rfl) ?_
          refine va_iald hx hb hK hP 2 0 rfl rfl (i := nI k) (vp_in_nI (by omega) (by omega)) dX1_fill_83 ?_
          refine cn_i (y := fg k) (congrArg fg (nI_clamp (by omega))) ?_
          refine lv_i2l hx hb dX1_fill_84 rfl ?_
          refine lv_lmul hx hb dX1_fill_85 ?_
          refine lv_iload hx hb dX1_fill_86 (lv_at hl 8 rfl) ?_
          refine mu2_v (n := 10) (wc := [(h0, .inr (1, [.ref h4, .ref s2, .ref s3, .ref p4, .ref p5, .ref p6, .int fr])), (h4, .inr (4, [.ref a1, .ref a2, .ref a3, .int (nI n), .int sn, .int sg])), (a1, .inl (cI, 9, .inl fg)), (a2, .inl (cI, 9, .inl fb)), (a3, .inl (cI, 9, .inl fp)), (p4, .inl (cI, 9, .inl fq)), (p5, .inl (cJ, len, .inr (.inl eb))), (p6, .inl (cI, len, .inl ew)), (s2, .inr (3, [.ref b1, .ref b2, .int pt, .int rc, .int (nI y)])), (b1, .inl (cJ, 320, .inr (.inl fw)))]) (wr := []) (as0 := [h0, h4, a1, a2, a3, p4, p5, p6, s2, b1]) (va_runV (As := [.int (pI k), .int (nI (sx + (2 * (3 ^ k)))), .int (nI (lo ||| (2 ^ k))), .int (nI hi), .long (le * ((fg k).toInt64)), .int (nI op)]) (rest := []) ⟨hx, hb, hml, hown, hts⟩ (ih h0 h4 s2 s3 p4 p5 p6 a1 a2 a3 n b1 b2 y (sx + (2 * (3 ^ k))) (lo ||| (2 ^ k)) hi op len pt rc sn sg fr (le * ((fg k).toInt64)) fg fb fp fq eb ew fw gx (by first | assumption | omega) (by first | assumption | omega) (by first | assumption | omega) (by first | assumption | omega) (by first | assumption | omega) (by exact hFI.good hgN) (by exact hfq) (by rw [show sx + 2 * 3 ^ k + 3 ^ k = sx + 3 ^ (k + 1) by omega]; exact hok) ((nz3.D hD hzA htA).sub [0, 1, 2, 3, 4, 5, 6, 7, 8, 9] rfl)) (cwV 6 hts gX1_fill_X1_fill rfl rfl rfl (by decide +kernel) ⟨(show k + 2 + 1 ≤ (k + 1) + 2 by omega), (show 8 + (11 + 11) + (k * 30 + 43) ≤ (k + 1) * 30 + 43 by omega)⟩) ⟨pmT_blind, va_recv hK hP (ci := 1) (q0 := 0) rfl rfl, fun U hU hW => ⟨rfl, by rw [hU]; exact hP.sub (ws' := [(h0, .inr (1, [.ref h4, .ref s2, .ref s3, .ref p4, .ref p5, .ref p6, .int fr])), (h4, .inr (4, [.ref a1, .ref a2, .ref a3, .int (nI n), .int sn, .int sg])), (a1, .inl (cI, 9, .inl fg)), (a2, .inl (cI, 9, .inl fb)), (a3, .inl (cI, 9, .inl fp)), (p4, .inl (cI, 9, .inl fq)), (p5, .inl (cJ, len, .inr (.inl eb))), (p6, .inl (cI, len, .inl ew)), (s2, .inr (3, [.ref b1, .ref b2, .int pt, .int rc, .int (nI y)])), (b1, .inl (cJ, 320, .inr (.inl fw)))]) [0, 1, 2, 3, 4, 5, 6, 7, 8, 9] rfl, hKN.warm hW, hT0.go hS hzA htA hW hU, (hD.sub (ws' := [(h0, .inr (1, [.ref h4, .ref s2, .ref s3, .ref p4, .ref p5, .ref p6, .int fr])), (h4, .inr (4, [.ref a1, .ref a2, .ref a3, .int (nI n), .int sn, .int sg])), (a1, .inl (cI, 9, .inl fg)), (a2, .inl (cI, 9, .inl fb)), (a3, .inl (cI, 9, .inl fp)), (p4, .inl (cI, 9, .inl fq)), (p5, .inl (cJ, len, .inr (.inl eb))), (p6, .inl (cI, len, .inl ew)), (s2, .inr (3, [.ref b1, .ref b2, .int pt, .int rc, .int (nI y)])), (b1, .inl (cJ, 320, .inr (.inl fw)))]) [0, 1, 2, 3, 4, 5, 6, 7, 8, 9] (by decide) rfl).weaken (fun _ _ _ _ => trivial)⟩⟩ rfl rfl hl.1 rfl (lv_room (Nat.le_of_ble_eq_true rfl)) dX1_fill_88 ⟨Nat.le_of_ble_eq_true rfl, Nat.le_of_ble_eq_true rfl⟩) hS hP hD (fun (u : (Nat → Int32) × (Nat → Int64) × (Nat → Int32)) => [(h0, .inr (1, [.ref h4, .ref s2, .ref s3, .ref p4, .ref p5, .ref p6, .int fr])), (h4, .inr (4, [.ref a1, .ref a2, .ref a3, .int (nI n), .int sn, .int sg])), (a1, .inl (cI, 9, .inl fg)), (a2, .inl (cI, 9, .inl fb)), (a3, .inl (cI, 9, .inl fp)), (p4, .inl (cI, 9, .inl u.1)), (p5, .inl (cJ, len, .inr (.inl u.2.1))), (p6, .inl (cI, len, .inl u.2.2)), (s2, .inr (3, [.ref b1, .ref b2, .int pt, .int rc, .int (nI y)])), (b1, .inl (cJ, 320, .inr (.inl fw)))]) [0, 1, 2, 3, 4, 5, 6, 7, 8, 9] [] rfl rfl rfl (fun _ => rfl) (fun _ => rfl) rfl (fun _ => rfl) (fun _ => rfl) (m_cov rfl) (m_dis rfl) (fun u13 H locs w13r hP hD hS => ?_)
          obtain ⟨u13_uq, u13_ub, u13_uw⟩ := u13
          have hP : va_P D vwCl [(h0, .inr (1, [.ref h4, .ref s2, .ref s3, .ref p4, .ref p5, .ref p6, .int fr])), (h4, .inr (4, [.ref a1, .ref a2, .ref a3, .int (nI n), .int sn, .int sg])), (a1, .inl (cI, 9, .inl fg)), (a2, .inl (cI, 9, .inl fb)), (a3, .inl (cI, 9, .inl fp)), (p4, .inl (cI, 9, .inl u13_uq)), (p5, .inl (cJ, len, .inr (.inl u13_ub))), (p6, .inl (cI, len, .inl u13_uw)), (s2, .inr (3, [.ref b1, .ref b2, .int pt, .int rc, .int (nI y)])), (b1, .inl (cJ, 320, .inr (.inl fw)))] H := hP
          have hD : va_D (aA as) [(h0, .inr (1, [.ref h4, .ref s2, .ref s3, .ref p4, .ref p5, .ref p6, .int fr])), (h4, .inr (4, [.ref a1, .ref a2, .ref a3, .int (nI n), .int sn, .int sg])), (a1, .inl (cI, 9, .inl fg)), (a2, .inl (cI, 9, .inl fb)), (a3, .inl (cI, 9, .inl fp)), (p4, .inl (cI, 9, .inl u13_uq)), (p5, .inl (cJ, len, .inr (.inl u13_ub))), (p6, .inl (cI, len, .inl u13_uw)), (s2, .inr (3, [.ref b1, .ref b2, .int pt, .int rc, .int (nI y)])), (b1, .inl (cJ, 320, .inr (.inl fw)))] := hD
          have w13 : (∀ z, z < op → u13_uq z = fq z) ∧ OKT (isG fw y) n fg fb fp u13_ub u13_uw ((sx + (2 * (3 ^ k)))) := w13r
          clear w13r
          have hq88 := w13.1
          have hok1 := w13.2
          refine lv_iload hx hb dX1_fill_91 (lv_at hl 6 rfl) ?_
          refine lv_iconst (v := nI 1) hx hb dX1_fill_93 (by decide) ?_
          refine lv_iload_n hx hb dX1_fill_94 rfl (lv_at hl 3 rfl) ?_
          refine lv_ishl hx hb dX1_fill_95 ?_
          refine cn_i (y := nI (2 ^ k)) (m_shl1 (by omega)) ?_
          refine lv_iconst (v := (-1 : Int32)) hx hb dX1_fill_96 (by decide) ?_
          refine lv_ixor hx hb dX1_fill_97 ?_
          refine lv_iand hx hb dX1_fill_98 ?_
          refine cn_i (y := nI (hi &&& ((2 ^ 9 - 1) ^^^ 2 ^ k))) (mb_clr hhi (by omega)) ?_
          refine lv_istore (lv' := [(10, .int (nI (hi &&& ((2 ^ 9 - 1) ^^^ 2 ^ k)))), (9, .int (nI (lo ||| (2 ^ k)))), (8, .int (nI (3 ^ k))), (0, .ref h0), (1, .int (nI k)), (2, .int (nI sx)), (3, .int (nI lo)), (4, .int (nI hi)), (5, .long le), (7, .int (nI op))]) hx hb dX1_fill_99 hl (by decide) rfl (fun ls hl => ?_)
          refine lv_aload_n hx hb dX1_fill_101 rfl (lv_at hl 3 rfl) ?_
          refine va_get (D := D) (ci := 1) (v := .ref s2) (C := RX1) (T := TX1) (N := 7) hx hb hts hiX1 hown hK hP 0 rfl rfl 1 (by decide) hf26 (fun _ h9 => h9) rfl dX1_fill_102 ?_
          refine lv_iload hx hb dX1_fill_105 (lv_at hl 0 rfl) ?_
          refine pu_i (va_runV (As := [.int (nI (hi &&& ((2 ^ 9 - 1) ^^^ 2 ^ k)))]) (rest := []) ⟨hx, hb, hml, hown, hts⟩ (c_X3_isSystemGood l D cI cJ cZ s2 b1 b2 y (hi &&& ((2 ^ 9 - 1) ^^^ 2 ^ k)) pt rc fw (by first | assumption | omega) (by first | assumption | omega)) (cwV 1 hts gX1_fill_X3_isSystemGood rfl rfl rfl (by decide +kernel) ⟨(show 1 + 1 ≤ (k + 1) + 2 by omega), (show 8 + (2 + 11) + (22) ≤ (k + 1) * 30 + 43 by omega)⟩) ⟨pc_blind, va_recv hK hP (ci := 3) (q0 := 8) rfl rfl, fun U hU hW => ⟨rfl, by rw [hU]; exact hP.sub (ws' := [(s2, .inr (3, [.ref b1, .ref b2, .int pt, .int rc, .int (nI y)])), (b1, .inl (cJ, 320, .inr (.inl fw)))]) [8, 9] rfl, hKN.warm hW⟩⟩ rfl rfl hl.1 rfl (lv_room (Nat.le_of_ble_eq_true rfl)) dX1_fill_107 ⟨Nat.le_of_ble_eq_true rfl, Nat.le_of_ble_eq_true rfl⟩) hS hP (fun r14 H locs w14r hP hS => ?_)
          have w14 : B01 r14 (isG fw y (hi &&& ((2 ^ 9 - 1) ^^^ 2 ^ k))) := w14r
          clear w14r
          rcases w14 with ⟨rfl, w14⟩ | ⟨rfl, w14⟩
          · skip
            have hbY := w14
            refine lv_if_eq (tgt := 145) hx hb dX1_fill_110 (by decide) (fun c15 => ?_) (fun c15 => ?_)
            · exact absurd c15 (by first | decide | exact nz_lt (by omega) | exact fun h => h (nz_ge (by omega)))
            · skip
              refine lv_aload_n hx hb dX1_fill_113 rfl (lv_at hl 3 rfl) ?_
              refine lv_iload_n hx hb dX1_fill_114 rfl (lv_at hl 4 rfl) ?_
              refine lv_iconst (v := nI 1) hx hb dX1_fill_115 (by decide) ?_
              refine lv_isub hx hb dX1_fill_116 ?_
              refine cn_i (y := pI k) (pI_sub k) ?_
              refine lv_iload_n hx hb dX1_fill_117 rfl (lv_at hl 5 rfl) ?_
              refine lv_iload hx hb dX1_fill_118 (lv_at hl 2 rfl) ?_
              refine lv_iadd hx hb dX1_fill_120 ?_
              refine cn_i (y := nI (sx + (3 ^ k))) (nI_add sx (3 ^ k)) ?_
              refine lv_iload_n hx hb dX1_fill_121 rfl (lv_at hl 6 rfl) ?_
              refine lv_iload hx hb dX1_fill_122 (lv_at hl 0 rfl) ?_
              refine lv_lload hx hb dX1_fill_124 (lv_at hl 8 rfl) ?_
              refine lv_aload_n hx hb dX1_fill_126 rfl (lv_at hl 3 rfl) ?_
              refine va_get (D := D) (ci := 1) (v := .ref h4) (C := RX1) (T := TX1) (N := 7) hx hb hts hiX1 hown hK hP 0 rfl rfl 0 (by decide) hf22 (fun _ h9 => h9) rfl dX1_fill_127 ?_
              refine va_getN (D := D) (ci := 4) (v := .ref a2) (C := RX4) (T := TX4) (N := 6) hx hb hts hiX4 hown hK hP 1 rfl rfl 1 (by decide) hf126 (fun _ h9 => h9) rfl dX1_fill_130 ?_
              refine lv_iload_n hx hb dX1_fill_133 rfl (lv_at hl 4 rfl) ?_
              refine va_iald hx hb hK hP 3 0 rfl rfl (i := nI k) (vp_in_nI (by omega) (by omega)) dX1_fill_134 ?_
              refine cn_i (y := fb k) (congrArg fb (nI_clamp (by omega))) ?_
              refine lv_i2l hx hb dX1_fill_135 rfl ?_
              refine lv_lmul hx hb dX1_fill_136 ?_
              refine lv_iload hx hb dX1_fill_137 (lv_at hl 9 rfl) ?_
              refine mu2_v (n := 10) (wc := [(h0, .inr (1, [.ref h4, .ref s2, .ref s3, .ref p4, .ref p5, .ref p6, .int fr])), (h4, .inr (4, [.ref a1, .ref a2, .ref a3, .int (nI n), .int sn, .int sg])), (a1, .inl (cI, 9, .inl fg)), (a2, .inl (cI, 9, .inl fb)), (a3, .inl (cI, 9, .inl fp)), (p4, .inl (cI, 9, .inl u13_uq)), (p5, .inl (cJ, len, .inr (.inl u13_ub))), (p6, .inl (cI, len, .inl u13_uw)), (s2, .inr (3, [.ref b1, .ref b2, .int pt, .int rc, .int (nI y)])), (b1, .inl (cJ, 320, .inr (.inl fw)))]) (wr := []) (as0 := [h0, h4, a1, a2, a3, p4, p5, p6, s2, b1]) (va_runV (As := [.int (pI k), .int (nI (sx + (3 ^ k))), .int (nI lo), .int (nI (hi &&& ((2 ^ 9 - 1) ^^^ 2 ^ k))), .long (le * ((fb k).toInt64)), .int (nI op)]) (rest := []) ⟨hx, hb, hml, hown, hts⟩ (ih h0 h4 s2 s3 p4 p5 p6 a1 a2 a3 n b1 b2 y (sx + (3 ^ k)) lo (hi &&& ((2 ^ 9 - 1) ^^^ 2 ^ k)) op len pt rc sn sg fr (le * ((fb k).toInt64)) fg fb fp u13_uq u13_ub u13_uw fw gx (by first | assumption | omega) (by first | assumption | omega) (by first | assumption | omega) (by first | assumption | omega) (by first | assumption | omega) (by exact hFI.bad hn hbY) (by exact fun z hz => (hq88 z hz).trans (hfq z hz)) (by rw [show sx + 3 ^ k + 3 ^ k = sx + 2 * 3 ^ k by omega]; exact hok1) ((nz3.D hD hzA htA).sub [0, 1, 2, 3, 4, 5, 6, 7, 8, 9] rfl)) (cwV 6 hts gX1_fill_X1_fill rfl rfl rfl (by decide +kernel) ⟨(show k + 2 + 1 ≤ (k + 1) + 2 by omega), (show 8 + (11 + 11) + (k * 30 + 43) ≤ (k + 1) * 30 + 43 by omega)⟩) ⟨pmT_blind, va_recv hK hP (ci := 1) (q0 := 0) rfl rfl, fun U hU hW => ⟨rfl, by rw [hU]; exact hP.sub (ws' := [(h0, .inr (1, [.ref h4, .ref s2, .ref s3, .ref p4, .ref p5, .ref p6, .int fr])), (h4, .inr (4, [.ref a1, .ref a2, .ref a3, .int (nI n), .int sn, .int sg])), (a1, .inl (cI, 9, .inl fg)), (a2, .inl (cI, 9, .inl fb)), (a3, .inl (cI, 9, .inl fp)), (p4, .inl (cI, 9, .inl u13_uq)), (p5, .inl (cJ, len, .inr (.inl u13_ub))), (p6, .inl (cI, len, .inl u13_uw)), (s2, .inr (3, [.ref b1, .ref b2, .int pt, .int rc, .int (nI y)])), (b1, .inl (cJ, 320, .inr (.inl fw)))]) [0, 1, 2, 3, 4, 5, 6, 7, 8, 9] rfl, hKN.warm hW, hT0.go hS hzA htA hW hU, (hD.sub (ws' := [(h0, .inr (1, [.ref h4, .ref s2, .ref s3, .ref p4, .ref p5, .ref p6, .int fr])), (h4, .inr (4, [.ref a1, .ref a2, .ref a3, .int (nI n), .int sn, .int sg])), (a1, .inl (cI, 9, .inl fg)), (a2, .inl (cI, 9, .inl fb)), (a3, .inl (cI, 9, .inl fp)), (p4, .inl (cI, 9, .inl u13_uq)), (p5, .inl (cJ, len, .inr (.inl u13_ub))), (p6, .inl (cI, len, .inl u13_uw)), (s2, .inr (3, [.ref b1, .ref b2, .int pt, .int rc, .int (nI y)])), (b1, .inl (cJ, 320, .inr (.inl fw)))]) [0, 1, 2, 3, 4, 5, 6, 7, 8, 9] (by decide) rfl).weaken (fun _ _ _ _ => trivial)⟩⟩ rfl rfl hl.1 rfl (lv_room (Nat.le_of_ble_eq_true rfl)) dX1_fill_139 ⟨Nat.le_of_ble_eq_true rfl, Nat.le_of_ble_eq_true rfl⟩) hS hP hD (fun (u : (Nat → Int32) × (Nat → Int64) × (Nat → Int32)) => [(h0, .inr (1, [.ref h4, .ref s2, .ref s3, .ref p4, .ref p5, .ref p6, .int fr])), (h4, .inr (4, [.ref a1, .ref a2, .ref a3, .int (nI n), .int sn, .int sg])), (a1, .inl (cI, 9, .inl fg)), (a2, .inl (cI, 9, .inl fb)), (a3, .inl (cI, 9, .inl fp)), (p4, .inl (cI, 9, .inl u.1)), (p5, .inl (cJ, len, .inr (.inl u.2.1))), (p6, .inl (cI, len, .inl u.2.2)), (s2, .inr (3, [.ref b1, .ref b2, .int pt, .int rc, .int (nI y)])), (b1, .inl (cJ, 320, .inr (.inl fw)))]) [0, 1, 2, 3, 4, 5, 6, 7, 8, 9] [] rfl rfl rfl (fun _ => rfl) (fun _ => rfl) rfl (fun _ => rfl) (fun _ => rfl) (m_cov rfl) (m_dis rfl) (fun u16 H locs w16r hP hD hS => ?_)
              obtain ⟨u16_uq, u16_ub, u16_uw⟩ := u16
              have hP : va_P D vwCl [(h0, .inr (1, [.ref h4, .ref s2, .ref s3, .ref p4, .ref p5, .ref p6, .int fr])), (h4, .inr (4, [.ref a1, .ref a2, .ref a3, .int (nI n), .int sn, .int sg])), (a1, .inl (cI, 9, .inl fg)), (a2, .inl (cI, 9, .inl fb)), (a3, .inl (cI, 9, .inl fp)), (p4, .inl (cI, 9, .inl u16_uq)), (p5, .inl (cJ, len, .inr (.inl u16_ub))), (p6, .inl (cI, len, .inl u16_uw)), (s2, .inr (3, [.ref b1, .ref b2, .int pt, .int rc, .int (nI y)])), (b1, .inl (cJ, 320, .inr (.inl fw)))] H := hP
              have hD : va_D (aA as) [(h0, .inr (1, [.ref h4, .ref s2, .ref s3, .ref p4, .ref p5, .ref p6, .int fr])), (h4, .inr (4, [.ref a1, .ref a2, .ref a3, .int (nI n), .int sn, .int sg])), (a1, .inl (cI, 9, .inl fg)), (a2, .inl (cI, 9, .inl fb)), (a3, .inl (cI, 9, .inl fp)), (p4, .inl (cI, 9, .inl u16_uq)), (p5, .inl (cJ, len, .inr (.inl u16_ub))), (p6, .inl (cI, len, .inl u16_uw)), (s2, .inr (3, [.ref b1, .ref b2, .int pt, .int rc, .int (nI y)])), (b1, .inl (cJ, 320, .inr (.inl fw)))] := hD
              have w16 : (∀ z, z < op → u16_uq z = u13_uq z) ∧ OKT (isG fw y) n fg fb fp u16_ub u16_uw ((sx + (3 ^ k))) := w16r
              clear w16r
              have hq139 := fun z hz => (w16.1 z hz).trans (hq88 z hz)
              have hok2 := w16.2
              refine lv_goto (tgt := 159) hx hb dX1_fill_142 (by decide) ?_
              refine lv_aload_n hx hb dX1_fill_159 rfl (lv_at hl 3 rfl) ?_
              refine va_get (D := D) (ci := 1) (v := .ref p4) (C := RX1) (T := TX1) (N := 7) hx hb hts hiX1 hown hK hP 0 rfl rfl 3 (by decide) hf9 (fun _ h9 => h9) rfl dX1_fill_160 ?_
              refine lv_iload hx hb dX1_fill_163 (lv_at hl 9 rfl) ?_
              refine lv_iload_n hx hb dX1_fill_165 rfl (lv_at hl 4 rfl) ?_
              refine va_iast hx hb hK hP hD hS 5 0 rfl rfl (i := nI op) (vp_in_nI (by omega) (by omega)) dX1_fill_166 (fun H locs hP hD hS => ?_)
              have hP : va_P D vwCl [(h0, .inr (1, [.ref h4, .ref s2, .ref s3, .ref p4, .ref p5, .ref p6, .int fr])), (h4, .inr (4, [.ref a1, .ref a2, .ref a3, .int (nI n), .int sn, .int sg])), (a1, .inl (cI, 9, .inl fg)), (a2, .inl (cI, 9, .inl fb)), (a3, .inl (cI, 9, .inl fp)), (p4, .inl (cI, 9, .inl (upd u16_uq (nI op).toNatClampNeg (nI k)))), (p5, .inl (cJ, len, .inr (.inl u16_ub))), (p6, .inl (cI, len, .inl u16_uw)), (s2, .inr (3, [.ref b1, .ref b2, .int pt, .int rc, .int (nI y)])), (b1, .inl (cJ, 320, .inr (.inl fw)))] H := hP
              have hD : va_D (aA as) [(h0, .inr (1, [.ref h4, .ref s2, .ref s3, .ref p4, .ref p5, .ref p6, .int fr])), (h4, .inr (4, [.ref a1, .ref a2, .ref a3, .int (nI n), .int sn, .int sg])), (a1, .inl (cI, 9, .inl fg)), (a2, .inl (cI, 9, .inl fb)), (a3, .inl (cI, 9, .inl fp)), (p4, .inl (cI, 9, .inl (upd u16_uq (nI op).toNatClampNeg (nI k)))), (p5, .inl (cJ, len, .inr (.inl u16_ub))), (p6, .inl (cI, len, .inl u16_uw)), (s2, .inr (3, [.ref b1, .ref b2, .int pt, .int rc, .int (nI y)])), (b1, .inl (cJ, 320, .inr (.inl fw)))] := hD
              rw [nI_clamp (n := op) (by omega)] at hP hD
              refine lv_aload_n hx hb dX1_fill_167 rfl (lv_at hl 3 rfl) ?_
              refine lv_iload_n hx hb dX1_fill_168 rfl (lv_at hl 4 rfl) ?_
              refine lv_iconst (v := nI 1) hx hb dX1_fill_169 (by decide) ?_
              refine lv_isub hx hb dX1_fill_170 ?_
              refine cn_i (y := pI k) (pI_sub k) ?_
              refine lv_iload_n hx hb dX1_fill_171 rfl (lv_at hl 5 rfl) ?_
              refine lv_iload_n hx hb dX1_fill_172 rfl (lv_at hl 6 rfl) ?_
              refine lv_iload hx hb dX1_fill_173 (lv_at hl 7 rfl) ?_
              refine lv_lload hx hb dX1_fill_175 (lv_at hl 8 rfl) ?_
              refine lv_aload_n hx hb dX1_fill_177 rfl (lv_at hl 3 rfl) ?_
              refine va_get (D := D) (ci := 1) (v := .ref h4) (C := RX1) (T := TX1) (N := 7) hx hb hts hiX1 hown hK hP 0 rfl rfl 0 (by decide) hf22 (fun _ h9 => h9) rfl dX1_fill_178 ?_
              refine va_getN (D := D) (ci := 4) (v := .ref a1) (C := RX4) (T := TX4) (N := 6) hx hb hts hiX4 hown hK hP 1 rfl rfl 0 (by decide) hf123 (fun _ h9 => h9) rfl dX1_fill_181 ?_
              refine lv_iload_n hx hb dX1_fill_184 rfl (lv_at hl 4 rfl) ?_
              refine va_iald hx hb hK hP 2 0 rfl rfl (i := nI k) (vp_in_nI (by omega) (by omega)) dX1_fill_185 ?_
              refine cn_i (y := fg k) (congrArg fg (nI_clamp (by omega))) ?_
              refine lv_aload_n hx hb dX1_fill_186 rfl (lv_at hl 3 rfl) ?_
              refine va_get (D := D) (ci := 1) (v := .ref h4) (C := RX1) (T := TX1) (N := 7) hx hb hts hiX1 hown hK hP 0 rfl rfl 0 (by decide) hf22 (fun _ h9 => h9) rfl dX1_fill_187 ?_
              refine va_getN (D := D) (ci := 4) (v := .ref a2) (C := RX4) (T := TX4) (N := 6) hx hb hts hiX4 hown hK hP 1 rfl rfl 1 (by decide) hf126 (fun _ h9 => h9) rfl dX1_fill_190 ?_
              refine lv_iload_n hx hb dX1_fill_193 rfl (lv_at hl 4 rfl) ?_
              refine va_iald hx hb hK hP 3 0 rfl rfl (i := nI k) (vp_in_nI (by omega) (by omega)) dX1_fill_194 ?_
              refine cn_i (y := fb k) (congrArg fb (nI_clamp (by omega))) ?_
              refine lv_iadd hx hb dX1_fill_195 ?_
              refine lv_i2l hx hb dX1_fill_196 rfl ?_
              refine lv_lmul hx hb dX1_fill_197 ?_
              refine lv_iload hx hb dX1_fill_198 (lv_at hl 9 rfl) ?_
              refine lv_iconst (v := nI 1) hx hb dX1_fill_200 (by decide) ?_
              refine lv_iadd hx hb dX1_fill_201 ?_
              refine cn_i (y := nI (op + 1)) (nI_add op 1) ?_
              refine mu2_v (n := 10) (wc := [(h0, .inr (1, [.ref h4, .ref s2, .ref s3, .ref p4, .ref p5, .ref p6, .int fr])), (h4, .inr (4, [.ref a1, .ref a2, .ref a3, .int (nI n), .int sn, .int sg])), (a1, .inl (cI, 9, .inl fg)), (a2, .inl (cI, 9, .inl fb)), (a3, .inl (cI, 9, .inl fp)), (p4, .inl (cI, 9, .inl (upd u16_uq op (nI k)))), (p5, .inl (cJ, len, .inr (.inl u16_ub))), (p6, .inl (cI, len, .inl u16_uw)), (s2, .inr (3, [.ref b1, .ref b2, .int pt, .int rc, .int (nI y)])), (b1, .inl (cJ, 320, .inr (.inl fw)))]) (wr := []) (as0 := [h0, h4, a1, a2, a3, p4, p5, p6, s2, b1]) (va_runV (As := [.int (pI k), .int (nI sx), .int (nI lo), .int (nI hi), .long (le * (((fg k) + (fb k)).toInt64)), .int (nI (op + 1))]) (rest := []) ⟨hx, hb, hml, hown, hts⟩ (ih h0 h4 s2 s3 p4 p5 p6 a1 a2 a3 n b1 b2 y sx lo hi (op + 1) len pt rc sn sg fr (le * (((fg k) + (fb k)).toInt64)) fg fb fp (upd u16_uq op (nI k)) u16_ub u16_uw fw (fun z9 => if z9 = op then k else gx z9) (by first | assumption | omega) (by first | assumption | omega) (by first | assumption | omega) (by first | assumption | omega) (by first | assumption | omega) (by exact hFI.skip) (by exact fun z hz => by by_cases e9 : z = op; exact (by simp [upd, e9]); exact (by rw [upd_eq, if_neg e9, if_neg e9]; exact (hq139 z (by omega)).trans (hfq z (by omega)))) (by exact hok2) ((nz3.D hD hzA htA).sub [0, 1, 2, 3, 4, 5, 6, 7, 8, 9] rfl)) (cwV 6 hts gX1_fill_X1_fill rfl rfl rfl (by decide +kernel) ⟨(show k + 2 + 1 ≤ (k + 1) + 2 by omega), (show 8 + (11 + 11) + (k * 30 + 43) ≤ (k + 1) * 30 + 43 by omega)⟩) ⟨pmT_blind, va_recv hK hP (ci := 1) (q0 := 0) rfl rfl, fun U hU hW => ⟨rfl, by rw [hU]; exact hP.sub (ws' := [(h0, .inr (1, [.ref h4, .ref s2, .ref s3, .ref p4, .ref p5, .ref p6, .int fr])), (h4, .inr (4, [.ref a1, .ref a2, .ref a3, .int (nI n), .int sn, .int sg])), (a1, .inl (cI, 9, .inl fg)), (a2, .inl (cI, 9, .inl fb)), (a3, .inl (cI, 9, .inl fp)), (p4, .inl (cI, 9, .inl (upd u16_uq op (nI k)))), (p5, .inl (cJ, len, .inr (.inl u16_ub))), (p6, .inl (cI, len, .inl u16_uw)), (s2, .inr (3, [.ref b1, .ref b2, .int pt, .int rc, .int (nI y)])), (b1, .inl (cJ, 320, .inr (.inl fw)))]) [0, 1, 2, 3, 4, 5, 6, 7, 8, 9] rfl, hKN.warm hW, hT0.go hS hzA htA hW hU, (hD.sub (ws' := [(h0, .inr (1, [.ref h4, .ref s2, .ref s3, .ref p4, .ref p5, .ref p6, .int fr])), (h4, .inr (4, [.ref a1, .ref a2, .ref a3, .int (nI n), .int sn, .int sg])), (a1, .inl (cI, 9, .inl fg)), (a2, .inl (cI, 9, .inl fb)), (a3, .inl (cI, 9, .inl fp)), (p4, .inl (cI, 9, .inl (upd u16_uq op (nI k)))), (p5, .inl (cJ, len, .inr (.inl u16_ub))), (p6, .inl (cI, len, .inl u16_uw)), (s2, .inr (3, [.ref b1, .ref b2, .int pt, .int rc, .int (nI y)])), (b1, .inl (cJ, 320, .inr (.inl fw)))]) [0, 1, 2, 3, 4, 5, 6, 7, 8, 9] (by decide) rfl).weaken (fun _ _ _ _ => trivial)⟩⟩ rfl rfl hl.1 rfl (lv_room (Nat.le_of_ble_eq_true rfl)) dX1_fill_202 ⟨Nat.le_of_ble_eq_true rfl, Nat.le_of_ble_eq_true rfl⟩) hS hP hD (fun (u : (Nat → Int32) × (Nat → Int64) × (Nat → Int32)) => [(h0, .inr (1, [.ref h4, .ref s2, .ref s3, .ref p4, .ref p5, .ref p6, .int fr])), (h4, .inr (4, [.ref a1, .ref a2, .ref a3, .int (nI n), .int sn, .int sg])), (a1, .inl (cI, 9, .inl fg)), (a2, .inl (cI, 9, .inl fb)), (a3, .inl (cI, 9, .inl fp)), (p4, .inl (cI, 9, .inl u.1)), (p5, .inl (cJ, len, .inr (.inl u.2.1))), (p6, .inl (cI, len, .inl u.2.2)), (s2, .inr (3, [.ref b1, .ref b2, .int pt, .int rc, .int (nI y)])), (b1, .inl (cJ, 320, .inr (.inl fw)))]) [0, 1, 2, 3, 4, 5, 6, 7, 8, 9] [] rfl rfl rfl (fun _ => rfl) (fun _ => rfl) rfl (fun _ => rfl) (fun _ => rfl) (m_cov rfl) (m_dis rfl) (fun u17 H locs w17r hP hD hS => ?_)
              obtain ⟨u17_uq, u17_ub, u17_uw⟩ := u17
              have hP : va_P D vwCl [(h0, .inr (1, [.ref h4, .ref s2, .ref s3, .ref p4, .ref p5, .ref p6, .int fr])), (h4, .inr (4, [.ref a1, .ref a2, .ref a3, .int (nI n), .int sn, .int sg])), (a1, .inl (cI, 9, .inl fg)), (a2, .inl (cI, 9, .inl fb)), (a3, .inl (cI, 9, .inl fp)), (p4, .inl (cI, 9, .inl u17_uq)), (p5, .inl (cJ, len, .inr (.inl u17_ub))), (p6, .inl (cI, len, .inl u17_uw)), (s2, .inr (3, [.ref b1, .ref b2, .int pt, .int rc, .int (nI y)])), (b1, .inl (cJ, 320, .inr (.inl fw)))] H := hP
              have hD : va_D (aA as) [(h0, .inr (1, [.ref h4, .ref s2, .ref s3, .ref p4, .ref p5, .ref p6, .int fr])), (h4, .inr (4, [.ref a1, .ref a2, .ref a3, .int (nI n), .int sn, .int sg])), (a1, .inl (cI, 9, .inl fg)), (a2, .inl (cI, 9, .inl fb)), (a3, .inl (cI, 9, .inl fp)), (p4, .inl (cI, 9, .inl u17_uq)), (p5, .inl (cJ, len, .inr (.inl u17_ub))), (p6, .inl (cI, len, .inl u17_uw)), (s2, .inr (3, [.ref b1, .ref b2, .int pt, .int rc, .int (nI y)])), (b1, .inl (cJ, 320, .inr (.inl fw)))] := hD
              have w17 : (∀ z, z < (op + 1) → u17_uq z = (upd u16_uq op (nI k)) z) ∧ OKT (isG fw y) n fg fb fp u17_ub u17_uw (sx) := w17r
              clear w17r
              rw [← hQ]
              exact W.vret hx hb hr (fun tS htS hWS => ⟨⟨(u17_uq, u17_ub, u17_uw), rfl, ⟨fun z hz => (w17.1 z (by omega)).trans ((upd_eq.trans (if_neg (by omega))).trans (hq139 z hz)), w17.2⟩, m_at htS hP⟩, by rw [← has]; exact hS.F htS⟩) (by rw [← has]; exact hS.2.2) dX1_fill_205
          · skip
            have hbN := w14
            refine lv_if_eq (tgt := 145) hx hb dX1_fill_110 (by decide) (fun c18 => ?_) (fun c18 => ?_)
            · skip
              refine lv_aload_n hx hb dX1_fill_145 rfl (lv_at hl 3 rfl) ?_
              refine lv_iload_n hx hb dX1_fill_146 rfl (lv_at hl 5 rfl) ?_
              refine lv_iload hx hb dX1_fill_147 (lv_at hl 2 rfl) ?_
              refine lv_iadd hx hb dX1_fill_149 ?_
              refine cn_i (y := nI (sx + (3 ^ k))) (nI_add sx (3 ^ k)) ?_
              refine lv_iload_n hx hb dX1_fill_150 rfl (lv_at hl 5 rfl) ?_
              refine lv_iconst (v := nI 2) hx hb dX1_fill_151 (by decide) ?_
              refine lv_iload hx hb dX1_fill_152 (lv_at hl 2 rfl) ?_
              refine lv_imul hx hb dX1_fill_154 ?_
              refine cn_i (y := nI (2 * (3 ^ k))) (pk_mul 2 (3 ^ k)) ?_
              refine lv_iadd hx hb dX1_fill_155 ?_
              refine cn_i (y := nI (sx + (2 * (3 ^ k)))) (nI_add sx (2 * (3 ^ k))) ?_
              refine mu2_v (n := 10) (wc := [(h0, .inr (1, [.ref h4, .ref s2, .ref s3, .ref p4, .ref p5, .ref p6, .int fr])), (p5, .inl (cJ, len, .inr (.inl u13_ub))), (p6, .inl (cI, len, .inl u13_uw))]) (wr := [(h4, .inr (4, [.ref a1, .ref a2, .ref a3, .int (nI n), .int sn, .int sg])), (a1, .inl (cI, 9, .inl fg)), (a2, .inl (cI, 9, .inl fb)), (a3, .inl (cI, 9, .inl fp)), (p4, .inl (cI, 9, .inl u13_uq)), (s2, .inr (3, [.ref b1, .ref b2, .int pt, .int rc, .int (nI y)])), (b1, .inl (cJ, 320, .inr (.inl fw)))]) (as0 := [h0, h4, a1, a2, a3, p4, p5, p6, s2, b1]) (va_runV (As := [.int (nI (sx + (3 ^ k))), .int (nI (sx + (2 * (3 ^ k))))]) (rest := []) ⟨hx, hb, hml, hown, hts⟩ (c_X1_fillSure_v l D cI cJ cZ h0 h4 s2 s3 p4 p5 p6 a1 a2 a3 n (sx + (3 ^ k)) (sx + (2 * (3 ^ k))) len fr u13_ub u13_uw (by first | assumption | omega) (by first | assumption | omega) (by first | assumption | omega)) (cwV 2 hts gX1_fill_X1_fillSure rfl rfl rfl (by decide +kernel) ⟨(show 0 + 1 ≤ (k + 1) + 2 by omega), (show 8 + (4 + 11) + (0) ≤ (k + 1) * 30 + 43 by omega)⟩) ⟨pm_blind, va_recv hK hP (ci := 1) (q0 := 0) rfl rfl, fun U hU hW => ⟨rfl, by rw [hU]; exact hP.sub (ws' := [(h0, .inr (1, [.ref h4, .ref s2, .ref s3, .ref p4, .ref p5, .ref p6, .int fr])), (p5, .inl (cJ, len, .inr (.inl u13_ub))), (p6, .inl (cI, len, .inl u13_uw))]) [0, 6, 7] rfl, hKN.warm hW, (hD.sub (ws' := [(h0, .inr (1, [.ref h4, .ref s2, .ref s3, .ref p4, .ref p5, .ref p6, .int fr])), (p5, .inl (cJ, len, .inr (.inl u13_ub))), (p6, .inl (cI, len, .inl u13_uw))]) [0, 6, 7] (by decide) rfl).weaken (fun _ _ _ _ => trivial)⟩⟩ rfl rfl hl.1 rfl (lv_room (Nat.le_of_ble_eq_true rfl)) dX1_fill_156 ⟨Nat.le_of_ble_eq_true rfl, Nat.le_of_ble_eq_true rfl⟩) hS hP hD (fun (u : (Nat → Int64) × (Nat → Int32)) => [(h0, .inr (1, [.ref h4, .ref s2, .ref s3, .ref p4, .ref p5, .ref p6, .int fr])), (h4, .inr (4, [.ref a1, .ref a2, .ref a3, .int (nI n), .int sn, .int sg])), (a1, .inl (cI, 9, .inl fg)), (a2, .inl (cI, 9, .inl fb)), (a3, .inl (cI, 9, .inl fp)), (p4, .inl (cI, 9, .inl u13_uq)), (p5, .inl (cJ, len, .inr (.inl u.1))), (p6, .inl (cI, len, .inl u.2)), (s2, .inr (3, [.ref b1, .ref b2, .int pt, .int rc, .int (nI y)])), (b1, .inl (cJ, 320, .inr (.inl fw)))]) [0, 6, 7] [1, 2, 3, 4, 5, 8, 9] rfl rfl rfl (fun _ => rfl) (fun _ => rfl) rfl (fun _ => rfl) (fun _ => rfl) (m_cov rfl) (m_dis rfl) (fun u19 H locs w19r hP hD hS => ?_)
              obtain ⟨u19_ub, u19_uw⟩ := u19
              have hP : va_P D vwCl [(h0, .inr (1, [.ref h4, .ref s2, .ref s3, .ref p4, .ref p5, .ref p6, .int fr])), (h4, .inr (4, [.ref a1, .ref a2, .ref a3, .int (nI n), .int sn, .int sg])), (a1, .inl (cI, 9, .inl fg)), (a2, .inl (cI, 9, .inl fb)), (a3, .inl (cI, 9, .inl fp)), (p4, .inl (cI, 9, .inl u13_uq)), (p5, .inl (cJ, len, .inr (.inl u19_ub))), (p6, .inl (cI, len, .inl u19_uw)), (s2, .inr (3, [.ref b1, .ref b2, .int pt, .int rc, .int (nI y)])), (b1, .inl (cJ, 320, .inr (.inl fw)))] H := hP
              have hD : va_D (aA as) [(h0, .inr (1, [.ref h4, .ref s2, .ref s3, .ref p4, .ref p5, .ref p6, .int fr])), (h4, .inr (4, [.ref a1, .ref a2, .ref a3, .int (nI n), .int sn, .int sg])), (a1, .inl (cI, 9, .inl fg)), (a2, .inl (cI, 9, .inl fb)), (a3, .inl (cI, 9, .inl fp)), (p4, .inl (cI, 9, .inl u13_uq)), (p5, .inl (cJ, len, .inr (.inl u19_ub))), (p6, .inl (cI, len, .inl u19_uw)), (s2, .inr (3, [.ref b1, .ref b2, .int pt, .int rc, .int (nI y)])), (b1, .inl (cJ, 320, .inr (.inl fw)))] := hD
              have w19 : ZER (sx + (3 ^ k)) (sx + (2 * (3 ^ k))) u13_ub u13_uw u19_ub u19_uw := w19r
              clear w19r
              have hq139 := hq88
              have hok2 := hFI.fillB hn hmon hbN hok1 w19
              refine lv_aload_n hx hb dX1_fill_159 rfl (lv_at hl 3 rfl) ?_
              refine va_get (D := D) (ci := 1) (v := .ref p4) (C := RX1) (T := TX1) (N := 7) hx hb hts hiX1 hown hK hP 0 rfl rfl 3 (by decide) hf9 (fun _ h9 => h9) rfl dX1_fill_160 ?_
              refine lv_iload hx hb dX1_fill_163 (lv_at hl 9 rfl) ?_
              refine lv_iload_n hx hb dX1_fill_165 rfl (lv_at hl 4 rfl) ?_
              refine va_iast hx hb hK hP hD hS 5 0 rfl rfl (i := nI op) (vp_in_nI (by omega) (by omega)) dX1_fill_166 (fun H locs hP hD hS => ?_)
              have hP : va_P D vwCl [(h0, .inr (1, [.ref h4, .ref s2, .ref s3, .ref p4, .ref p5, .ref p6, .int fr])), (h4, .inr (4, [.ref a1, .ref a2, .ref a3, .int (nI n), .int sn, .int sg])), (a1, .inl (cI, 9, .inl fg)), (a2, .inl (cI, 9, .inl fb)), (a3, .inl (cI, 9, .inl fp)), (p4, .inl (cI, 9, .inl (upd u13_uq (nI op).toNatClampNeg (nI k)))), (p5, .inl (cJ, len, .inr (.inl u19_ub))), (p6, .inl (cI, len, .inl u19_uw)), (s2, .inr (3, [.ref b1, .ref b2, .int pt, .int rc, .int (nI y)])), (b1, .inl (cJ, 320, .inr (.inl fw)))] H := hP
              have hD : va_D (aA as) [(h0, .inr (1, [.ref h4, .ref s2, .ref s3, .ref p4, .ref p5, .ref p6, .int fr])), (h4, .inr (4, [.ref a1, .ref a2, .ref a3, .int (nI n), .int sn, .int sg])), (a1, .inl (cI, 9, .inl fg)), (a2, .inl (cI, 9, .inl fb)), (a3, .inl (cI, 9, .inl fp)), (p4, .inl (cI, 9, .inl (upd u13_uq (nI op).toNatClampNeg (nI k)))), (p5, .inl (cJ, len, .inr (.inl u19_ub))), (p6, .inl (cI, len, .inl u19_uw)), (s2, .inr (3, [.ref b1, .ref b2, .int pt, .int rc, .int (nI y)])), (b1, .inl (cJ, 320, .inr (.inl fw)))] := hD
              rw [nI_clamp (n := op) (by omega)] at hP hD
              refine lv_aload_n hx hb dX1_fill_167 rfl (lv_at hl 3 rfl) ?_
              refine lv_iload_n hx hb dX1_fill_168 rfl (lv_at hl 4 rfl) ?_
              refine lv_iconst (v := nI 1) hx hb dX1_fill_169 (by decide) ?_
              refine lv_isub hx hb dX1_fill_170 ?_
              refine cn_i (y := pI k) (pI_sub k) ?_
              refine lv_iload_n hx hb dX1_fill_171 rfl (lv_at hl 5 rfl) ?_
              refine lv_iload_n hx hb dX1_fill_172 rfl (lv_at hl 6 rfl) ?_
              refine lv_iload hx hb dX1_fill_173 (lv_at hl 7 rfl) ?_
              refine lv_lload hx hb dX1_fill_175 (lv_at hl 8 rfl) ?_
              refine lv_aload_n hx hb dX1_fill_177 rfl (lv_at hl 3 rfl) ?_
              refine va_get (D := D) (ci := 1) (v := .ref h4) (C := RX1) (T := TX1) (N := 7) hx hb hts hiX1 hown hK hP 0 rfl rfl 0 (by decide) hf22 (fun _ h9 => h9) rfl dX1_fill_178 ?_
              refine va_getN (D := D) (ci := 4) (v := .ref a1) (C := RX4) (T := TX4) (N := 6) hx hb hts hiX4 hown hK hP 1 rfl rfl 0 (by decide) hf123 (fun _ h9 => h9) rfl dX1_fill_181 ?_
              refine lv_iload_n hx hb dX1_fill_184 rfl (lv_at hl 4 rfl) ?_
              refine va_iald hx hb hK hP 2 0 rfl rfl (i := nI k) (vp_in_nI (by omega) (by omega)) dX1_fill_185 ?_
              refine cn_i (y := fg k) (congrArg fg (nI_clamp (by omega))) ?_
              refine lv_aload_n hx hb dX1_fill_186 rfl (lv_at hl 3 rfl) ?_
              refine va_get (D := D) (ci := 1) (v := .ref h4) (C := RX1) (T := TX1) (N := 7) hx hb hts hiX1 hown hK hP 0 rfl rfl 0 (by decide) hf22 (fun _ h9 => h9) rfl dX1_fill_187 ?_
              refine va_getN (D := D) (ci := 4) (v := .ref a2) (C := RX4) (T := TX4) (N := 6) hx hb hts hiX4 hown hK hP 1 rfl rfl 1 (by decide) hf126 (fun _ h9 => h9) rfl dX1_fill_190 ?_
              refine lv_iload_n hx hb dX1_fill_193 rfl (lv_at hl 4 rfl) ?_
              refine va_iald hx hb hK hP 3 0 rfl rfl (i := nI k) (vp_in_nI (by omega) (by omega)) dX1_fill_194 ?_
              refine cn_i (y := fb k) (congrArg fb (nI_clamp (by omega))) ?_
              refine lv_iadd hx hb dX1_fill_195 ?_
              refine lv_i2l hx hb dX1_fill_196 rfl ?_
              refine lv_lmul hx hb dX1_fill_197 ?_
              refine lv_iload hx hb dX1_fill_198 (lv_at hl 9 rfl) ?_
              refine lv_iconst (v := nI 1) hx hb dX1_fill_200 (by decide) ?_
              refine lv_iadd hx hb dX1_fill_201 ?_
              refine cn_i (y := nI (op + 1)) (nI_add op 1) ?_
              refine mu2_v (n := 10) (wc := [(h0, .inr (1, [.ref h4, .ref s2, .ref s3, .ref p4, .ref p5, .ref p6, .int fr])), (h4, .inr (4, [.ref a1, .ref a2, .ref a3, .int (nI n), .int sn, .int sg])), (a1, .inl (cI, 9, .inl fg)), (a2, .inl (cI, 9, .inl fb)), (a3, .inl (cI, 9, .inl fp)), (p4, .inl (cI, 9, .inl (upd u13_uq op (nI k)))), (p5, .inl (cJ, len, .inr (.inl u19_ub))), (p6, .inl (cI, len, .inl u19_uw)), (s2, .inr (3, [.ref b1, .ref b2, .int pt, .int rc, .int (nI y)])), (b1, .inl (cJ, 320, .inr (.inl fw)))]) (wr := []) (as0 := [h0, h4, a1, a2, a3, p4, p5, p6, s2, b1]) (va_runV (As := [.int (pI k), .int (nI sx), .int (nI lo), .int (nI hi), .long (le * (((fg k) + (fb k)).toInt64)), .int (nI (op + 1))]) (rest := []) ⟨hx, hb, hml, hown, hts⟩ (ih h0 h4 s2 s3 p4 p5 p6 a1 a2 a3 n b1 b2 y sx lo hi (op + 1) len pt rc sn sg fr (le * (((fg k) + (fb k)).toInt64)) fg fb fp (upd u13_uq op (nI k)) u19_ub u19_uw fw (fun z9 => if z9 = op then k else gx z9) (by first | assumption | omega) (by first | assumption | omega) (by first | assumption | omega) (by first | assumption | omega) (by first | assumption | omega) (by exact hFI.skip) (by exact fun z hz => by by_cases e9 : z = op; exact (by simp [upd, e9]); exact (by rw [upd_eq, if_neg e9, if_neg e9]; exact (hq139 z (by omega)).trans (hfq z (by omega)))) (by exact hok2) ((nz3.D hD hzA htA).sub [0, 1, 2, 3, 4, 5, 6, 7, 8, 9] rfl)) (cwV 6 hts gX1_fill_X1_fill rfl rfl rfl (by decide +kernel) ⟨(show k + 2 + 1 ≤ (k + 1) + 2 by omega), (show 8 + (11 + 11) + (k * 30 + 43) ≤ (k + 1) * 30 + 43 by omega)⟩) ⟨pmT_blind, va_recv hK hP (ci := 1) (q0 := 0) rfl rfl, fun U hU hW => ⟨rfl, by rw [hU]; exact hP.sub (ws' := [(h0, .inr (1, [.ref h4, .ref s2, .ref s3, .ref p4, .ref p5, .ref p6, .int fr])), (h4, .inr (4, [.ref a1, .ref a2, .ref a3, .int (nI n), .int sn, .int sg])), (a1, .inl (cI, 9, .inl fg)), (a2, .inl (cI, 9, .inl fb)), (a3, .inl (cI, 9, .inl fp)), (p4, .inl (cI, 9, .inl (upd u13_uq op (nI k)))), (p5, .inl (cJ, len, .inr (.inl u19_ub))), (p6, .inl (cI, len, .inl u19_uw)), (s2, .inr (3, [.ref b1, .ref b2, .int pt, .int rc, .int (nI y)])), (b1, .inl (cJ, 320, .inr (.inl fw)))]) [0, 1, 2, 3, 4, 5, 6, 7, 8, 9] rfl, hKN.warm hW, hT0.go hS hzA htA hW hU, (hD.sub (ws' := [(h0, .inr (1, [.ref h4, .ref s2, .ref s3, .ref p4, .ref p5, .ref p6, .int fr])), (h4, .inr (4, [.ref a1, .ref a2, .ref a3, .int (nI n), .int sn, .int sg])), (a1, .inl (cI, 9, .inl fg)), (a2, .inl (cI, 9, .inl fb)), (a3, .inl (cI, 9, .inl fp)), (p4, .inl (cI, 9, .inl (upd u13_uq op (nI k)))), (p5, .inl (cJ, len, .inr (.inl u19_ub))), (p6, .inl (cI, len, .inl u19_uw)), (s2, .inr (3, [.ref b1, .ref b2, .int pt, .int rc, .int (nI y)])), (b1, .inl (cJ, 320, .inr (.inl fw)))]) [0, 1, 2, 3, 4, 5, 6, 7, 8, 9] (by decide) rfl).weaken (fun _ _ _ _ => trivial)⟩⟩ rfl rfl hl.1 rfl (lv_room (Nat.le_of_ble_eq_true rfl)) dX1_fill_202 ⟨Nat.le_of_ble_eq_true rfl, Nat.le_of_ble_eq_true rfl⟩) hS hP hD (fun (u : (Nat → Int32) × (Nat → Int64) × (Nat → Int32)) => [(h0, .inr (1, [.ref h4, .ref s2, .ref s3, .ref p4, .ref p5, .ref p6, .int fr])), (h4, .inr (4, [.ref a1, .ref a2, .ref a3, .int (nI n), .int sn, .int sg])), (a1, .inl (cI, 9, .inl fg)), (a2, .inl (cI, 9, .inl fb)), (a3, .inl (cI, 9, .inl fp)), (p4, .inl (cI, 9, .inl u.1)), (p5, .inl (cJ, len, .inr (.inl u.2.1))), (p6, .inl (cI, len, .inl u.2.2)), (s2, .inr (3, [.ref b1, .ref b2, .int pt, .int rc, .int (nI y)])), (b1, .inl (cJ, 320, .inr (.inl fw)))]) [0, 1, 2, 3, 4, 5, 6, 7, 8, 9] [] rfl rfl rfl (fun _ => rfl) (fun _ => rfl) rfl (fun _ => rfl) (fun _ => rfl) (m_cov rfl) (m_dis rfl) (fun u20 H locs w20r hP hD hS => ?_)
              obtain ⟨u20_uq, u20_ub, u20_uw⟩ := u20
              have hP : va_P D vwCl [(h0, .inr (1, [.ref h4, .ref s2, .ref s3, .ref p4, .ref p5, .ref p6, .int fr])), (h4, .inr (4, [.ref a1, .ref a2, .ref a3, .int (nI n), .int sn, .int sg])), (a1, .inl (cI, 9, .inl fg)), (a2, .inl (cI, 9, .inl fb)), (a3, .inl (cI, 9, .inl fp)), (p4, .inl (cI, 9, .inl u20_uq)), (p5, .inl (cJ, len, .inr (.inl u20_ub))), (p6, .inl (cI, len, .inl u20_uw)), (s2, .inr (3, [.ref b1, .ref b2, .int pt, .int rc, .int (nI y)])), (b1, .inl (cJ, 320, .inr (.inl fw)))] H := hP
              have hD : va_D (aA as) [(h0, .inr (1, [.ref h4, .ref s2, .ref s3, .ref p4, .ref p5, .ref p6, .int fr])), (h4, .inr (4, [.ref a1, .ref a2, .ref a3, .int (nI n), .int sn, .int sg])), (a1, .inl (cI, 9, .inl fg)), (a2, .inl (cI, 9, .inl fb)), (a3, .inl (cI, 9, .inl fp)), (p4, .inl (cI, 9, .inl u20_uq)), (p5, .inl (cJ, len, .inr (.inl u20_ub))), (p6, .inl (cI, len, .inl u20_uw)), (s2, .inr (3, [.ref b1, .ref b2, .int pt, .int rc, .int (nI y)])), (b1, .inl (cJ, 320, .inr (.inl fw)))] := hD
              have w20 : (∀ z, z < (op + 1) → u20_uq z = (upd u13_uq op (nI k)) z) ∧ OKT (isG fw y) n fg fb fp u20_ub u20_uw (sx) := w20r
              clear w20r
              rw [← hQ]
              exact W.vret hx hb hr (fun tS htS hWS => ⟨⟨(u20_uq, u20_ub, u20_uw), rfl, ⟨fun z hz => (w20.1 z (by omega)).trans ((upd_eq.trans (if_neg (by omega))).trans (hq139 z hz)), w20.2⟩, m_at htS hP⟩, by rw [← has]; exact hS.F htS⟩) (by rw [← has]; exact hS.2.2) dX1_fill_205
            · exact absurd c18 (by first | decide | exact nz_lt (by omega) | exact fun h => h (nz_ge (by omega)))
        · exact absurd c12 (by first | decide | exact nz_lt (by omega) | exact fun h => h (nz_ge (by omega)))
    · exact absurd c1 (by first | decide | exact nz_lt (by omega) | exact fun h => h (nz_ge (by omega)))
