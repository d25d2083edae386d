def rm_c_X0_goodWeights : Room := { frames := 2, cells := 0, slots := 0, locals := 46 }
set_option maxHeartbeats 400000 in
set_option maxRecDepth 100000 in
theorem c_X0_goodWeights (l : Launch) (D : va_G) (cI cJ cZ : ClassId) (h0 : Nat) (h4 : Nat) (h3 : Nat) (l3 : Nat) (a1 : Nat) (a2 : Nat) (a3 : Nat) (b1 : Nat) (b2 : Nat) (n : Nat) (y : Nat) (sn : Int32) (sg : Int32) (rc : Int32) (fg : Nat → Int32) (fb : Nat → Int32) (fp : Nat → Int32) (fw : Nat → Int64) (hn : n ≤ 9) (hy : y < 40) : Met l yX0_goodWeights wsX0_goodWeights rm_c_X0_goodWeights (pc_ D cI cJ cZ [.ref h0] [(h0, .inr (0, [.ref h4, .ref h3, .ref l3])), (h4, .inr (4, [.ref a1, .ref a2, .ref a3, .int (nI n), .int sn, .int sg])), (a1, .inl (cI, 9, .inl fg)), (a2, .inl (cI, 9, .inl fb)), (a3, .inl (cI, 9, .inl fp)), (h3, .inr (3, [.ref b1, .ref b2, .int (nI n), .int rc, .int (nI y)])), (b1, .inl (cJ, 320, .inr (.inl fw)))]) (va_Ql (fun (r : Int64) (_ : Unit) => True) (fun _ _ => True) aN) 0 0 aN := by
  refine Met.ofW (cc := cX0_goodWeights) (maxL := 4) (ret := (some .long)) (by decide) rfl ?_
  intro p e s m args below meth c s₁ B hml hv
  obtain ⟨rfl, hP, hKN⟩ := hv
  have hK := hKN.1
  have hx := B.exec
  have hb := B.bytes
  have hr := B.returns
  have hts := atoms_spec (ws := wsX0_goodWeights) B.pre
  have hown : s.vm.findClass RX0 = some m.cls := findClass_of_methodNamed B.named
  have hlocks := B.notSynchronized
  have hiX0 : ∀ w ∈ wsX00, w ∈ wsX0_goodWeights := by decide +kernel
  have hiX4 : ∀ w ∈ wsX40, w ∈ wsX0_goodWeights := by decide +kernel
  have hf15 := hts (.fieldLink RX0 15 "LookBench$Bounds" "shelf" "LLookBench$Shelf;") (by decide +kernel)
  have hf19 := hts (.fieldLink RX0 19 "LookBench$Bounds" "rules" "LLookBench$Rules;") (by decide +kernel)
  have hf23 := va_Nw.use (A := [.ref h0].toArray) rfl (hKN.2 (.fieldLinkNest RX0 23 RX4 "count" "I" RX6) (by decide +kernel))
  have hS : va_S aN s.heap s.heap [] := va_S.rf
  have hl := lv_entry ([.ref h0]) (n := 4) (Nat.le_of_ble_eq_true rfl)
  rw [lg_entry_eq]
  generalize (lg_sl ([.ref h0]) ++ List.replicate (4 - (lg_sl ([.ref h0])).length) Slot.unset).toArray = ls at hl ⊢
  have hl : lv_has ls 4 [(0, .ref h0)] := hl
  generalize hQ : MQ below _ _ s _ _ _ = Q
  obtain ⟨H, hH⟩ : ∃ z, z = s.heap := ⟨_, rfl⟩
  have hP : va_P D vwCl [(h0, .inr (0, [.ref h4, .ref h3, .ref l3])), (h4, .inr (4, [.ref a1, .ref a2, .ref a3, .int (nI n), .int sn, .int sg])), (a1, .inl (cI, 9, .inl fg)), (a2, .inl (cI, 9, .inl fb)), (a3, .inl (cI, 9, .inl fp)), (h3, .inr (3, [.ref b1, .ref b2, .int (nI n), .int rc, .int (nI y)])), (b1, .inl (cJ, 320, .inr (.inl fw)))] H := by rw [hH]; exact hP
  have hS : va_S aN s.heap H [] := by rw [hH]; exact hS
  refine m_heap hH ?_
  clear hH
  have h2n := m_pow hn
  have h2p := m_powp n
  refine lv_lconst (v := lN 0) hx hb dX0_goodWeights_0 (by decide) ?_
  refine lv_lstore_n (lv' := [(1, .long (lN 0)), (0, .ref h0)]) hx hb dX0_goodWeights_1 rfl hl (by decide) rfl (fun ls hl => ?_)
  refine lv_iconst (v := nI 0) hx hb dX0_goodWeights_2 (by decide) ?_
  refine lv_istore_n (lv' := [(3, .int (nI 0)), (1, .long (lN 0)), (0, .ref h0)]) hx hb dX0_goodWeights_3 rfl hl (by decide) rfl (fun ls hl => ?_)
  have loop1 : ∀ (fu : Nat) (k : Nat) (v : Int64) (H : Heap) (locs : List Loc) (ls : Array Slot), (k ≤ 2 ^ n ∧ 2 ^ n < k + fu) → va_P D vwCl [(h0, .inr (0, [.ref h4, .ref h3, .ref l3])), (h4, .inr (4, [.ref a1, .ref a2, .ref a3, .int (nI n), .int sn, .int sg])), (a1, .inl (cI, 9, .inl fg)), (a2, .inl (cI, 9, .inl fb)), (a3, .inl (cI, 9, .inl fp)), (h3, .inr (3, [.ref b1, .ref b2, .int (nI n), .int rc, .int (nI y)])), (b1, .inl (cJ, 320, .inr (.inl fw)))] H → va_S aN s.heap H locs → lv_has ls 4 [(3, .int (nI k)), (1, .long v), (0, .ref h0)] → W p l e (headSpec wsX0_goodWeights rm_c_X0_goodWeights).room s m ([.ref h0] : List Value).toArray below meth c H locs 0 0 Q (F0 m 4 ls []) := by
    intro fu
    induction fu with
    | zero => intro k v H locs ls hk; exact absurd hk (by omega)
    | succ fu ih1 =>
      intro k v H locs ls hk hP hS hl
      refine lv_iload_n hx hb dX0_goodWeights_4 rfl (lv_at hl 0 rfl) ?_
      refine lv_iconst (v := nI 1) hx hb dX0_goodWeights_5 (by decide) ?_
      refine lv_aload_n hx hb dX0_goodWeights_6 rfl (lv_at hl 2 rfl) ?_
      refine va_get (D := D) (ci := 0) (v := .ref h4) (C := RX0) (T := TX0) (N := 3) hx hb hts hiX0 hown hK hP 0 rfl rfl 0 (by decide) hf15 (fun _ h9 => h9) rfl dX0_goodWeights_7 ?_
      refine va_getN (D := D) (ci := 4) (v := .int (nI n)) (C := RX4) (T := TX4) (N := 6) hx hb hts hiX4 hown hK hP 1 rfl rfl 3 (by decide) hf23 (fun _ h9 => h9) rfl dX0_goodWeights_10 ?_
      refine lv_ishl hx hb dX0_goodWeights_13 ?_
      refine cn_i (y := nI (2 ^ n)) (m_shl1 (by omega)) ?_
      refine lv_icmp_ge (tgt := 56) hx hb dX0_goodWeights_14 (by decide) (fun c2 => ?_) (fun c2 => ?_)
      · skip
        have d2 := c2
        rw [nI_leI (by omega) (by omega)] at d2
        refine lv_lload_n hx hb dX0_goodWeights_56 rfl (lv_at hl 1 rfl) ?_
        rw [← hQ]
        exact W.lret (v := v) hx hb hr (fun tS htS hWS => ⟨⟨v, (), rfl, trivial, trivial⟩, hS.F htS⟩) hS.2.2 dX0_goodWeights_57
      · skip
        have d2 := c2
        rw [nI_leI (by omega) (by omega)] at d2
        refine lv_aload_n hx hb dX0_goodWeights_17 rfl (lv_at hl 2 rfl) ?_
        refine va_get (D := D) (ci := 0) (v := .ref h4) (C := RX0) (T := TX0) (N := 3) hx hb hts hiX0 hown hK hP 0 rfl rfl 0 (by decide) hf15 (fun _ h9 => h9) rfl dX0_goodWeights_18 ?_
        refine lv_iload_n hx hb dX0_goodWeights_21 rfl (lv_at hl 0 rfl) ?_
        refine pu_i (va_runV (As := [.int (nI k)]) (rest := []) ⟨hx, hb, hml, hown, hts⟩ (c_X4_fits l D cI cJ cZ h4 a1 a2 a3 (nI n) sn sg (nI k)) (cwV 1 hts gX0_goodWeights_X4_fits rfl rfl rfl (by decide +kernel) ⟨Nat.le_of_ble_eq_true rfl, Nat.le_of_ble_eq_true rfl⟩) ⟨pc_blind, va_recv hK hP (ci := 4) (q0 := 1) rfl rfl, fun U hU hW => ⟨rfl, by rw [hU]; exact hP.sub (ws' := [(h4, .inr (4, [.ref a1, .ref a2, .ref a3, .int (nI n), .int sn, .int sg]))]) [1] rfl, hKN.warm hW⟩⟩ rfl rfl hl.1 rfl (lv_room (Nat.le_of_ble_eq_true rfl)) dX0_goodWeights_22 ⟨Nat.le_of_ble_eq_true rfl, Nat.le_of_ble_eq_true rfl⟩) hS hP (fun r3 H locs w3r hP hS => ?_)
        have w3 : B01 r3 ((nI k) &&& sn = sg) := w3r
        clear w3r
        rcases w3 with ⟨rfl, w3⟩ | ⟨rfl, w3⟩
        · skip
          refine lv_if_eq (tgt := 50) hx hb dX0_goodWeights_25 (by decide) (fun c4 => ?_) (fun c4 => ?_)
          · exact absurd c4 (by first | decide | exact nz_lt (by omega) | exact fun h => h (nz_ge (by omega)))
          · skip
            refine lv_aload_n hx hb dX0_goodWeights_28 rfl (lv_at hl 2 rfl) ?_
            refine va_get (D := D) (ci := 0) (v := .ref h3) (C := RX0) (T := TX0) (N := 3) hx hb hts hiX0 hown hK hP 0 rfl rfl 1 (by decide) hf19 (fun _ h9 => h9) rfl dX0_goodWeights_29 ?_
            refine lv_iload_n hx hb dX0_goodWeights_32 rfl (lv_at hl 0 rfl) ?_
            refine pu_i (va_runV (As := [.int (nI k)]) (rest := []) ⟨hx, hb, hml, hown, hts⟩ (c_X3_isSystemGood l D cI cJ cZ h3 b1 b2 y k (nI n) rc fw (by first | assumption | omega) (by first | assumption | omega)) (cwV 1 hts gX0_goodWeights_X3_isSystemGood rfl rfl rfl (by decide +kernel) ⟨Nat.le_of_ble_eq_true rfl, Nat.le_of_ble_eq_true rfl⟩) ⟨pc_blind, va_recv hK hP (ci := 3) (q0 := 5) rfl rfl, fun U hU hW => ⟨rfl, by rw [hU]; exact hP.sub (ws' := [(h3, .inr (3, [.ref b1, .ref b2, .int (nI n), .int rc, .int (nI y)])), (b1, .inl (cJ, 320, .inr (.inl fw)))]) [5, 6] rfl, hKN.warm hW⟩⟩ rfl rfl hl.1 rfl (lv_room (Nat.le_of_ble_eq_true rfl)) dX0_goodWeights_33 ⟨Nat.le_of_ble_eq_true rfl, Nat.le_of_ble_eq_true rfl⟩) hS hP (fun r5 H locs w5r hP hS => ?_)
            have w5 : B01 r5 (isG fw y k) := w5r
            clear w5r
            rcases w5 with ⟨rfl, w5⟩ | ⟨rfl, w5⟩
            · skip
              refine lv_if_eq (tgt := 50) hx hb dX0_goodWeights_36 (by decide) (fun c6 => ?_) (fun c6 => ?_)
              · exact absurd c6 (by first | decide | exact nz_lt (by omega) | exact fun h => h (nz_ge (by omega)))
              · skip
                refine lv_lload_n hx hb dX0_goodWeights_39 rfl (lv_at hl 1 rfl) ?_
                refine lv_aload_n hx hb dX0_goodWeights_40 rfl (lv_at hl 2 rfl) ?_
                refine va_get (D := D) (ci := 0) (v := .ref h4) (C := RX0) (T := TX0) (N := 3) hx hb hts hiX0 hown hK hP 0 rfl rfl 0 (by decide) hf15 (fun _ h9 => h9) rfl dX0_goodWeights_41 ?_
                refine lv_iload_n hx hb dX0_goodWeights_44 rfl (lv_at hl 0 rfl) ?_
                refine pu_l (va_runV (As := [.int (nI k)]) (rest := [.long v]) ⟨hx, hb, hml, hown, hts⟩ (c_X4_weight l D cI cJ cZ h4 a1 a2 a3 n sn sg (nI k) fg fb (by first | assumption | omega)) (cwV 1 hts gX0_goodWeights_X4_weight rfl rfl rfl (by decide +kernel) ⟨Nat.le_of_ble_eq_true rfl, Nat.le_of_ble_eq_true rfl⟩) ⟨pc_blind, va_recv hK hP (ci := 4) (q0 := 1) rfl rfl, fun U hU hW => ⟨rfl, by rw [hU]; exact hP.sub (ws' := [(h4, .inr (4, [.ref a1, .ref a2, .ref a3, .int (nI n), .int sn, .int sg])), (a1, .inl (cI, 9, .inl fg)), (a2, .inl (cI, 9, .inl fb))]) [1, 2, 3] rfl, hKN.warm hW⟩⟩ rfl rfl hl.1 rfl (lv_room (Nat.le_of_ble_eq_true rfl)) dX0_goodWeights_45 ⟨Nat.le_of_ble_eq_true rfl, Nat.le_of_ble_eq_true rfl⟩) hS hP (fun r7 H locs w7r hP hS => ?_)
                have w7 : r7 = lf fg fb (nI (2 ^ n - 1)) (nI k) n := w7r
                clear w7r
                refine lv_ladd hx hb dX0_goodWeights_48 ?_
                refine lv_lstore_n (lv' := [(1, .long (v + r7)), (3, .int (nI k)), (0, .ref h0)]) hx hb dX0_goodWeights_49 rfl hl (by decide) rfl (fun ls hl => ?_)
                refine lv_iinc (v := nI (k + 1)) (lv' := [(3, .int (nI (k + 1))), (1, .long (v + r7)), (0, .ref h0)]) hx hb dX0_goodWeights_50 hl (k := 1) rfl (nI_1 k) (by decide) rfl (fun ls hl => ?_)
                refine lv_goto (tgt := 4) hx hb dX0_goodWeights_53 (by decide) ?_
                exact ih1 (k + 1) (v + r7) _ _ _ (by omega) hP hS (lv_sub hl [0, 1, 2] rfl)
            · skip
              refine lv_if_eq (tgt := 50) hx hb dX0_goodWeights_36 (by decide) (fun c8 => ?_) (fun c8 => ?_)
              · skip
                refine lv_iinc (v := nI (k + 1)) (lv' := [(3, .int (nI (k + 1))), (1, .long v), (0, .ref h0)]) hx hb dX0_goodWeights_50 hl (k := 0) rfl (nI_1 k) (by decide) rfl (fun ls hl => ?_)
                refine lv_goto (tgt := 4) hx hb dX0_goodWeights_53 (by decide) ?_
                exact ih1 (k + 1) v _ _ _ (by omega) hP hS (lv_sub hl [0, 1, 2] rfl)
              · exact absurd c8 (by first | decide | exact nz_lt (by omega) | exact fun h => h (nz_ge (by omega)))
        · skip
          refine lv_if_eq (tgt := 50) hx hb dX0_goodWeights_25 (by decide) (fun c9 => ?_) (fun c9 => ?_)
          · skip
            refine lv_iinc (v := nI (k + 1)) (lv' := [(3, .int (nI (k + 1))), (1, .long v), (0, .ref h0)]) hx hb dX0_goodWeights_50 hl (k := 0) rfl (nI_1 k) (by decide) rfl (fun ls hl => ?_)
            refine lv_goto (tgt := 4) hx hb dX0_goodWeights_53 (by decide) ?_
            exact ih1 (k + 1) v _ _ _ (by omega) hP hS (lv_sub hl [0, 1, 2] rfl)
          · exact absurd c9 (by first | decide | exact nz_lt (by omega) | exact fun h => h (nz_ge (by omega)))
  exact loop1 (2 ^ n + 1) 0 (lN 0) _ _ _ (by omega) hP hS (lv_sub hl [0, 1, 2] rfl)
def rm_c_X0_matters : Room := { frames := 2, cells := 0, slots := 0, locals := 46 }
set_option maxHeartbeats 400000 in
set_option maxRecDepth 100000 in
theorem c_X0_matters (l : Launch) (D : va_G) (cI cJ cZ : ClassId) (h0 : Nat) (h4 : Nat) (h3 : Nat) (l3 : Nat) (a1 : Nat) (a2 : Nat) (a3 : Nat) (b1 : Nat) (b2 : Nat) (n : Nat) (y : Nat) (j : Nat) (sn : Int32) (sg : Int32) (rc : Int32) (fg : Nat → Int32) (fb : Nat → Int32) (fp : Nat → Int32) (fw : Nat → Int64) (hn : n ≤ 9) (hy : y < 40) (hj : j < 9) : Met l yX0_matters wsX0_matters rm_c_X0_matters (pc_ D cI cJ cZ [.ref h0, .int (nI j)] [(h0, .inr (0, [.ref h4, .ref h3, .ref l3])), (h4, .inr (4, [.ref a1, .ref a2, .ref a3, .int (nI n), .int sn, .int sg])), (a1, .inl (cI, 9, .inl fg)), (a2, .inl (cI, 9, .inl fb)), (a3, .inl (cI, 9, .inl fp)), (h3, .inr (3, [.ref b1, .ref b2, .int (nI n), .int rc, .int (nI y)])), (b1, .inl (cJ, 320, .inr (.inl fw)))]) (va_Ql (fun (r : Int64) (_ : Unit) => True) (fun _ _ => True) aN) 0 0 aN := by
  refine Met.ofW (cc := cX0_matters) (maxL := 5) (ret := (some .long)) (by decide) rfl ?_
  intro p e s m args below meth c s₁ B hml hv
  obtain ⟨rfl, hP, hKN⟩ := hv
  have hK := hKN.1
  have hx := B.exec
  have hb := B.bytes
  have hr := B.returns
  have hts := atoms_spec (ws := wsX0_matters) B.pre
  have hown : s.vm.findClass RX0 = some m.cls := findClass_of_methodNamed B.named
  have hlocks := B.notSynchronized
  have hiX0 : ∀ w ∈ wsX00, w ∈ wsX0_matters := by decide +kernel
  have hiX4 : ∀ w ∈ wsX40, w ∈ wsX0_matters := by decide +kernel
  have hf15 := hts (.fieldLink RX0 15 "LookBench$Bounds" "shelf" "LLookBench$Shelf;") (by decide +kernel)
  have hf19 := hts (.fieldLink RX0 19 "LookBench$Bounds" "rules" "LLookBench$Rules;") (by decide +kernel)
  have hf23 := va_Nw.use (A := [.ref h0, .int (nI j)].toArray) rfl (hKN.2 (.fieldLinkNest RX0 23 RX4 "count" "I" RX6) (by decide +kernel))
  have hS : va_S aN s.heap s.heap [] := va_S.rf
  have hl := lv_entry ([.ref h0, .int (nI j)]) (n := 5) (Nat.le_of_ble_eq_true rfl)
  rw [lg_entry_eq]
  generalize (lg_sl ([.ref h0, .int (nI j)]) ++ List.replicate (5 - (lg_sl ([.ref h0, .int (nI j)])).length) Slot.unset).toArray = ls at hl ⊢
  have hl : lv_has ls 5 [(0, .ref h0), (1, .int (nI j))] := hl
  generalize hQ : MQ below _ _ s _ _ _ = Q
  obtain ⟨H, hH⟩ : ∃ z, z = s.heap := ⟨_, rfl⟩
  have hP : va_P D vwCl [(h0, .inr (0, [.ref h4, .ref h3, .ref l3])), (h4, .inr (4, [.ref a1, .ref a2, .ref a3, .int (nI n), .int sn, .int sg])), (a1, .inl (cI, 9, .inl fg)), (a2, .inl (cI, 9, .inl fb)), (a3, .inl (cI, 9, .inl fp)), (h3, .inr (3, [.ref b1, .ref b2, .int (nI n), .int rc, .int (nI y)])), (b1, .inl (cJ, 320, .inr (.inl fw)))] H := by rw [hH]; exact hP
  have hS : va_S aN s.heap H [] := by rw [hH]; exact hS
  refine m_heap hH ?_
  clear hH
  have h2n := m_pow hn
  have h2p := m_powp n
  have hp9 := m_p512 hj
  refine lv_lconst (v := lN 0) hx hb dX0_matters_0 (by decide) ?_
  refine lv_lstore_n (lv' := [(2, .long (lN 0)), (0, .ref h0), (1, .int (nI j))]) hx hb dX0_matters_1 rfl hl (by decide) rfl (fun ls hl => ?_)
  refine lv_iconst (v := nI 0) hx hb dX0_matters_2 (by decide) ?_
  refine lv_istore (lv' := [(4, .int (nI 0)), (2, .long (lN 0)), (0, .ref h0), (1, .int (nI j))]) hx hb dX0_matters_3 hl (by decide) rfl (fun ls hl => ?_)
  have loop1 : ∀ (fu : Nat) (k : Nat) (v : Int64) (H : Heap) (locs : List Loc) (ls : Array Slot), (k ≤ 2 ^ n ∧ 2 ^ n < k + fu) → va_P D vwCl [(h0, .inr (0, [.ref h4, .ref h3, .ref l3])), (h4, .inr (4, [.ref a1, .ref a2, .ref a3, .int (nI n), .int sn, .int sg])), (a1, .inl (cI, 9, .inl fg)), (a2, .inl (cI, 9, .inl fb)), (a3, .inl (cI, 9, .inl fp)), (h3, .inr (3, [.ref b1, .ref b2, .int (nI n), .int rc, .int (nI y)])), (b1, .inl (cJ, 320, .inr (.inl fw)))] H → va_S aN s.heap H locs → lv_has ls 5 [(4, .int (nI k)), (2, .long v), (0, .ref h0), (1, .int (nI j))] → W p l e (headSpec wsX0_matters rm_c_X0_matters).room s m ([.ref h0, .int (nI j)] : List Value).toArray below meth c H locs 0 0 Q (F0 m 5 ls []) := by
    intro fu
    induction fu with
    | zero => intro k v H locs ls hk; exact absurd hk (by omega)
    | succ fu ih1 =>
      intro k v H locs ls hk hP hS hl
      refine lv_iload hx hb dX0_matters_5 (lv_at hl 0 rfl) ?_
      refine lv_iconst (v := nI 1) hx hb dX0_matters_7 (by decide) ?_
      refine lv_aload_n hx hb dX0_matters_8 rfl (lv_at hl 2 rfl) ?_
      refine va_get (D := D) (ci := 0) (v := .ref h4) (C := RX0) (T := TX0) (N := 3) hx hb hts hiX0 hown hK hP 0 rfl rfl 0 (by decide) hf15 (fun _ h9 => h9) rfl dX0_matters_9 ?_
      refine va_getN (D := D) (ci := 4) (v := .int (nI n)) (C := RX4) (T := TX4) (N := 6) hx hb hts hiX4 hown hK hP 1 rfl rfl 3 (by decide) hf23 (fun _ h9 => h9) rfl dX0_matters_12 ?_
      refine lv_ishl hx hb dX0_matters_15 ?_
      refine cn_i (y := nI (2 ^ n)) (m_shl1 (by omega)) ?_
      refine lv_icmp_ge (tgt := 74) hx hb dX0_matters_16 (by decide) (fun c2 => ?_) (fun c2 => ?_)
      · skip
        have d2 := c2
        rw [nI_leI (by omega) (by omega)] at d2
        refine lv_lload_n hx hb dX0_matters_74 rfl (lv_at hl 1 rfl) ?_
        rw [← hQ]
        exact W.lret (v := v) hx hb hr (fun tS htS hWS => ⟨⟨v, (), rfl, trivial, trivial⟩, hS.F htS⟩) hS.2.2 dX0_matters_75
      · skip
        have d2 := c2
        rw [nI_leI (by omega) (by omega)] at d2
        refine lv_aload_n hx hb dX0_matters_19 rfl (lv_at hl 2 rfl) ?_
        refine va_get (D := D) (ci := 0) (v := .ref h4) (C := RX0) (T := TX0) (N := 3) hx hb hts hiX0 hown hK hP 0 rfl rfl 0 (by decide) hf15 (fun _ h9 => h9) rfl dX0_matters_20 ?_
        refine lv_iload hx hb dX0_matters_23 (lv_at hl 0 rfl) ?_
        refine pu_i (va_runV (As := [.int (nI k)]) (rest := []) ⟨hx, hb, hml, hown, hts⟩ (c_X4_fits l D cI cJ cZ h4 a1 a2 a3 (nI n) sn sg (nI k)) (cwV 1 hts gX0_matters_X4_fits rfl rfl rfl (by decide +kernel) ⟨Nat.le_of_ble_eq_true rfl, Nat.le_of_ble_eq_true rfl⟩) ⟨pc_blind, va_recv hK hP (ci := 4) (q0 := 1) rfl rfl, fun U hU hW => ⟨rfl, by rw [hU]; exact hP.sub (ws' := [(h4, .inr (4, [.ref a1, .ref a2, .ref a3, .int (nI n), .int sn, .int sg]))]) [1] rfl, hKN.warm hW⟩⟩ rfl rfl hl.1 rfl (lv_room (Nat.le_of_ble_eq_true rfl)) dX0_matters_25 ⟨Nat.le_of_ble_eq_true rfl, Nat.le_of_ble_eq_true rfl⟩) hS hP (fun r3 H locs w3r hP hS => ?_)
        have w3 : B01 r3 ((nI k) &&& sn = sg) := w3r
        clear w3r
        rcases w3 with ⟨rfl, w3⟩ | ⟨rfl, w3⟩
        · skip
          refine lv_if_eq (tgt := 68) hx hb dX0_matters_28 (by decide) (fun c4 => ?_) (fun c4 => ?_)
          · exact absurd c4 (by first | decide | exact nz_lt (by omega) | exact fun h => h (nz_ge (by omega)))
          · skip
            have hx5 := m_x512 (a := k) (b := 2 ^ j) (by omega) hp9
            refine lv_aload_n hx hb dX0_matters_31 rfl (lv_at hl 2 rfl) ?_
            refine va_get (D := D) (ci := 0) (v := .ref h3) (C := RX0) (T := TX0) (N := 3) hx hb hts hiX0 hown hK hP 0 rfl rfl 1 (by decide) hf19 (fun _ h9 => h9) rfl dX0_matters_32 ?_
            refine lv_iload hx hb dX0_matters_35 (lv_at hl 0 rfl) ?_
            refine pu_i (va_runV (As := [.int (nI k)]) (rest := []) ⟨hx, hb, hml, hown, hts⟩ (c_X3_isSystemGood l D cI cJ cZ h3 b1 b2 y k (nI n) rc fw (by first | assumption | omega) (by first | assumption | omega)) (cwV 1 hts gX0_matters_X3_isSystemGood rfl rfl rfl (by decide +kernel) ⟨Nat.le_of_ble_eq_true rfl, Nat.le_of_ble_eq_true rfl⟩) ⟨pc_blind, va_recv hK hP (ci := 3) (q0 := 5) rfl rfl, fun U hU hW => ⟨rfl, by rw [hU]; exact hP.sub (ws' := [(h3, .inr (3, [.ref b1, .ref b2, .int (nI n), .int rc, .int (nI y)])), (b1, .inl (cJ, 320, .inr (.inl fw)))]) [5, 6] rfl, hKN.warm hW⟩⟩ rfl rfl hl.1 rfl (lv_room (Nat.le_of_ble_eq_true rfl)) dX0_matters_37 ⟨Nat.le_of_ble_eq_true rfl, Nat.le_of_ble_eq_true rfl⟩) hS hP (fun r5 H locs w5r hP hS => ?_)
            have w5 : B01 r5 (isG fw y k) := w5r
            clear w5r
            rcases w5 with ⟨rfl, w5⟩ | ⟨rfl, w5⟩
            · skip
              refine lv_aload_n hx hb dX0_matters_40 rfl (lv_at hl 2 rfl) ?_
              refine va_get (D := D) (ci := 0) (v := .ref h3) (C := RX0) (T := TX0) (N := 3) hx hb hts hiX0 hown hK hP 0 rfl rfl 1 (by decide) hf19 (fun _ h9 => h9) rfl dX0_matters_41 ?_
              refine lv_iload hx hb dX0_matters_44 (lv_at hl 0 rfl) ?_
              refine lv_iconst (v := nI 1) hx hb dX0_matters_46 (by decide) ?_
              refine lv_iload_n hx hb dX0_matters_47 rfl (lv_at hl 3 rfl) ?_
              refine lv_ishl hx hb dX0_matters_48 ?_
              refine cn_i (y := nI (2 ^ j)) (m_shl1 (by omega)) ?_
              refine lv_ixor hx hb dX0_matters_49 ?_
              refine cn_i (y := nI (k ^^^ (2 ^ j))) (mb_xor k (2 ^ j)) ?_
              refine pu_i (va_runV (As := [.int (nI (k ^^^ (2 ^ j)))]) (rest := [.int (nI 1)]) ⟨hx, hb, hml, hown, hts⟩ (c_X3_isSystemGood l D cI cJ cZ h3 b1 b2 y (k ^^^ (2 ^ j)) (nI n) rc fw (by first | assumption | omega) (by first | assumption | omega)) (cwV 1 hts gX0_matters_X3_isSystemGood rfl rfl rfl (by decide +kernel) ⟨Nat.le_of_ble_eq_true rfl, Nat.le_of_ble_eq_true rfl⟩) ⟨pc_blind, va_recv hK hP (ci := 3) (q0 := 5) rfl rfl, fun U hU hW => ⟨rfl, by rw [hU]; exact hP.sub (ws' := [(h3, .inr (3, [.ref b1, .ref b2, .int (nI n), .int rc, .int (nI y)])), (b1, .inl (cJ, 320, .inr (.inl fw)))]) [5, 6] rfl, hKN.warm hW⟩⟩ rfl rfl hl.1 rfl (lv_room (Nat.le_of_ble_eq_true rfl)) dX0_matters_50 ⟨Nat.le_of_ble_eq_true rfl, Nat.le_of_ble_eq_true rfl⟩) hS hP (fun r6 H locs w6r hP hS => ?_)
              have w6 : B01 r6 (isG fw y (k ^^^ (2 ^ j))) := w6r
              clear w6r
              rcases w6 with ⟨rfl, w6⟩ | ⟨rfl, w6⟩
              · skip
                refine lv_icmp_eq (tgt := 68) hx hb dX0_matters_53 (by decide) (fun c7 => ?_) (fun c7 => ?_)
                · skip
                  refine lv_iinc (v := nI (k + 1)) (lv' := [(4, .int (nI (k + 1))), (2, .long v), (0, .ref h0), (1, .int (nI j))]) hx hb dX0_matters_68 hl (k := 0) rfl (nI_1 k) (by decide) rfl (fun ls hl => ?_)
                  refine lv_goto (tgt := 5) hx hb dX0_matters_71 (by decide) ?_
                  exact ih1 (k + 1) v _ _ _ (by omega) hP hS (lv_sub hl [0, 1, 2, 3] rfl)
                · exact absurd c7 (by first | decide | exact nz_lt (by omega) | exact fun h => h (nz_ge (by omega)))
              · skip
                refine lv_icmp_eq (tgt := 68) hx hb dX0_matters_53 (by decide) (fun c8 => ?_) (fun c8 => ?_)
                · exact absurd c8 (by first | decide | exact nz_lt (by omega) | exact fun h => h (nz_ge (by omega)))
                · skip
                  refine lv_lload_n hx hb dX0_matters_56 rfl (lv_at hl 1 rfl) ?_
                  refine lv_aload_n hx hb dX0_matters_57 rfl (lv_at hl 2 rfl) ?_
                  refine va_get (D := D) (ci := 0) (v := .ref h4) (C := RX0) (T := TX0) (N := 3) hx hb hts hiX0 hown hK hP 0 rfl rfl 0 (by decide) hf15 (fun _ h9 => h9) rfl dX0_matters_58 ?_
                  refine lv_iload hx hb dX0_matters_61 (lv_at hl 0 rfl) ?_
                  refine pu_l (va_runV (As := [.int (nI k)]) (rest := [.long v]) ⟨hx, hb, hml, hown, hts⟩ (c_X4_weight l D cI cJ cZ h4 a1 a2 a3 n sn sg (nI k) fg fb (by first | assumption | omega)) (cwV 1 hts gX0_matters_X4_weight rfl rfl rfl (by decide +kernel) ⟨Nat.le_of_ble_eq_true rfl, Nat.le_of_ble_eq_true rfl⟩) ⟨pc_blind, va_recv hK hP (ci := 4) (q0 := 1) rfl rfl, fun U hU hW => ⟨rfl, by rw [hU]; exact hP.sub (ws' := [(h4, .inr (4, [.ref a1, .ref a2, .ref a3, .int (nI n), .int sn, .int sg])), (a1, .inl (cI, 9, .inl fg)), (a2, .inl (cI, 9, .inl fb))]) [1, 2, 3] rfl, hKN.warm hW⟩⟩ rfl rfl hl.1 rfl (lv_room (Nat.le_of_ble_eq_true rfl)) dX0_matters_63 ⟨Nat.le_of_ble_eq_true rfl, Nat.le_of_ble_eq_true rfl⟩) hS hP (fun r9 H locs w9r hP hS => ?_)
                  have w9 : r9 = lf fg fb (nI (2 ^ n - 1)) (nI k) n := w9r
                  clear w9r
                  refine lv_ladd hx hb dX0_matters_66 ?_
                  refine lv_lstore_n (lv' := [(2, .long (v + r9)), (4, .int (nI k)), (0, .ref h0), (1, .int (nI j))]) hx hb dX0_matters_67 rfl hl (by decide) rfl (fun ls hl => ?_)
                  refine lv_iinc (v := nI (k + 1)) (lv' := [(4, .int (nI (k + 1))), (2, .long (v + r9)), (0, .ref h0), (1, .int (nI j))]) hx hb dX0_matters_68 hl (k := 1) rfl (nI_1 k) (by decide) rfl (fun ls hl => ?_)
                  refine lv_goto (tgt := 5) hx hb dX0_matters_71 (by decide) ?_
                  exact ih1 (k + 1) (v + r9) _ _ _ (by omega) hP hS (lv_sub hl [0, 1, 2, 3] rfl)
            · skip
              refine lv_aload_n hx hb dX0_matters_40 rfl (lv_at hl 2 rfl) ?_
              refine va_get (D := D) (ci := 0) (v := .ref h3) (C := RX0) (T := TX0) (N := 3) hx hb hts hiX0 hown hK hP 0 rfl rfl 1 (by decide) hf19 (fun _ h9 => h9) rfl dX0_matters_41 ?_
              refine lv_iload hx hb dX0_matters_44 (lv_at hl 0 rfl) ?_
              refine lv_iconst (v := nI 1) hx hb dX0_matters_46 (by decide) ?_
              refine lv_iload_n hx hb dX0_matters_47 rfl (lv_at hl 3 rfl) ?_
              refine lv_ishl hx hb dX0_matters_48 ?_
              refine cn_i (y := nI (2 ^ j)) (m_shl1 (by omega)) ?_
              refine lv_ixor hx hb dX0_matters_49 ?_
              refine cn_i (y := nI (k ^^^ (2 ^ j))) (mb_xor k (2 ^ j)) ?_
              refine pu_i (va_runV (As := [.int (nI (k ^^^ (2 ^ j)))]) (rest := [.int (nI 0)]) ⟨hx, hb, hml, hown, hts⟩ (c_X3_isSystemGood l D cI cJ cZ h3 b1 b2 y (k ^^^ (2 ^ j)) (nI n) rc fw (by first | assumption | omega) (by first | assumption | omega)) (cwV 1 hts gX0_matters_X3_isSystemGood rfl rfl rfl (by decide +kernel) ⟨Nat.le_of_ble_eq_true rfl, Nat.le_of_ble_eq_true rfl⟩) ⟨pc_blind, va_recv hK hP (ci := 3) (q0 := 5) rfl rfl, fun U hU hW => ⟨rfl, by rw [hU]; exact hP.sub (ws' := [(h3, .inr (3, [.ref b1, .ref b2, .int (nI n), .int rc, .int (nI y)])), (b1, .inl (cJ, 320, .inr (.inl fw)))]) [5, 6] rfl, hKN.warm hW⟩⟩ rfl rfl hl.1 rfl (lv_room (Nat.le_of_ble_eq_true rfl)) dX0_matters_50 ⟨Nat.le_of_ble_eq_true rfl, Nat.le_of_ble_eq_true rfl⟩) hS hP (fun r10 H locs w10r hP hS => ?_)
              have w10 : B01 r10 (isG fw y (k ^^^ (2 ^ j))) := w10r
              clear w10r
              rcases w10 with ⟨rfl, w10⟩ | ⟨rfl, w10⟩
              · skip
                refine lv_icmp_eq (tgt := 68) hx hb dX0_matters_53 (by decide) (fun c11 => ?_) (fun c11 => ?_)
                · exact absurd c11 (by first | decide | exact nz_lt (by omega) | exact fun h => h (nz_ge (by omega)))
                · skip
                  refine lv_lload_n hx hb dX0_matters_56 rfl (lv_at hl 1 rfl) ?_
                  refine lv_aload_n hx hb dX0_matters_57 rfl (lv_at hl 2 rfl) ?_
                  refine va_get (D := D) (ci := 0) (v := .ref h4) (C := RX0) (T := TX0) (N := 3) hx hb hts hiX0 hown hK hP 0 rfl rfl 0 (by decide) hf15 (fun _ h9 => h9) rfl dX0_matters_58 ?_
                  refine lv_iload hx hb dX0_matters_61 (lv_at hl 0 rfl) ?_
                  refine pu_l (va_runV (As := [.int (nI k)]) (rest := [.long v]) ⟨hx, hb, hml, hown, hts⟩ (c_X4_weight l D cI cJ cZ h4 a1 a2 a3 n sn sg (nI k) fg fb (by first | assumption | omega)) (cwV 1 hts gX0_matters_X4_weight rfl rfl rfl (by decide +kernel) ⟨Nat.le_of_ble_eq_true rfl, Nat.le_of_ble_eq_true rfl⟩) ⟨pc_blind, va_recv hK hP (ci := 4) (q0 := 1) rfl rfl, fun U hU hW => ⟨rfl, by rw [hU]; exact hP.sub (ws' := [(h4, .inr (4, [.ref a1, .ref a2, .ref a3, .int (nI n), .int sn, .int sg])), (a1, .inl (cI, 9, .inl fg)), (a2, .inl (cI, 9, .inl fb))]) [1, 2, 3] rfl, hKN.warm hW⟩⟩ rfl rfl hl.1 rfl (lv_room (Nat.le_of_ble_eq_true rfl)) dX0_matters_63 ⟨Nat.le_of_ble_eq_true rfl, Nat.le_of_ble_eq_true rfl⟩) hS hP (fun r12 H locs w12r hP hS => ?_)
                  have w12 : r12 = lf fg fb (nI (2 ^ n - 1)) (nI k) n := w12r
                  clear w12r
                  refine lv_ladd hx hb dX0_matters_66 ?_
                  refine lv_lstore_n (lv' := [(2, .long (v + r12)), (4, .int (nI k)), (0, .ref h0), (1, .int (nI j))]) hx hb dX0_matters_67 rfl hl (by decide) rfl (fun ls hl => ?_)
                  refine lv_iinc (v := nI (k + 1)) (lv' := [(4, .int (nI (k + 1))), (2, .long (v + r12)), (0, .ref h0), (1, .int (nI j))]) hx hb dX0_matters_68 hl (k := 1) rfl (nI_1 k) (by decide) rfl (fun ls hl => ?_)
                  refine lv_goto (tgt := 5) hx hb dX0_matters_71 (by decide) ?_
                  exact ih1 (k + 1) (v + r12) _ _ _ (by omega) hP hS (lv_sub hl [0, 1, 2, 3] rfl)
              · skip
                refine lv_icmp_eq (tgt := 68) hx hb dX0_matters_53 (by decide) (fun c13 => ?_) (fun c13 => ?_)
                · skip
                  refine lv_iinc (v := nI (k + 1)) (lv' := [(4, .int (nI (k + 1))), (2, .long v), (0, .ref h0), (1, .int (nI j))]) hx hb dX0_matters_68 hl (k := 0) rfl (nI_1 k) (by decide) rfl (fun ls hl => ?_)
                  refine lv_goto (tgt := 5) hx hb dX0_matters_71 (by decide) ?_
                  exact ih1 (k + 1) v _ _ _ (by omega) hP hS (lv_sub hl [0, 1, 2, 3] rfl)
                · exact absurd c13 (by first | decide | exact nz_lt (by omega) | exact fun h => h (nz_ge (by omega)))
        · skip
          refine lv_if_eq (tgt := 68) hx hb dX0_matters_28 (by decide) (fun c14 => ?_) (fun c14 => ?_)
          · skip
            refine lv_iinc (v := nI (k + 1)) (lv' := [(4, .int (nI (k + 1))), (2, .long v), (0, .ref h0), (1, .int (nI j))]) hx hb dX0_matters_68 hl (k := 0) rfl (nI_1 k) (by decide) rfl (fun ls hl => ?_)
            refine lv_goto (tgt := 5) hx hb dX0_matters_71 (by decide) ?_
            exact ih1 (k + 1) v _ _ _ (by omega) hP hS (lv_sub hl [0, 1, 2, 3] rfl)
          · exact absurd c14 (by first | decide | exact nz_lt (by omega) | exact fun h => h (nz_ge (by omega)))
  exact loop1 (2 ^ n + 1) 0 (lN 0) _ _ _ (by omega) hP hS (lv_sub hl [0, 1, 2, 3] rfl)
def rm_c_X0_leastProof : Room := { frames := 3, cells := 0, slots := 0, locals := 66 }
set_option maxHeartbeats 400000 in
set_option maxRecDepth 100000 in
theorem c_X0_leastProof (l : Launch) (D : va_G) (cI cJ cZ : ClassId) (h0 : Nat) (h4 : Nat) (h3 : Nat) (l3 : Nat) (a1 : Nat) (a2 : Nat) (a3 : Nat) (b1 : Nat) (b2 : Nat) (n : Nat) (y : Nat) (t : Nat) (sn : Int32) (sg : Int32) (rc : Int32) (fg : Nat → Int32) (fb : Nat → Int32) (fp : Nat → Int32) (fw : Nat → Int64) (gb : Int32) (lp : Nat → Int32) (hn : n ≤ 9) (hy : y < 40) (ht : t < 512) : Met l yX0_leastProof wsX0_leastProof rm_c_X0_leastProof (pc_ D cI cJ cZ [.ref h0, .int gb, .int (nI t)] [(h0, .inr (0, [.ref h4, .ref h3, .ref l3])), (h4, .inr (4, [.ref a1, .ref a2, .ref a3, .int (nI n), .int sn, .int sg])), (a1, .inl (cI, 9, .inl fg)), (a2, .inl (cI, 9, .inl fb)), (a3, .inl (cI, 9, .inl fp)), (h3, .inr (3, [.ref b1, .ref b2, .int (nI n), .int rc, .int (nI y)])), (b1, .inl (cJ, 320, .inr (.inl fw))), (l3, .inl (cI, 512, .inl lp))]) (va_Qi (fun (r : Int32) (_ : Unit) => True) (fun _ _ => True) aN) 0 0 aN := by
  refine Met.ofW (cc := cX0_leastProof) (maxL := 7) (ret := (some .int)) (by decide) rfl ?_
  intro p e s m args below meth c s₁ B hml hv
  obtain ⟨rfl, hP, hKN⟩ := hv
  have hK := hKN.1
  have hx := B.exec
  have hb := B.bytes
  have hr := B.returns
  have hts := atoms_spec (ws := wsX0_leastProof) B.pre
  have hown : s.vm.findClass RX0 = some m.cls := findClass_of_methodNamed B.named
  have hlocks := B.notSynchronized
  have hiX0 : ∀ w ∈ wsX00, w ∈ wsX0_leastProof := by decide +kernel
  have hiX4 : ∀ w ∈ wsX40, w ∈ wsX0_leastProof := by decide +kernel
  have hf9 := hts (.fieldLink RX0 9 "LookBench$Bounds" "leastPrice" "[I") (by decide +kernel)
  have hf15 := hts (.fieldLink RX0 15 "LookBench$Bounds" "shelf" "LLookBench$Shelf;") (by decide +kernel)
  have hf19 := hts (.fieldLink RX0 19 "LookBench$Bounds" "rules" "LLookBench$Rules;") (by decide +kernel)
  have hf23 := va_Nw.use (A := [.ref h0, .int gb, .int (nI t)].toArray) rfl (hKN.2 (.fieldLinkNest RX0 23 RX4 "count" "I" RX6) (by decide +kernel))
  have hS : va_S aN s.heap s.heap [] := va_S.rf
  have hl := lv_entry ([.ref h0, .int gb, .int (nI t)]) (n := 7) (Nat.le_of_ble_eq_true rfl)
  rw [lg_entry_eq]
  generalize (lg_sl ([.ref h0, .int gb, .int (nI t)]) ++ List.replicate (7 - (lg_sl ([.ref h0, .int gb, .int (nI t)])).length) Slot.unset).toArray = ls at hl ⊢
  have hl : lv_has ls 7 [(0, .ref h0), (1, .int gb), (2, .int (nI t))] := hl
  generalize hQ : MQ below _ _ s _ _ _ = Q
  obtain ⟨H, hH⟩ : ∃ z, z = s.heap := ⟨_, rfl⟩
  have hP : va_P D vwCl [(h0, .inr (0, [.ref h4, .ref h3, .ref l3])), (h4, .inr (4, [.ref a1, .ref a2, .ref a3, .int (nI n), .int sn, .int sg])), (a1, .inl (cI, 9, .inl fg)), (a2, .inl (cI, 9, .inl fb)), (a3, .inl (cI, 9, .inl fp)), (h3, .inr (3, [.ref b1, .ref b2, .int (nI n), .int rc, .int (nI y)])), (b1, .inl (cJ, 320, .inr (.inl fw))), (l3, .inl (cI, 512, .inl lp))] H := by rw [hH]; exact hP
  have hS : va_S aN s.heap H [] := by rw [hH]; exact hS
  refine m_heap hH ?_
  clear hH
  have h2n := m_pow hn
  have h2p := m_powp n
  refine lv_iload_n hx hb dX0_leastProof_0 rfl (lv_at hl 2 rfl) ?_
  refine lv_aload_n hx hb dX0_leastProof_1 rfl (lv_at hl 0 rfl) ?_
  refine va_get (D := D) (ci := 0) (v := .ref h4) (C := RX0) (T := TX0) (N := 3) hx hb hts hiX0 hown hK hP 0 rfl rfl 0 (by decide) hf15 (fun _ h9 => h9) rfl dX0_leastProof_2 ?_
  refine pu_i (va_runV (As := []) (rest := [.int (nI t)]) ⟨hx, hb, hml, hown, hts⟩ (c_X4_unseen l D cI cJ cZ h4 a1 a2 a3 n sn sg (by first | assumption | omega)) (cwV 0 hts gX0_leastProof_X4_unseen rfl rfl rfl (by decide +kernel) ⟨Nat.le_of_ble_eq_true rfl, Nat.le_of_ble_eq_true rfl⟩) ⟨pc_blind, va_recv hK hP (ci := 4) (q0 := 1) rfl rfl, fun U hU hW => ⟨rfl, by rw [hU]; exact hP.sub (ws' := [(h4, .inr (4, [.ref a1, .ref a2, .ref a3, .int (nI n), .int sn, .int sg]))]) [1] rfl, hKN.warm hW⟩⟩ rfl rfl hl.1 rfl (lv_room (Nat.le_of_ble_eq_true rfl)) dX0_leastProof_5 ⟨Nat.le_of_ble_eq_true rfl, Nat.le_of_ble_eq_true rfl⟩) hS hP (fun r1 H locs w1r hP hS => ?_)
  have w1 : r1 = nI (2 ^ n - 1) &&& (sn ^^^ (-1)) := w1r
  clear w1r
  refine lv_iand hx hb dX0_leastProof_8 ?_
  refine lv_topi (fun fe efe => ?_)
  refine lv_istore_n (lv' := [(3, .int fe), (0, .ref h0), (1, .int gb), (2, .int (nI t))]) hx hb dX0_leastProof_9 rfl hl (by decide) rfl (fun ls hl => ?_)
  refine lv_aload_n hx hb dX0_leastProof_10 rfl (lv_at hl 1 rfl) ?_
  refine va_get (D := D) (ci := 0) (v := .ref h4) (C := RX0) (T := TX0) (N := 3) hx hb hts hiX0 hown hK hP 0 rfl rfl 0 (by decide) hf15 (fun _ h9 => h9) rfl dX0_leastProof_11 ?_
  refine lv_iload_n hx hb dX0_leastProof_14 rfl (lv_at hl 0 rfl) ?_
  refine pu_i (va_runV (As := [.int fe]) (rest := []) ⟨hx, hb, hml, hown, hts⟩ (c_X4_priceOfSet l D cI cJ cZ h4 a1 a2 a3 n sn sg fe fp (by first | assumption | omega)) (cwV 1 hts gX0_leastProof_X4_priceOfSet rfl rfl rfl (by decide +kernel) ⟨Nat.le_of_ble_eq_true rfl, Nat.le_of_ble_eq_true rfl⟩) ⟨pc_blind, va_recv hK hP (ci := 4) (q0 := 1) rfl rfl, fun U hU hW => ⟨rfl, by rw [hU]; exact hP.sub (ws' := [(h4, .inr (4, [.ref a1, .ref a2, .ref a3, .int (nI n), .int sn, .int sg])), (a3, .inl (cI, 9, .inl fp))]) [1, 4] rfl, hKN.warm hW⟩⟩ rfl rfl hl.1 rfl (lv_room (Nat.le_of_ble_eq_true rfl)) dX0_leastProof_15 ⟨Nat.le_of_ble_eq_true rfl, Nat.le_of_ble_eq_true rfl⟩) hS hP (fun r2 H locs w2r hP hS => ?_)
  have w2 : r2 = pf fp fe n := w2r
  clear w2r
  refine lv_istore (lv' := [(4, .int r2), (3, .int fe), (0, .ref h0), (1, .int gb), (2, .int (nI t))]) hx hb dX0_leastProof_18 hl (by decide) rfl (fun ls hl => ?_)
  refine lv_iconst (v := nI 0) hx hb dX0_leastProof_20 (by decide) ?_
  refine lv_istore (lv' := [(5, .int (nI 0)), (4, .int r2), (3, .int fe), (0, .ref h0), (1, .int gb), (2, .int (nI t))]) hx hb dX0_leastProof_21 hl (by decide) rfl (fun ls hl => ?_)
  have loop3 : ∀ (fu : Nat) (k : Nat) (v : Int32) (H : Heap) (locs : List Loc) (ls : Array Slot), (k ≤ n ∧ n < k + fu) → va_P D vwCl [(h0, .inr (0, [.ref h4, .ref h3, .ref l3])), (h4, .inr (4, [.ref a1, .ref a2, .ref a3, .int (nI n), .int sn, .int sg])), (a1, .inl (cI, 9, .inl fg)), (a2, .inl (cI, 9, .inl fb)), (a3, .inl (cI, 9, .inl fp)), (h3, .inr (3, [.ref b1, .ref b2, .int (nI n), .int rc, .int (nI y)])), (b1, .inl (cJ, 320, .inr (.inl fw))), (l3, .inl (cI, 512, .inl lp))] H → va_S aN s.heap H locs → lv_has ls 7 [(5, .int (nI k)), (4, .int v), (3, .int fe), (0, .ref h0), (1, .int gb), (2, .int (nI t))] → W p l e (headSpec wsX0_leastProof rm_c_X0_leastProof).room s m ([.ref h0, .int gb, .int (nI t)] : List Value).toArray below meth c H locs 0 0 Q (F0 m 23 ls []) := by
    intro fu
    induction fu with
    | zero => intro k v H locs ls hk; exact absurd hk (by omega)
    | succ fu ih3 =>
      intro k v H locs ls hk hP hS hl
      refine lv_iload hx hb dX0_leastProof_23 (lv_at hl 0 rfl) ?_
      refine lv_aload_n hx hb dX0_leastProof_25 rfl (lv_at hl 3 rfl) ?_
      refine va_get (D := D) (ci := 0) (v := .ref h4) (C := RX0) (T := TX0) (N := 3) hx hb hts hiX0 hown hK hP 0 rfl rfl 0 (by decide) hf15 (fun _ h9 => h9) rfl dX0_leastProof_26 ?_
      refine va_getN (D := D) (ci := 4) (v := .int (nI n)) (C := RX4) (T := TX4) (N := 6) hx hb hts hiX4 hown hK hP 1 rfl rfl 3 (by decide) hf23 (fun _ h9 => h9) rfl dX0_leastProof_29 ?_
      refine lv_icmp_ge (tgt := 86) hx hb dX0_leastProof_32 (by decide) (fun c4 => ?_) (fun c4 => ?_)
      · skip
        have d4 := c4
        rw [nI_leI (by omega) (by omega)] at d4
        refine lv_iload hx hb dX0_leastProof_86 (lv_at hl 1 rfl) ?_
        rw [← hQ]
        exact W.iret (v := v) hx hb hr (fun tS htS hWS => ⟨⟨v, (), rfl, trivial, trivial⟩, hS.F htS⟩) hS.2.2 dX0_leastProof_88
      · skip
        have d4 := c4
        rw [nI_leI (by omega) (by omega)] at d4
        refine lv_iload_n hx hb dX0_leastProof_35 rfl (lv_at hl 5 rfl) ?_
        refine lv_iconst (v := nI 1) hx hb dX0_leastProof_36 (by decide) ?_
        refine lv_iload hx hb dX0_leastProof_37 (lv_at hl 0 rfl) ?_
        refine lv_ishl hx hb dX0_leastProof_39 ?_
        refine cn_i (y := nI (2 ^ k)) (m_shl1 (by omega)) ?_
        refine lv_ixor hx hb dX0_leastProof_40 ?_
        refine cn_i (y := nI (t ^^^ (2 ^ k))) (mb_xor t (2 ^ k)) ?_
        refine lv_istore (lv' := [(6, .int (nI (t ^^^ (2 ^ k)))), (5, .int (nI k)), (4, .int v), (3, .int fe), (0, .ref h0), (1, .int gb), (2, .int (nI t))]) hx hb dX0_leastProof_41 hl (by decide) rfl (fun ls hl => ?_)
        have hs1 := sb_lt fe k
        refine lv_iload_n hx hb dX0_leastProof_43 rfl (lv_at hl 3 rfl) ?_
        refine lv_iload hx hb dX0_leastProof_44 (lv_at hl 1 rfl) ?_
        refine lv_ishr hx hb dX0_leastProof_46 ?_
        refine lv_iconst (v := nI 1) hx hb dX0_leastProof_47 (by decide) ?_
        refine lv_iand hx hb dX0_leastProof_48 ?_
        refine cn_i (y := nI (sb fe k)) (sb_ok fe k) ?_
        refine lv_iconst (v := nI 1) hx hb dX0_leastProof_49 (by decide) ?_
        refine lv_icmp_ne (tgt := 80) hx hb dX0_leastProof_50 (by decide) (fun c5 => ?_) (fun c5 => ?_)
        · skip
          have d5 := c5
          rw [nI_eq (by omega) (by omega)] at d5
          refine lv_iinc (v := nI (k + 1)) (lv' := [(5, .int (nI (k + 1))), (6, .int (nI (t ^^^ (2 ^ k)))), (4, .int v), (3, .int fe), (0, .ref h0), (1, .int gb), (2, .int (nI t))]) hx hb dX0_leastProof_80 hl (k := 1) rfl (nI_1 k) (by decide) rfl (fun ls hl => ?_)
          refine lv_goto (tgt := 23) hx hb dX0_leastProof_83 (by decide) ?_
          exact ih3 (k + 1) v _ _ _ (by omega) hP hS (lv_sub hl [0, 2, 3, 4, 5, 6] rfl)
        · skip
          have d5 := c5
          rw [nI_eq (by omega) (by omega)] at d5
          have hx5 := m_x512 (a := t) (b := 2 ^ k) (by omega) (m_p512 (by omega))
          refine lv_aload_n hx hb dX0_leastProof_53 rfl (lv_at hl 4 rfl) ?_
          refine va_get (D := D) (ci := 0) (v := .ref h3) (C := RX0) (T := TX0) (N := 3) hx hb hts hiX0 hown hK hP 0 rfl rfl 1 (by decide) hf19 (fun _ h9 => h9) rfl dX0_leastProof_54 ?_
          refine lv_iload_n hx hb dX0_leastProof_57 rfl (lv_at hl 5 rfl) ?_
          refine lv_iload hx hb dX0_leastProof_58 (lv_at hl 0 rfl) ?_
          refine pu_i (va_runV (As := [.int gb, .int (nI (t ^^^ (2 ^ k)))]) (rest := []) ⟨hx, hb, hml, hown, hts⟩ (c_X3_settles l D cI cJ cZ h3 b1 b2 n y (t ^^^ (2 ^ k)) rc gb fw (by first | assumption | omega) (by first | assumption | omega) (by first | assumption | omega)) (cwV 2 hts gX0_leastProof_X3_settles rfl rfl rfl (by decide +kernel) ⟨Nat.le_of_ble_eq_true rfl, Nat.le_of_ble_eq_true rfl⟩) ⟨pc_blind, va_recv hK hP (ci := 3) (q0 := 5) rfl rfl, fun U hU hW => ⟨rfl, by rw [hU]; exact hP.sub (ws' := [(h3, .inr (3, [.ref b1, .ref b2, .int (nI n), .int rc, .int (nI y)])), (b1, .inl (cJ, 320, .inr (.inl fw)))]) [5, 6] rfl, hKN.warm hW⟩⟩ rfl rfl hl.1 rfl (lv_room (Nat.le_of_ble_eq_true rfl)) dX0_leastProof_60 ⟨Nat.le_of_ble_eq_true rfl, Nat.le_of_ble_eq_true rfl⟩) hS hP (fun r6 H locs w6r hP hS => ?_)
          have w6 : B01 r6 (stl fw y n gb (t ^^^ (2 ^ k))) := w6r
          clear w6r
          rcases w6 with ⟨rfl, w6⟩ | ⟨rfl, w6⟩
          · skip
            refine lv_if_eq (tgt := 80) hx hb dX0_leastProof_63 (by decide) (fun c7 => ?_) (fun c7 => ?_)
            · exact absurd c7 (by first | decide | exact nz_lt (by omega) | exact fun h => h (nz_ge (by omega)))
            · skip
              refine lv_iload hx hb dX0_leastProof_66 (lv_at hl 2 rfl) ?_
              refine lv_aload_n hx hb dX0_leastProof_68 rfl (lv_at hl 4 rfl) ?_
              refine va_get (D := D) (ci := 0) (v := .ref l3) (C := RX0) (T := TX0) (N := 3) hx hb hts hiX0 hown hK hP 0 rfl rfl 2 (by decide) hf9 (fun _ h9 => h9) rfl dX0_leastProof_69 ?_
              refine lv_iload hx hb dX0_leastProof_72 (lv_at hl 0 rfl) ?_
              refine va_iald hx hb hK hP 7 0 rfl rfl (i := nI (t ^^^ (2 ^ k))) (vp_in_nI (by omega) (by omega)) dX0_leastProof_74 ?_
              refine cn_i (y := lp (t ^^^ (2 ^ k))) (congrArg lp (nI_clamp (by omega))) ?_
              refine va_mmin hx hb (by rw [hml]; exact hl.1.symm) hown (hts (.methodLink RX0 62 Lib.Math.min.name) (by decide +kernel)) (hts (.static Lib.Math.min.name) (by decide +kernel)) (hts (.initialized "java/lang/Math") (by decide +kernel)) (hts (.code Lib.Math.min.name Lib.Math.min.code 2 (some .int)) (by decide +kernel)) (Nat.le_of_ble_eq_true rfl) (Nat.le_of_ble_eq_true rfl) (Nat.le_of_ble_eq_true rfl) (Nat.le_of_ble_eq_true rfl) dX0_leastProof_75 ?_
              refine lv_istore (lv' := [(4, .int (if (lp (t ^^^ (2 ^ k))) < v then (lp (t ^^^ (2 ^ k))) else v)), (6, .int (nI (t ^^^ (2 ^ k)))), (5, .int (nI k)), (3, .int fe), (0, .ref h0), (1, .int gb), (2, .int (nI t))]) hx hb dX0_leastProof_78 hl (by decide) rfl (fun ls hl => ?_)
              refine lv_iinc (v := nI (k + 1)) (lv' := [(5, .int (nI (k + 1))), (4, .int (if (lp (t ^^^ (2 ^ k))) < v then (lp (t ^^^ (2 ^ k))) else v)), (6, .int (nI (t ^^^ (2 ^ k)))), (3, .int fe), (0, .ref h0), (1, .int gb), (2, .int (nI t))]) hx hb dX0_leastProof_80 hl (k := 2) rfl (nI_1 k) (by decide) rfl (fun ls hl => ?_)
              refine lv_goto (tgt := 23) hx hb dX0_leastProof_83 (by decide) ?_
              exact ih3 (k + 1) (if (lp (t ^^^ (2 ^ k))) < v then (lp (t ^^^ (2 ^ k))) else v) _ _ _ (by omega) hP hS (lv_sub hl [0, 1, 3, 4, 5, 6] rfl)
          · skip
            refine lv_if_eq (tgt := 80) hx hb dX0_leastProof_63 (by decide) (fun c9 => ?_) (fun c9 => ?_)
            · skip
              refine lv_iinc (v := nI (k + 1)) (lv' := [(5, .int (nI (k + 1))), (6, .int (nI (t ^^^ (2 ^ k)))), (4, .int v), (3, .int fe), (0, .ref h0), (1, .int gb), (2, .int (nI t))]) hx hb dX0_leastProof_80 hl (k := 1) rfl (nI_1 k) (by decide) rfl (fun ls hl => ?_)
              refine lv_goto (tgt := 23) hx hb dX0_leastProof_83 (by decide) ?_
              exact ih3 (k + 1) v _ _ _ (by omega) hP hS (lv_sub hl [0, 2, 3, 4, 5, 6] rfl)
            · exact absurd c9 (by first | decide | exact nz_lt (by omega) | exact fun h => h (nz_ge (by omega)))
  exact loop3 (n + 1) 0 r2 _ _ _ (by omega) hP hS (lv_sub hl [0, 1, 2, 3, 4, 5] rfl)
def rm_c_X0_boundOfSide : Room := { frames := 4, cells := 0, slots := 0, locals := 92 }
set_option maxHeartbeats 400000 in
set_option maxRecDepth 100000 in
theorem c_X0_boundOfSide (l : Launch) (D : va_G) (cI cJ cZ : ClassId) (h0 : Nat) (h4 : Nat) (h3 : Nat) (l3 : Nat) (a1 : Nat) (a2 : Nat) (a3 : Nat) (b1 : Nat) (b2 : Nat) (n : Nat) (y : Nat) (sn : Int32) (sg : Int32) (rc : Int32) (fg : Nat → Int32) (fb : Nat → Int32) (fp : Nat → Int32) (fw : Nat → Int64) (gb : Int32) (lp : Nat → Int32) (hn : n ≤ 9) (hy : y < 40) : Met l yX0_boundOfSide wsX0_boundOfSide rm_c_X0_boundOfSide (pm_ D cI cJ cZ [.ref h0, .int gb] [(h0, .inr (0, [.ref h4, .ref h3, .ref l3])), (h4, .inr (4, [.ref a1, .ref a2, .ref a3, .int (nI n), .int sn, .int sg])), (a1, .inl (cI, 9, .inl fg)), (a2, .inl (cI, 9, .inl fb)), (a3, .inl (cI, 9, .inl fp)), (h3, .inr (3, [.ref b1, .ref b2, .int (nI n), .int rc, .int (nI y)])), (b1, .inl (cJ, 320, .inr (.inl fw))), (l3, .inl (cI, 512, .inl lp))]) (va_Ql (fun (r : Int64) (u : (Nat → Int32)) => True) (fun (u : (Nat → Int32)) tS => va_P D vwCl [(h0, .inr (0, [.ref h4, .ref h3, .ref l3])), (h4, .inr (4, [.ref a1, .ref a2, .ref a3, .int (nI n), .int sn, .int sg])), (a1, .inl (cI, 9, .inl fg)), (a2, .inl (cI, 9, .inl fb)), (a3, .inl (cI, 9, .inl fp)), (h3, .inr (3, [.ref b1, .ref b2, .int (nI n), .int rc, .int (nI y)])), (b1, .inl (cJ, 320, .inr (.inl fw))), (l3, .inl (cI, 512, .inl u))] tS.heap) (aA [h0, h4, a1, a2, a3, h3, b1, l3])) 0 0 (aA [h0, h4, a1, a2, a3, h3, b1, l3]) := by
  refine Met.ofW (cc := cX0_boundOfSide) (maxL := 7) (ret := (some .long)) (by decide) rfl ?_
  intro p e s m args below meth c s₁ B hml hv
  obtain ⟨rfl, hP, hKN, hD0⟩ := hv
  have hK := hKN.1
  have hx := B.exec
  have hb := B.bytes
  have hr := B.returns
  have hts := atoms_spec (ws := wsX0_boundOfSide) B.pre
  have hown : s.vm.findClass RX0 = some m.cls := findClass_of_methodNamed B.named
  have hlocks := B.notSynchronized
  have hiX0 : ∀ w ∈ wsX00, w ∈ wsX0_boundOfSide := by decide +kernel
  have hiX4 : ∀ w ∈ wsX40, w ∈ wsX0_boundOfSide := by decide +kernel
  have hf9 := hts (.fieldLink RX0 9 "LookBench$Bounds" "leastPrice" "[I") (by decide +kernel)
  have hf15 := hts (.fieldLink RX0 15 "LookBench$Bounds" "shelf" "LLookBench$Shelf;") (by decide +kernel)
  have hf19 := hts (.fieldLink RX0 19 "LookBench$Bounds" "rules" "LLookBench$Rules;") (by decide +kernel)
  have hf23 := va_Nw.use (A := [.ref h0, .int gb].toArray) rfl (hKN.2 (.fieldLinkNest RX0 23 RX4 "count" "I" RX6) (by decide +kernel))
  obtain ⟨as, has⟩ : ∃ z : List Nat, z = [h0, h4, a1, a2, a3, h3, b1, l3] := ⟨_, rfl⟩
  have hD := hD0.addr (as := as) (by rw [has]; rfl)
  have hS : va_S (aA as) s.heap s.heap [] := va_S.rf
  have hl := lv_entry ([.ref h0, .int gb]) (n := 7) (Nat.le_of_ble_eq_true rfl)
  rw [lg_entry_eq]
  generalize (lg_sl ([.ref h0, .int gb]) ++ List.replicate (7 - (lg_sl ([.ref h0, .int gb])).length) Slot.unset).toArray = ls at hl ⊢
  have hl : lv_has ls 7 [(0, .ref h0), (1, .int gb)] := hl
  generalize hQ : MQ below _ _ s _ _ _ = Q
  obtain ⟨H, hH⟩ : ∃ z, z = s.heap := ⟨_, rfl⟩
  have hP : va_P D vwCl [(h0, .inr (0, [.ref h4, .ref h3, .ref l3])), (h4, .inr (4, [.ref a1, .ref a2, .ref a3, .int (nI n), .int sn, .int sg])), (a1, .inl (cI, 9, .inl fg)), (a2, .inl (cI, 9, .inl fb)), (a3, .inl (cI, 9, .inl fp)), (h3, .inr (3, [.ref b1, .ref b2, .int (nI n), .int rc, .int (nI y)])), (b1, .inl (cJ, 320, .inr (.inl fw))), (l3, .inl (cI, 512, .inl lp))] H := by rw [hH]; exact hP
  have hS : va_S (aA as) s.heap H [] := by rw [hH]; exact hS
  refine m_heap hH ?_
  clear hH
  have h2n := m_pow hn
  have h2p := m_powp n
  refine lv_lconst (v := lN 0) hx hb dX0_boundOfSide_0 (by decide) ?_
  refine lv_lstore_n (lv' := [(2, .long (lN 0)), (0, .ref h0), (1, .int gb)]) hx hb dX0_boundOfSide_1 rfl hl (by decide) rfl (fun ls hl => ?_)
  refine lv_iconst (v := nI 1) hx hb dX0_boundOfSide_2 (by decide) ?_
  refine lv_aload_n hx hb dX0_boundOfSide_3 rfl (lv_at hl 1 rfl) ?_
  refine va_get (D := D) (ci := 0) (v := .ref h4) (C := RX0) (T := TX0) (N := 3) hx hb hts hiX0 hown hK hP 0 rfl rfl 0 (by decide) hf15 (fun _ h9 => h9) rfl dX0_boundOfSide_4 ?_
  refine va_getN (D := D) (ci := 4) (v := .int (nI n)) (C := RX4) (T := TX4) (N := 6) hx hb hts hiX4 hown hK hP 1 rfl rfl 3 (by decide) hf23 (fun _ h9 => h9) rfl dX0_boundOfSide_7 ?_
  refine lv_ishl hx hb dX0_boundOfSide_10 ?_
  refine cn_i (y := nI (2 ^ n)) (m_shl1 (by omega)) ?_
  refine lv_iconst (v := nI 1) hx hb dX0_boundOfSide_11 (by decide) ?_
  refine lv_isub hx hb dX0_boundOfSide_12 ?_
  refine cn_i (y := nI ((2 ^ n) - 1)) (pk_sub (a := (2 ^ n)) (b := 1) (by omega)) ?_
  refine lv_istore (lv' := [(4, .int (nI ((2 ^ n) - 1))), (2, .long (lN 0)), (0, .ref h0), (1, .int gb)]) hx hb dX0_boundOfSide_13 hl (by decide) rfl (fun ls hl => ?_)
  refine lv_iconst (v := nI 0) hx hb dX0_boundOfSide_15 (by decide) ?_
  refine lv_istore (lv' := [(5, .int (nI 0)), (4, .int (nI ((2 ^ n) - 1))), (2, .long (lN 0)), (0, .ref h0), (1, .int gb)]) hx hb dX0_boundOfSide_16 hl (by decide) rfl (fun ls hl => ?_)
  have loop1 : ∀ (fu : Nat) (k : Nat) (v : Int64) (ul : Nat → Int32) (H : Heap) (locs : List Loc) (ls : Array Slot), (k ≤ 2 ^ n ∧ 2 ^ n < k + fu) → va_P D vwCl [(h0, .inr (0, [.ref h4, .ref h3, .ref l3])), (h4, .inr (4, [.ref a1, .ref a2, .ref a3, .int (nI n), .int sn, .int sg])), (a1, .inl (cI, 9, .inl fg)), (a2, .inl (cI, 9, .inl fb)), (a3, .inl (cI, 9, .inl fp)), (h3, .inr (3, [.ref b1, .ref b2, .int (nI n), .int rc, .int (nI y)])), (b1, .inl (cJ, 320, .inr (.inl fw))), (l3, .inl (cI, 512, .inl ul))] H → va_D (aA as) [(h0, .inr (0, [.ref h4, .ref h3, .ref l3])), (h4, .inr (4, [.ref a1, .ref a2, .ref a3, .int (nI n), .int sn, .int sg])), (a1, .inl (cI, 9, .inl fg)), (a2, .inl (cI, 9, .inl fb)), (a3, .inl (cI, 9, .inl fp)), (h3, .inr (3, [.ref b1, .ref b2, .int (nI n), .int rc, .int (nI y)])), (b1, .inl (cJ, 320, .inr (.inl fw))), (l3, .inl (cI, 512, .inl ul))] → va_S (aA as) s.heap H locs → lv_has ls 7 [(5, .int (nI k)), (4, .int (nI ((2 ^ n) - 1))), (2, .long v), (0, .ref h0), (1, .int gb)] → W p l e (headSpec wsX0_boundOfSide rm_c_X0_boundOfSide).room s m ([.ref h0, .int gb] : List Value).toArray below meth c H locs 0 0 Q (F0 m 18 ls []) := by
    intro fu
    induction fu with
    | zero => intro k v ul H locs ls hk; exact absurd hk (by omega)
    | succ fu ih1 =>
      intro k v ul H locs ls hk hP hD hS hl
      refine lv_iload hx hb dX0_boundOfSide_18 (lv_at hl 0 rfl) ?_
      refine lv_iload hx hb dX0_boundOfSide_20 (lv_at hl 1 rfl) ?_
      refine lv_icmp_gt (tgt := 107) hx hb dX0_boundOfSide_22 (by decide) (fun c2 => ?_) (fun c2 => ?_)
      · skip
        have d2 := c2
        rw [nI_ltI (by omega) (by omega)] at d2
        refine lv_lload_n hx hb dX0_boundOfSide_107 rfl (lv_at hl 2 rfl) ?_
        rw [← hQ]
        exact W.lret (v := v) hx hb hr (fun tS htS hWS => ⟨⟨v, (ul), rfl, trivial, m_at htS hP⟩, by rw [← has]; exact hS.F htS⟩) (by rw [← has]; exact hS.2.2) dX0_boundOfSide_108
      · skip
        have d2 := c2
        rw [nI_ltI (by omega) (by omega)] at d2
        refine lv_iload_n hx hb dX0_boundOfSide_25 rfl (lv_at hl 4 rfl) ?_
        refine lv_if_eq (tgt := 34) hx hb dX0_boundOfSide_26 (by decide) (fun c3 => ?_) (fun c3 => ?_)
        · skip
          refine lv_iload hx hb dX0_boundOfSide_34 (lv_at hl 1 rfl) ?_
          refine lv_iload hx hb dX0_boundOfSide_36 (lv_at hl 0 rfl) ?_
          refine lv_ixor hx hb dX0_boundOfSide_38 ?_
          refine cn_i (y := nI (((2 ^ n) - 1) ^^^ k)) (mb_xor ((2 ^ n) - 1) k) ?_
          refine lv_istore (lv' := [(6, .int (nI (((2 ^ n) - 1) ^^^ k))), (5, .int (nI k)), (4, .int (nI ((2 ^ n) - 1))), (2, .long v), (0, .ref h0), (1, .int gb)]) hx hb dX0_boundOfSide_39 hl (by decide) rfl (fun ls hl => ?_)
          refine lv_aload_n hx hb dX0_boundOfSide_41 rfl (lv_at hl 4 rfl) ?_
          refine va_get (D := D) (ci := 0) (v := .ref h4) (C := RX0) (T := TX0) (N := 3) hx hb hts hiX0 hown hK hP 0 rfl rfl 0 (by decide) hf15 (fun _ h9 => h9) rfl dX0_boundOfSide_42 ?_
          refine lv_iload hx hb dX0_boundOfSide_45 (lv_at hl 0 rfl) ?_
          refine pu_i (va_runV (As := [.int (nI (((2 ^ n) - 1) ^^^ k))]) (rest := []) ⟨hx, hb, hml, hown, hts⟩ (c_X4_fits l D cI cJ cZ h4 a1 a2 a3 (nI n) sn sg (nI (((2 ^ n) - 1) ^^^ k))) (cwV 1 hts gX0_boundOfSide_X4_fits rfl rfl rfl (by decide +kernel) ⟨Nat.le_of_ble_eq_true rfl, Nat.le_of_ble_eq_true rfl⟩) ⟨pc_blind, va_recv hK hP (ci := 4) (q0 := 1) rfl rfl, fun U hU hW => ⟨rfl, by rw [hU]; exact hP.sub (ws' := [(h4, .inr (4, [.ref a1, .ref a2, .ref a3, .int (nI n), .int sn, .int sg]))]) [1] rfl, hKN.warm hW⟩⟩ rfl rfl hl.1 rfl (lv_room (Nat.le_of_ble_eq_true rfl)) dX0_boundOfSide_47 ⟨Nat.le_of_ble_eq_true rfl, Nat.le_of_ble_eq_true rfl⟩) hS hP (fun r4 H locs w4r hP hS => ?_)
          have w4 : B01 r4 ((nI (((2 ^ n) - 1) ^^^ k)) &&& sn = sg) := w4r
          clear w4r
          rcases w4 with ⟨rfl, w4⟩ | ⟨rfl, w4⟩
          · skip
            refine lv_if_eq (tgt := 101) hx hb dX0_boundOfSide_50 (by decide) (fun c5 => ?_) (fun c5 => ?_)
            · exact absurd c5 (by first | decide | exact nz_lt (by omega) | exact fun h => h (nz_ge (by omega)))
            · skip
              refine lv_aload_n hx hb dX0_boundOfSide_53 rfl (lv_at hl 4 rfl) ?_
              refine va_get (D := D) (ci := 0) (v := .ref h3) (C := RX0) (T := TX0) (N := 3) hx hb hts hiX0 hown hK hP 0 rfl rfl 1 (by decide) hf19 (fun _ h9 => h9) rfl dX0_boundOfSide_54 ?_
              refine lv_iload_n hx hb dX0_boundOfSide_57 rfl (lv_at hl 5 rfl) ?_
              refine lv_iload hx hb dX0_boundOfSide_58 (lv_at hl 1 rfl) ?_
              refine pu_i (va_runV (As := [.int gb, .int (nI k)]) (rest := []) ⟨hx, hb, hml, hown, hts⟩ (c_X3_settles l D cI cJ cZ h3 b1 b2 n y k rc gb fw (by first | assumption | omega) (by first | assumption | omega) (by first | assumption | omega)) (cwV 2 hts gX0_boundOfSide_X3_settles rfl rfl rfl (by decide +kernel) ⟨Nat.le_of_ble_eq_true rfl, Nat.le_of_ble_eq_true rfl⟩) ⟨pc_blind, va_recv hK hP (ci := 3) (q0 := 5) rfl rfl, fun U hU hW => ⟨rfl, by rw [hU]; exact hP.sub (ws' := [(h3, .inr (3, [.ref b1, .ref b2, .int (nI n), .int rc, .int (nI y)])), (b1, .inl (cJ, 320, .inr (.inl fw)))]) [5, 6] rfl, hKN.warm hW⟩⟩ rfl rfl hl.1 rfl (lv_room (Nat.le_of_ble_eq_true rfl)) dX0_boundOfSide_60 ⟨Nat.le_of_ble_eq_true rfl, Nat.le_of_ble_eq_true rfl⟩) hS hP (fun r6 H locs w6r hP hS => ?_)
              have w6 : B01 r6 (stl fw y n gb k) := w6r
              clear w6r
              rcases w6 with ⟨rfl, w6⟩ | ⟨rfl, w6⟩
              · skip
                refine lv_if_eq (tgt := 101) hx hb dX0_boundOfSide_63 (by decide) (fun c7 => ?_) (fun c7 => ?_)
                · exact absurd c7 (by first | decide | exact nz_lt (by omega) | exact fun h => h (nz_ge (by omega)))
                · skip
                  refine lv_aload_n hx hb dX0_boundOfSide_66 rfl (lv_at hl 4 rfl) ?_
                  refine va_get (D := D) (ci := 0) (v := .ref l3) (C := RX0) (T := TX0) (N := 3) hx hb hts hiX0 hown hK hP 0 rfl rfl 2 (by decide) hf9 (fun _ h9 => h9) rfl dX0_boundOfSide_67 ?_
                  refine lv_iload hx hb dX0_boundOfSide_70 (lv_at hl 1 rfl) ?_
                  refine lv_aload_n hx hb dX0_boundOfSide_72 rfl (lv_at hl 4 rfl) ?_
                  refine lv_iload_n hx hb dX0_boundOfSide_73 rfl (lv_at hl 5 rfl) ?_
                  refine lv_iload hx hb dX0_boundOfSide_74 (lv_at hl 1 rfl) ?_
                  refine pu_i (va_runV (As := [.int gb, .int (nI k)]) (rest := [.int (nI k), .ref l3]) ⟨hx, hb, hml, hown, hts⟩ (c_X0_leastProof l D cI cJ cZ h0 h4 h3 l3 a1 a2 a3 b1 b2 n y k sn sg rc fg fb fp fw gb ul (by first | assumption | omega) (by first | assumption | omega) (by first | assumption | omega)) (cwV 2 hts gX0_boundOfSide_X0_leastProof rfl rfl rfl (by decide +kernel) ⟨Nat.le_of_ble_eq_true rfl, Nat.le_of_ble_eq_true rfl⟩) ⟨pc_blind, va_recv hK hP (ci := 0) (q0 := 0) rfl rfl, fun U hU hW => ⟨rfl, by rw [hU]; exact hP.sub (ws' := [(h0, .inr (0, [.ref h4, .ref h3, .ref l3])), (h4, .inr (4, [.ref a1, .ref a2, .ref a3, .int (nI n), .int sn, .int sg])), (a1, .inl (cI, 9, .inl fg)), (a2, .inl (cI, 9, .inl fb)), (a3, .inl (cI, 9, .inl fp)), (h3, .inr (3, [.ref b1, .ref b2, .int (nI n), .int rc, .int (nI y)])), (b1, .inl (cJ, 320, .inr (.inl fw))), (l3, .inl (cI, 512, .inl ul))]) [0, 1, 2, 3, 4, 5, 6, 7] rfl, hKN.warm hW⟩⟩ rfl rfl hl.1 rfl (lv_room (Nat.le_of_ble_eq_true rfl)) dX0_boundOfSide_76 ⟨Nat.le_of_ble_eq_true rfl, Nat.le_of_ble_eq_true rfl⟩) hS hP (fun r8 H locs w8r hP hS => ?_)
                  have w8 : True := w8r
                  clear w8r
                  refine va_iast hx hb hK hP hD hS 7 0 rfl rfl (i := nI k) (vp_in_nI (by omega) (by omega)) dX0_boundOfSide_79 (fun H locs hP hD hS => ?_)
                  have hP : va_P D vwCl [(h0, .inr (0, [.ref h4, .ref h3, .ref l3])), (h4, .inr (4, [.ref a1, .ref a2, .ref a3, .int (nI n), .int sn, .int sg])), (a1, .inl (cI, 9, .inl fg)), (a2, .inl (cI, 9, .inl fb)), (a3, .inl (cI, 9, .inl fp)), (h3, .inr (3, [.ref b1, .ref b2, .int (nI n), .int rc, .int (nI y)])), (b1, .inl (cJ, 320, .inr (.inl fw))), (l3, .inl (cI, 512, .inl (upd ul (nI k).toNatClampNeg r8)))] H := hP
                  have hD : va_D (aA as) [(h0, .inr (0, [.ref h4, .ref h3, .ref l3])), (h4, .inr (4, [.ref a1, .ref a2, .ref a3, .int (nI n), .int sn, .int sg])), (a1, .inl (cI, 9, .inl fg)), (a2, .inl (cI, 9, .inl fb)), (a3, .inl (cI, 9, .inl fp)), (h3, .inr (3, [.ref b1, .ref b2, .int (nI n), .int rc, .int (nI y)])), (b1, .inl (cJ, 320, .inr (.inl fw))), (l3, .inl (cI, 512, .inl (upd ul (nI k).toNatClampNeg r8)))] := hD
                  rw [nI_clamp (n := k) (by omega)] at hP hD
                  refine lv_lload_n hx hb dX0_boundOfSide_80 rfl (lv_at hl 3 rfl) ?_
                  refine lv_aload_n hx hb dX0_boundOfSide_81 rfl (lv_at hl 4 rfl) ?_
                  refine va_get (D := D) (ci := 0) (v := .ref h4) (C := RX0) (T := TX0) (N := 3) hx hb hts hiX0 hown hK hP 0 rfl rfl 0 (by decide) hf15 (fun _ h9 => h9) rfl dX0_boundOfSide_82 ?_
                  refine lv_iload hx hb dX0_boundOfSide_85 (lv_at hl 0 rfl) ?_
                  refine pu_l (va_runV (As := [.int (nI (((2 ^ n) - 1) ^^^ k))]) (rest := [.long v]) ⟨hx, hb, hml, hown, hts⟩ (c_X4_weight l D cI cJ cZ h4 a1 a2 a3 n sn sg (nI (((2 ^ n) - 1) ^^^ k)) fg fb (by first | assumption | omega)) (cwV 1 hts gX0_boundOfSide_X4_weight rfl rfl rfl (by decide +kernel) ⟨Nat.le_of_ble_eq_true rfl, Nat.le_of_ble_eq_true rfl⟩) ⟨pc_blind, va_recv hK hP (ci := 4) (q0 := 1) rfl rfl, fun U hU hW => ⟨rfl, by rw [hU]; exact hP.sub (ws' := [(h4, .inr (4, [.ref a1, .ref a2, .ref a3, .int (nI n), .int sn, .int sg])), (a1, .inl (cI, 9, .inl fg)), (a2, .inl (cI, 9, .inl fb))]) [1, 2, 3] rfl, hKN.warm hW⟩⟩ rfl rfl hl.1 rfl (lv_room (Nat.le_of_ble_eq_true rfl)) dX0_boundOfSide_87 ⟨Nat.le_of_ble_eq_true rfl, Nat.le_of_ble_eq_true rfl⟩) hS hP (fun r9 H locs w9r hP hS => ?_)
                  have w9 : r9 = lf fg fb (nI (2 ^ n - 1)) (nI (((2 ^ n) - 1) ^^^ k)) n := w9r
                  clear w9r
                  refine lv_aload_n hx hb dX0_boundOfSide_90 rfl (lv_at hl 4 rfl) ?_
                  refine va_get (D := D) (ci := 0) (v := .ref l3) (C := RX0) (T := TX0) (N := 3) hx hb hts hiX0 hown hK hP 0 rfl rfl 2 (by decide) hf9 (fun _ h9 => h9) rfl dX0_boundOfSide_91 ?_
                  refine lv_iload hx hb dX0_boundOfSide_94 (lv_at hl 1 rfl) ?_
                  refine va_iald hx hb hK hP 7 0 rfl rfl (i := nI k) (vp_in_nI (by omega) (by omega)) dX0_boundOfSide_96 ?_
                  refine cn_i (y := (upd ul k r8) k) (congrArg (upd ul k r8) (nI_clamp (by omega))) ?_
                  refine lv_i2l hx hb dX0_boundOfSide_97 rfl ?_
                  refine lv_lmul hx hb dX0_boundOfSide_98 ?_
                  refine lv_ladd hx hb dX0_boundOfSide_99 ?_
                  refine lv_lstore_n (lv' := [(2, .long (v + (r9 * (((upd ul k r8) k).toInt64)))), (6, .int (nI (((2 ^ n) - 1) ^^^ k))), (5, .int (nI k)), (4, .int (nI ((2 ^ n) - 1))), (0, .ref h0), (1, .int gb)]) hx hb dX0_boundOfSide_100 rfl hl (by decide) rfl (fun ls hl => ?_)
                  refine lv_iinc (v := nI (k + 1)) (lv' := [(5, .int (nI (k + 1))), (2, .long (v + (r9 * (((upd ul k r8) k).toInt64)))), (6, .int (nI (((2 ^ n) - 1) ^^^ k))), (4, .int (nI ((2 ^ n) - 1))), (0, .ref h0), (1, .int gb)]) hx hb dX0_boundOfSide_101 hl (k := 2) rfl (nI_1 k) (by decide) rfl (fun ls hl => ?_)
                  refine lv_goto (tgt := 18) hx hb dX0_boundOfSide_104 (by decide) ?_
                  exact ih1 (k + 1) (v + (r9 * (((upd ul k r8) k).toInt64))) (upd ul k r8) _ _ _ (by omega) hP hD hS (lv_sub hl [0, 3, 1, 4, 5] rfl)
              · skip
                refine lv_if_eq (tgt := 101) hx hb dX0_boundOfSide_63 (by decide) (fun c10 => ?_) (fun c10 => ?_)
                · skip
                  refine lv_iinc (v := nI (k + 1)) (lv' := [(5, .int (nI (k + 1))), (6, .int (nI (((2 ^ n) - 1) ^^^ k))), (4, .int (nI ((2 ^ n) - 1))), (2, .long v), (0, .ref h0), (1, .int gb)]) hx hb dX0_boundOfSide_101 hl (k := 1) rfl (nI_1 k) (by decide) rfl (fun ls hl => ?_)
                  refine lv_goto (tgt := 18) hx hb dX0_boundOfSide_104 (by decide) ?_
                  exact ih1 (k + 1) v ul _ _ _ (by omega) hP hD hS (lv_sub hl [0, 2, 3, 4, 5] rfl)
                · exact absurd c10 (by first | decide | exact nz_lt (by omega) | exact fun h => h (nz_ge (by omega)))
          · skip
            refine lv_if_eq (tgt := 101) hx hb dX0_boundOfSide_50 (by decide) (fun c11 => ?_) (fun c11 => ?_)
            · skip
              refine lv_iinc (v := nI (k + 1)) (lv' := [(5, .int (nI (k + 1))), (6, .int (nI (((2 ^ n) - 1) ^^^ k))), (4, .int (nI ((2 ^ n) - 1))), (2, .long v), (0, .ref h0), (1, .int gb)]) hx hb dX0_boundOfSide_101 hl (k := 1) rfl (nI_1 k) (by decide) rfl (fun ls hl => ?_)
              refine lv_goto (tgt := 18) hx hb dX0_boundOfSide_104 (by decide) ?_
              exact ih1 (k + 1) v ul _ _ _ (by omega) hP hD hS (lv_sub hl [0, 2, 3, 4, 5] rfl)
            · exact absurd c11 (by first | decide | exact nz_lt (by omega) | exact fun h => h (nz_ge (by omega)))
        · skip
          refine lv_iload hx hb dX0_boundOfSide_29 (lv_at hl 0 rfl) ?_
          refine lv_goto (tgt := 39) hx hb dX0_boundOfSide_31 (by decide) ?_
          refine lv_istore (lv' := [(6, .int (nI k)), (5, .int (nI k)), (4, .int (nI ((2 ^ n) - 1))), (2, .long v), (0, .ref h0), (1, .int gb)]) hx hb dX0_boundOfSide_39 hl (by decide) rfl (fun ls hl => ?_)
          refine lv_aload_n hx hb dX0_boundOfSide_41 rfl (lv_at hl 4 rfl) ?_
          refine va_get (D := D) (ci := 0) (v := .ref h4) (C := RX0) (T := TX0) (N := 3) hx hb hts hiX0 hown hK hP 0 rfl rfl 0 (by decide) hf15 (fun _ h9 => h9) rfl dX0_boundOfSide_42 ?_
          refine lv_iload hx hb dX0_boundOfSide_45 (lv_at hl 0 rfl) ?_
          refine pu_i (va_runV (As := [.int (nI k)]) (rest := []) ⟨hx, hb, hml, hown, hts⟩ (c_X4_fits l D cI cJ cZ h4 a1 a2 a3 (nI n) sn sg (nI k)) (cwV 1 hts gX0_boundOfSide_X4_fits rfl rfl rfl (by decide +kernel) ⟨Nat.le_of_ble_eq_true rfl, Nat.le_of_ble_eq_true rfl⟩) ⟨pc_blind, va_recv hK hP (ci := 4) (q0 := 1) rfl rfl, fun U hU hW => ⟨rfl, by rw [hU]; exact hP.sub (ws' := [(h4, .inr (4, [.ref a1, .ref a2, .ref a3, .int (nI n), .int sn, .int sg]))]) [1] rfl, hKN.warm hW⟩⟩ rfl rfl hl.1 rfl (lv_room (Nat.le_of_ble_eq_true rfl)) dX0_boundOfSide_47 ⟨Nat.le_of_ble_eq_true rfl, Nat.le_of_ble_eq_true rfl⟩) hS hP (fun r12 H locs w12r hP hS => ?_)
          have w12 : B01 r12 ((nI k) &&& sn = sg) := w12r
          clear w12r
          rcases w12 with ⟨rfl, w12⟩ | ⟨rfl, w12⟩
          · skip
            refine lv_if_eq (tgt := 101) hx hb dX0_boundOfSide_50 (by decide) (fun c13 => ?_) (fun c13 => ?_)
            · exact absurd c13 (by first | decide | exact nz_lt (by omega) | exact fun h => h (nz_ge (by omega)))
            · skip
              refine lv_aload_n hx hb dX0_boundOfSide_53 rfl (lv_at hl 4 rfl) ?_
              refine va_get (D := D) (ci := 0) (v := .ref h3) (C := RX0) (T := TX0) (N := 3) hx hb hts hiX0 hown hK hP 0 rfl rfl 1 (by decide) hf19 (fun _ h9 => h9) rfl dX0_boundOfSide_54 ?_
              refine lv_iload_n hx hb dX0_boundOfSide_57 rfl (lv_at hl 5 rfl) ?_
              refine lv_iload hx hb dX0_boundOfSide_58 (lv_at hl 1 rfl) ?_
              refine pu_i (va_runV (As := [.int gb, .int (nI k)]) (rest := []) ⟨hx, hb, hml, hown, hts⟩ (c_X3_settles l D cI cJ cZ h3 b1 b2 n y k rc gb fw (by first | assumption | omega) (by first | assumption | omega) (by first | assumption | omega)) (cwV 2 hts gX0_boundOfSide_X3_settles rfl rfl rfl (by decide +kernel) ⟨Nat.le_of_ble_eq_true rfl, Nat.le_of_ble_eq_true rfl⟩) ⟨pc_blind, va_recv hK hP (ci := 3) (q0 := 5) rfl rfl, fun U hU hW => ⟨rfl, by rw [hU]; exact hP.sub (ws' := [(h3, .inr (3, [.ref b1, .ref b2, .int (nI n), .int rc, .int (nI y)])), (b1, .inl (cJ, 320, .inr (.inl fw)))]) [5, 6] rfl, hKN.warm hW⟩⟩ rfl rfl hl.1 rfl (lv_room (Nat.le_of_ble_eq_true rfl)) dX0_boundOfSide_60 ⟨Nat.le_of_ble_eq_true rfl, Nat.le_of_ble_eq_true rfl⟩) hS hP (fun r14 H locs w14r hP hS => ?_)
              have w14 : B01 r14 (stl fw y n gb k) := w14r
              clear w14r
              rcases w14 with ⟨rfl, w14⟩ | ⟨rfl, w14⟩
              · skip
                refine lv_if_eq (tgt := 101) hx hb dX0_boundOfSide_63 (by decide) (fun c15 => ?_) (fun c15 => ?_)
                · exact absurd c15 (by first | decide | exact nz_lt (by omega) | exact fun h => h (nz_ge (by omega)))
                · skip
                  refine lv_aload_n hx hb dX0_boundOfSide_66 rfl (lv_at hl 4 rfl) ?_
                  refine va_get (D := D) (ci := 0) (v := .ref l3) (C := RX0) (T := TX0) (N := 3) hx hb hts hiX0 hown hK hP 0 rfl rfl 2 (by decide) hf9 (fun _ h9 => h9) rfl dX0_boundOfSide_67 ?_
                  refine lv_iload hx hb dX0_boundOfSide_70 (lv_at hl 1 rfl) ?_
                  refine lv_aload_n hx hb dX0_boundOfSide_72 rfl (lv_at hl 4 rfl) ?_
                  refine lv_iload_n hx hb dX0_boundOfSide_73 rfl (lv_at hl 5 rfl) ?_
                  refine lv_iload hx hb dX0_boundOfSide_74 (lv_at hl 1 rfl) ?_
                  refine pu_i (va_runV (As := [.int gb, .int (nI k)]) (rest := [.int (nI k), .ref l3]) ⟨hx, hb, hml, hown, hts⟩ (c_X0_leastProof l D cI cJ cZ h0 h4 h3 l3 a1 a2 a3 b1 b2 n y k sn sg rc fg fb fp fw gb ul (by first | assumption | omega) (by first | assumption | omega) (by first | assumption | omega)) (cwV 2 hts gX0_boundOfSide_X0_leastProof rfl rfl rfl (by decide +kernel) ⟨Nat.le_of_ble_eq_true rfl, Nat.le_of_ble_eq_true rfl⟩) ⟨pc_blind, va_recv hK hP (ci := 0) (q0 := 0) rfl rfl, fun U hU hW => ⟨rfl, by rw [hU]; exact hP.sub (ws' := [(h0, .inr (0, [.ref h4, .ref h3, .ref l3])), (h4, .inr (4, [.ref a1, .ref a2, .ref a3, .int (nI n), .int sn, .int sg])), (a1, .inl (cI, 9, .inl fg)), (a2, .inl (cI, 9, .inl fb)), (a3, .inl (cI, 9, .inl fp)), (h3, .inr (3, [.ref b1, .ref b2, .int (nI n), .int rc, .int (nI y)])), (b1, .inl (cJ, 320, .inr (.inl fw))), (l3, .inl (cI, 512, .inl ul))]) [0, 1, 2, 3, 4, 5, 6, 7] rfl, hKN.warm hW⟩⟩ rfl rfl hl.1 rfl (lv_room (Nat.le_of_ble_eq_true rfl)) dX0_boundOfSide_76 ⟨Nat.le_of_ble_eq_true rfl, Nat.le_of_ble_eq_true rfl⟩) hS hP (fun r16 H locs w16r hP hS => ?_)
                  have w16 : True := w16r
                  clear w16r
                  refine va_iast hx hb hK hP hD hS 7 0 rfl rfl (i := nI k) (vp_in_nI (by omega) (by omega)) dX0_boundOfSide_79 (fun H locs hP hD hS => ?_)
                  have hP : va_P D vwCl [(h0, .inr (0, [.ref h4, .ref h3, .ref l3])), (h4, .inr (4, [.ref a1, .ref a2, .ref a3, .int (nI n), .int sn, .int sg])), (a1, .inl (cI, 9, .inl fg)), (a2, .inl (cI, 9, .inl fb)), (a3, .inl (cI, 9, .inl fp)), (h3, .inr (3, [.ref b1, .ref b2, .int (nI n), .int rc, .int (nI y)])), (b1, .inl (cJ, 320, .inr (.inl fw))), (l3, .inl (cI, 512, .inl (upd ul (nI k).toNatClampNeg r16)))] H := hP
                  have hD : va_D (aA as) [(h0, .inr (0, [.ref h4, .ref h3, .ref l3])), (h4, .inr (4, [.ref a1, .ref a2, .ref a3, .int (nI n), .int sn, .int sg])), (a1, .inl (cI, 9, .inl fg)), (a2, .inl (cI, 9, .inl fb)), (a3, .inl (cI, 9, .inl fp)), (h3, .inr (3, [.ref b1, .ref b2, .int (nI n), .int rc, .int (nI y)])), (b1, .inl (cJ, 320, .inr (.inl fw))), (l3, .inl (cI, 512, .inl (upd ul (nI k).toNatClampNeg r16)))] := hD
                  rw [nI_clamp (n := k) (by omega)] at hP hD
                  refine lv_lload_n hx hb dX0_boundOfSide_80 rfl (lv_at hl 3 rfl) ?_
                  refine lv_aload_n hx hb dX0_boundOfSide_81 rfl (lv_at hl 4 rfl) ?_
                  refine va_get (D := D) (ci := 0) (v := .ref h4) (C := RX0) (T := TX0) (N := 3) hx hb hts hiX0 hown hK hP 0 rfl rfl 0 (by decide) hf15 (fun _ h9 => h9) rfl dX0_boundOfSide_82 ?_
                  refine lv_iload hx hb dX0_boundOfSide_85 (lv_at hl 0 rfl) ?_
                  refine pu_l (va_runV (As := [.int (nI k)]) (rest := [.long v]) ⟨hx, hb, hml, hown, hts⟩ (c_X4_weight l D cI cJ cZ h4 a1 a2 a3 n sn sg (nI k) fg fb (by first | assumption | omega)) (cwV 1 hts gX0_boundOfSide_X4_weight rfl rfl rfl (by decide +kernel) ⟨Nat.le_of_ble_eq_true rfl, Nat.le_of_ble_eq_true rfl⟩) ⟨pc_blind, va_recv hK hP (ci := 4) (q0 := 1) rfl rfl, fun U hU hW => ⟨rfl, by rw [hU]; exact hP.sub (ws' := [(h4, .inr (4, [.ref a1, .ref a2, .ref a3, .int (nI n), .int sn, .int sg])), (a1, .inl (cI, 9, .inl fg)), (a2, .inl (cI, 9, .inl fb))]) [1, 2, 3] rfl, hKN.warm hW⟩⟩ rfl rfl hl.1 rfl (lv_room (Nat.le_of_ble_eq_true rfl)) dX0_boundOfSide_87 ⟨Nat.le_of_ble_eq_true rfl, Nat.le_of_ble_eq_true rfl⟩) hS hP (fun r17 H locs w17r hP hS => ?_)
                  have w17 : r17 = lf fg fb (nI (2 ^ n - 1)) (nI k) n := w17r
                  clear w17r
                  refine lv_aload_n hx hb dX0_boundOfSide_90 rfl (lv_at hl 4 rfl) ?_
                  refine va_get (D := D) (ci := 0) (v := .ref l3) (C := RX0) (T := TX0) (N := 3) hx hb hts hiX0 hown hK hP 0 rfl rfl 2 (by decide) hf9 (fun _ h9 => h9) rfl dX0_boundOfSide_91 ?_
                  refine lv_iload hx hb dX0_boundOfSide_94 (lv_at hl 1 rfl) ?_
                  refine va_iald hx hb hK hP 7 0 rfl rfl (i := nI k) (vp_in_nI (by omega) (by omega)) dX0_boundOfSide_96 ?_
                  refine cn_i (y := (upd ul k r16) k) (congrArg (upd ul k r16) (nI_clamp (by omega))) ?_
                  refine lv_i2l hx hb dX0_boundOfSide_97 rfl ?_
                  refine lv_lmul hx hb dX0_boundOfSide_98 ?_
                  refine lv_ladd hx hb dX0_boundOfSide_99 ?_
                  refine lv_lstore_n (lv' := [(2, .long (v + (r17 * (((upd ul k r16) k).toInt64)))), (6, .int (nI k)), (5, .int (nI k)), (4, .int (nI ((2 ^ n) - 1))), (0, .ref h0), (1, .int gb)]) hx hb dX0_boundOfSide_100 rfl hl (by decide) rfl (fun ls hl => ?_)
                  refine lv_iinc (v := nI (k + 1)) (lv' := [(5, .int (nI (k + 1))), (2, .long (v + (r17 * (((upd ul k r16) k).toInt64)))), (6, .int (nI k)), (4, .int (nI ((2 ^ n) - 1))), (0, .ref h0), (1, .int gb)]) hx hb dX0_boundOfSide_101 hl (k := 2) rfl (nI_1 k) (by decide) rfl (fun ls hl => ?_)
                  refine lv_goto (tgt := 18) hx hb dX0_boundOfSide_104 (by decide) ?_
                  exact ih1 (k + 1) (v + (r17 * (((upd ul k r16) k).toInt64))) (upd ul k r16) _ _ _ (by omega) hP hD hS (lv_sub hl [0, 3, 1, 4, 5] rfl)
              · skip
                refine lv_if_eq (tgt := 101) hx hb dX0_boundOfSide_63 (by decide) (fun c18 => ?_) (fun c18 => ?_)
                · skip
                  refine lv_iinc (v := nI (k + 1)) (lv' := [(5, .int (nI (k + 1))), (6, .int (nI k)), (4, .int (nI ((2 ^ n) - 1))), (2, .long v), (0, .ref h0), (1, .int gb)]) hx hb dX0_boundOfSide_101 hl (k := 1) rfl (nI_1 k) (by decide) rfl (fun ls hl => ?_)
                  refine lv_goto (tgt := 18) hx hb dX0_boundOfSide_104 (by decide) ?_
                  exact ih1 (k + 1) v ul _ _ _ (by omega) hP hD hS (lv_sub hl [0, 2, 3, 4, 5] rfl)
                · exact absurd c18 (by first | decide | exact nz_lt (by omega) | exact fun h => h (nz_ge (by omega)))
          · skip
            refine lv_if_eq (tgt := 101) hx hb dX0_boundOfSide_50 (by decide) (fun c19 => ?_) (fun c19 => ?_)
            · skip
              refine lv_iinc (v := nI (k + 1)) (lv' := [(5, .int (nI (k + 1))), (6, .int (nI k)), (4, .int (nI ((2 ^ n) - 1))), (2, .long v), (0, .ref h0), (1, .int gb)]) hx hb dX0_boundOfSide_101 hl (k := 1) rfl (nI_1 k) (by decide) rfl (fun ls hl => ?_)
              refine lv_goto (tgt := 18) hx hb dX0_boundOfSide_104 (by decide) ?_
              exact ih1 (k + 1) v ul _ _ _ (by omega) hP hD hS (lv_sub hl [0, 2, 3, 4, 5] rfl)
            · exact absurd c19 (by first | decide | exact nz_lt (by omega) | exact fun h => h (nz_ge (by omega)))
  exact loop1 (2 ^ n + 1) 0 (lN 0) lp _ _ _ (by omega) hP hD hS (lv_sub hl [0, 1, 2, 3, 4] rfl)
def rm_c_X0_bound : Room := { frames := 5, cells := 0, slots := 0, locals := 118 }
set_option maxHeartbeats 400000 in
set_option maxRecDepth 100000 in
theorem c_X0_bound (l : Launch) (D : va_G) (cI cJ cZ : ClassId) (h0 : Nat) (h4 : Nat) (h3 : Nat) (l3 : Nat) (a1 : Nat) (a2 : Nat) (a3 : Nat) (b1 : Nat) (b2 : Nat) (n : Nat) (y : Nat) (sn : Int32) (sg : Int32) (rc : Int32) (fg : Nat → Int32) (fb : Nat → Int32) (fp : Nat → Int32) (fw : Nat → Int64) (lp : Nat → Int32) (hn : n ≤ 9) (hy : y < 40) : Met l yX0_bound wsX0_bound rm_c_X0_bound (pm_ D cI cJ cZ [.ref h0] [(h0, .inr (0, [.ref h4, .ref h3, .ref l3])), (h4, .inr (4, [.ref a1, .ref a2, .ref a3, .int (nI n), .int sn, .int sg])), (a1, .inl (cI, 9, .inl fg)), (a2, .inl (cI, 9, .inl fb)), (a3, .inl (cI, 9, .inl fp)), (h3, .inr (3, [.ref b1, .ref b2, .int (nI n), .int rc, .int (nI y)])), (b1, .inl (cJ, 320, .inr (.inl fw))), (l3, .inl (cI, 512, .inl lp))]) (va_Ql (fun (r : Int64) (u : (Nat → Int32)) => True) (fun (u : (Nat → Int32)) tS => va_P D vwCl [(h0, .inr (0, [.ref h4, .ref h3, .ref l3])), (h4, .inr (4, [.ref a1, .ref a2, .ref a3, .int (nI n), .int sn, .int sg])), (a1, .inl (cI, 9, .inl fg)), (a2, .inl (cI, 9, .inl fb)), (a3, .inl (cI, 9, .inl fp)), (h3, .inr (3, [.ref b1, .ref b2, .int (nI n), .int rc, .int (nI y)])), (b1, .inl (cJ, 320, .inr (.inl fw))), (l3, .inl (cI, 512, .inl u))] tS.heap) (aA [h0, h4, a1, a2, a3, h3, b1, l3])) 0 0 (aA [h0, h4, a1, a2, a3, h3, b1, l3]) := by
  refine Met.ofW (cc := cX0_bound) (maxL := 1) (ret := (some .long)) (by decide) rfl ?_
  intro p e s m args below meth c s₁ B hml hv
  obtain ⟨rfl, hP, hKN, hD0⟩ := hv
  have hK := hKN.1
  have hx := B.exec
  have hb := B.bytes
  have hr := B.returns
  have hts := atoms_spec (ws := wsX0_bound) B.pre
  have hown : s.vm.findClass RX0 = some m.cls := findClass_of_methodNamed B.named
  have hlocks := B.notSynchronized
  obtain ⟨as, has⟩ : ∃ z : List Nat, z = [h0, h4, a1, a2, a3, h3, b1, l3] := ⟨_, rfl⟩
  have hD := hD0.addr (as := as) (by rw [has]; rfl)
  have hS : va_S (aA as) s.heap s.heap [] := va_S.rf
  have hl := lv_entry ([.ref h0]) (n := 1) (Nat.le_of_ble_eq_true rfl)
  rw [lg_entry_eq]
  generalize (lg_sl ([.ref h0]) ++ List.replicate (1 - (lg_sl ([.ref h0])).length) Slot.unset).toArray = ls at hl ⊢
  have hl : lv_has ls 1 [(0, .ref h0)] := hl
  generalize hQ : MQ below _ _ s _ _ _ = Q
  obtain ⟨H, hH⟩ : ∃ z, z = s.heap := ⟨_, rfl⟩
  have hP : va_P D vwCl [(h0, .inr (0, [.ref h4, .ref h3, .ref l3])), (h4, .inr (4, [.ref a1, .ref a2, .ref a3, .int (nI n), .int sn, .int sg])), (a1, .inl (cI, 9, .inl fg)), (a2, .inl (cI, 9, .inl fb)), (a3, .inl (cI, 9, .inl fp)), (h3, .inr (3, [.ref b1, .ref b2, .int (nI n), .int rc, .int (nI y)])), (b1, .inl (cJ, 320, .inr (.inl fw))), (l3, .inl (cI, 512, .inl lp))] H := by rw [hH]; exact hP
  have hS : va_S (aA as) s.heap H [] := by rw [hH]; exact hS
  refine m_heap hH ?_
  clear hH
  refine lv_aload_n hx hb dX0_bound_0 rfl (lv_at hl 0 rfl) ?_
  refine lv_iconst (v := nI 1) hx hb dX0_bound_1 (by decide) ?_
  refine mu2_l (n := 8) (wc := [(h0, .inr (0, [.ref h4, .ref h3, .ref l3])), (h4, .inr (4, [.ref a1, .ref a2, .ref a3, .int (nI n), .int sn, .int sg])), (a1, .inl (cI, 9, .inl fg)), (a2, .inl (cI, 9, .inl fb)), (a3, .inl (cI, 9, .inl fp)), (h3, .inr (3, [.ref b1, .ref b2, .int (nI n), .int rc, .int (nI y)])), (b1, .inl (cJ, 320, .inr (.inl fw))), (l3, .inl (cI, 512, .inl lp))]) (wr := []) (as0 := [h0, h4, a1, a2, a3, h3, b1, l3]) (va_runV (As := [.int (nI 1)]) (rest := []) ⟨hx, hb, hml, hown, hts⟩ (c_X0_boundOfSide l D cI cJ cZ h0 h4 h3 l3 a1 a2 a3 b1 b2 n y sn sg rc fg fb fp fw (nI 1) lp (by first | assumption | omega) (by first | assumption | omega)) (cwV 1 hts gX0_bound_X0_boundOfSide rfl rfl rfl (by decide +kernel) ⟨Nat.le_of_ble_eq_true rfl, Nat.le_of_ble_eq_true rfl⟩) ⟨pm_blind, va_recv hK hP (ci := 0) (q0 := 0) rfl rfl, fun U hU hW => ⟨rfl, by rw [hU]; exact hP.sub (ws' := [(h0, .inr (0, [.ref h4, .ref h3, .ref l3])), (h4, .inr (4, [.ref a1, .ref a2, .ref a3, .int (nI n), .int sn, .int sg])), (a1, .inl (cI, 9, .inl fg)), (a2, .inl (cI, 9, .inl fb)), (a3, .inl (cI, 9, .inl fp)), (h3, .inr (3, [.ref b1, .ref b2, .int (nI n), .int rc, .int (nI y)])), (b1, .inl (cJ, 320, .inr (.inl fw))), (l3, .inl (cI, 512, .inl lp))]) [0, 1, 2, 3, 4, 5, 6, 7] rfl, hKN.warm hW, (hD.sub (ws' := [(h0, .inr (0, [.ref h4, .ref h3, .ref l3])), (h4, .inr (4, [.ref a1, .ref a2, .ref a3, .int (nI n), .int sn, .int sg])), (a1, .inl (cI, 9, .inl fg)), (a2, .inl (cI, 9, .inl fb)), (a3, .inl (cI, 9, .inl fp)), (h3, .inr (3, [.ref b1, .ref b2, .int (nI n), .int rc, .int (nI y)])), (b1, .inl (cJ, 320, .inr (.inl fw))), (l3, .inl (cI, 512, .inl lp))]) [0, 1, 2, 3, 4, 5, 6, 7] (by decide) rfl).weaken (fun _ _ _ _ => trivial)⟩⟩ rfl rfl hl.1 rfl (lv_room (Nat.le_of_ble_eq_true rfl)) dX0_bound_2 ⟨Nat.le_of_ble_eq_true rfl, Nat.le_of_ble_eq_true rfl⟩) hS hP hD (fun (u : (Nat → Int32)) => [(h0, .inr (0, [.ref h4, .ref h3, .ref l3])), (h4, .inr (4, [.ref a1, .ref a2, .ref a3, .int (nI n), .int sn, .int sg])), (a1, .inl (cI, 9, .inl fg)), (a2, .inl (cI, 9, .inl fb)), (a3, .inl (cI, 9, .inl fp)), (h3, .inr (3, [.ref b1, .ref b2, .int (nI n), .int rc, .int (nI y)])), (b1, .inl (cJ, 320, .inr (.inl fw))), (l3, .inl (cI, 512, .inl u))]) [0, 1, 2, 3, 4, 5, 6, 7] [] rfl rfl rfl (fun _ => rfl) (fun _ => rfl) rfl (fun _ => rfl) (fun _ => rfl) (m_cov rfl) (m_dis rfl) (fun r1 u1 H locs w1r hP hD hS => ?_)
  obtain ⟨u1_ul, rfl⟩ : ∃ z, z = u1 := ⟨_, rfl⟩
  have hP : va_P D vwCl [(h0, .inr (0, [.ref h4, .ref h3, .ref l3])), (h4, .inr (4, [.ref a1, .ref a2, .ref a3, .int (nI n), .int sn, .int sg])), (a1, .inl (cI, 9, .inl fg)), (a2, .inl (cI, 9, .inl fb)), (a3, .inl (cI, 9, .inl fp)), (h3, .inr (3, [.ref b1, .ref b2, .int (nI n), .int rc, .int (nI y)])), (b1, .inl (cJ, 320, .inr (.inl fw))), (l3, .inl (cI, 512, .inl u1_ul))] H := hP
  have hD : va_D (aA as) [(h0, .inr (0, [.ref h4, .ref h3, .ref l3])), (h4, .inr (4, [.ref a1, .ref a2, .ref a3, .int (nI n), .int sn, .int sg])), (a1, .inl (cI, 9, .inl fg)), (a2, .inl (cI, 9, .inl fb)), (a3, .inl (cI, 9, .inl fp)), (h3, .inr (3, [.ref b1, .ref b2, .int (nI n), .int rc, .int (nI y)])), (b1, .inl (cJ, 320, .inr (.inl fw))), (l3, .inl (cI, 512, .inl u1_ul))] := hD
  have w1 : True := w1r
  clear w1r
  refine lv_aload_n hx hb dX0_bound_5 rfl (lv_at hl 0 rfl) ?_
  refine lv_iconst (v := nI 0) hx hb dX0_bound_6 (by decide) ?_
  refine mu2_l (n := 8) (wc := [(h0, .inr (0, [.ref h4, .ref h3, .ref l3])), (h4, .inr (4, [.ref a1, .ref a2, .ref a3, .int (nI n), .int sn, .int sg])), (a1, .inl (cI, 9, .inl fg)), (a2, .inl (cI, 9, .inl fb)), (a3, .inl (cI, 9, .inl fp)), (h3, .inr (3, [.ref b1, .ref b2, .int (nI n), .int rc, .int (nI y)])), (b1, .inl (cJ, 320, .inr (.inl fw))), (l3, .inl (cI, 512, .inl u1_ul))]) (wr := []) (as0 := [h0, h4, a1, a2, a3, h3, b1, l3]) (va_runV (As := [.int (nI 0)]) (rest := [.long r1]) ⟨hx, hb, hml, hown, hts⟩ (c_X0_boundOfSide l D cI cJ cZ h0 h4 h3 l3 a1 a2 a3 b1 b2 n y sn sg rc fg fb fp fw (nI 0) u1_ul (by first | assumption | omega) (by first | assumption | omega)) (cwV 1 hts gX0_bound_X0_boundOfSide rfl rfl rfl (by decide +kernel) ⟨Nat.le_of_ble_eq_true rfl, Nat.le_of_ble_eq_true rfl⟩) ⟨pm_blind, va_recv hK hP (ci := 0) (q0 := 0) rfl rfl, fun U hU hW => ⟨rfl, by rw [hU]; exact hP.sub (ws' := [(h0, .inr (0, [.ref h4, .ref h3, .ref l3])), (h4, .inr (4, [.ref a1, .ref a2, .ref a3, .int (nI n), .int sn, .int sg])), (a1, .inl (cI, 9, .inl fg)), (a2, .inl (cI, 9, .inl fb)), (a3, .inl (cI, 9, .inl fp)), (h3, .inr (3, [.ref b1, .ref b2, .int (nI n), .int rc, .int (nI y)])), (b1, .inl (cJ, 320, .inr (.inl fw))), (l3, .inl (cI, 512, .inl u1_ul))]) [0, 1, 2, 3, 4, 5, 6, 7] rfl, hKN.warm hW, (hD.sub (ws' := [(h0, .inr (0, [.ref h4, .ref h3, .ref l3])), (h4, .inr (4, [.ref a1, .ref a2, .ref a3, .int (nI n), .int sn, .int sg])), (a1, .inl (cI, 9, .inl fg)), (a2, .inl (cI, 9, .inl fb)), (a3, .inl (cI, 9, .inl fp)), (h3, .inr (3, [.ref b1, .ref b2, .int (nI n), .int rc, .int (nI y)])), (b1, .inl (cJ, 320, .inr (.inl fw))), (l3, .inl (cI, 512, .inl u1_ul))]) [0, 1, 2, 3, 4, 5, 6, 7] (by decide) rfl).weaken (fun _ _ _ _ => trivial)⟩⟩ rfl rfl hl.1 rfl (lv_room (Nat.le_of_ble_eq_true rfl)) dX0_bound_7 ⟨Nat.le_of_ble_eq_true rfl, Nat.le_of_ble_eq_true rfl⟩) hS hP hD (fun (u : (Nat → Int32)) => [(h0, .inr (0, [.ref h4, .ref h3, .ref l3])), (h4, .inr (4, [.ref a1, .ref a2, .ref a3, .int (nI n), .int sn, .int sg])), (a1, .inl (cI, 9, .inl fg)), (a2, .inl (cI, 9, .inl fb)), (a3, .inl (cI, 9, .inl fp)), (h3, .inr (3, [.ref b1, .ref b2, .int (nI n), .int rc, .int (nI y)])), (b1, .inl (cJ, 320, .inr (.inl fw))), (l3, .inl (cI, 512, .inl u))]) [0, 1, 2, 3, 4, 5, 6, 7] [] rfl rfl rfl (fun _ => rfl) (fun _ => rfl) rfl (fun _ => rfl) (fun _ => rfl) (m_cov rfl) (m_dis rfl) (fun r2 u2 H locs w2r hP hD hS => ?_)
  obtain ⟨u2_ul, rfl⟩ : ∃ z, z = u2 := ⟨_, rfl⟩
  have hP : va_P D vwCl [(h0, .inr (0, [.ref h4, .ref h3, .ref l3])), (h4, .inr (4, [.ref a1, .ref a2, .ref a3, .int (nI n), .int sn, .int sg])), (a1, .inl (cI, 9, .inl fg)), (a2, .inl (cI, 9, .inl fb)), (a3, .inl (cI, 9, .inl fp)), (h3, .inr (3, [.ref b1, .ref b2, .int (nI n), .int rc, .int (nI y)])), (b1, .inl (cJ, 320, .inr (.inl fw))), (l3, .inl (cI, 512, .inl u2_ul))] H := hP
  have hD : va_D (aA as) [(h0, .inr (0, [.ref h4, .ref h3, .ref l3])), (h4, .inr (4, [.ref a1, .ref a2, .ref a3, .int (nI n), .int sn, .int sg])), (a1, .inl (cI, 9, .inl fg)), (a2, .inl (cI, 9, .inl fb)), (a3, .inl (cI, 9, .inl fp)), (h3, .inr (3, [.ref b1, .ref b2, .int (nI n), .int rc, .int (nI y)])), (b1, .inl (cJ, 320, .inr (.inl fw))), (l3, .inl (cI, 512, .inl u2_ul))] := hD
  have w2 : True := w2r
  clear w2r
  refine lv_ladd hx hb dX0_bound_10 ?_
  rw [← hQ]
  exact W.lret (v := r1 + r2) hx hb hr (fun tS htS hWS => ⟨⟨(r1 + r2), (u2_ul), rfl, trivial, m_at htS hP⟩, by rw [← has]; exact hS.F htS⟩) (by rw [← has]; exact hS.2.2) dX0_bound_11
