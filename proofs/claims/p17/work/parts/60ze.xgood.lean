def rm_c_X0_goodWeights_v : Room := { frames := 2, cells := 0, slots := 0, locals := 46 }
set_option maxHeartbeats 400000 in
set_option maxRecDepth 100000 in
theorem c_X0_goodWeights_v (l : Launch) (D : va_G) (cI cJ cZ : ClassId) (h0 : Nat) (h4 : Nat) (h3 : Nat) (l3 : Nat) (a1 : Nat) (a2 : Nat) (a3 : Nat) (b1 : Nat) (b2 : Nat) (n : Nat) (y : Nat) (sn : Int32) (sg : Int32) (rc : Int32) (fg : Nat → Int32) (fb : Nat → Int32) (fp : Nat → Int32) (fw : Nat → Int64) (hn : n ≤ 9) (hy : y < 40) : Met l yX0_goodWeights wsX0_goodWeights rm_c_X0_goodWeights_v (pc_ D cI cJ cZ [.ref h0] [(h0, .inr (0, [.ref h4, .ref h3, .ref l3])), (h4, .inr (4, [.ref a1, .ref a2, .ref a3, .int (nI n), .int sn, .int sg])), (a1, .inl (cI, 9, .inl fg)), (a2, .inl (cI, 9, .inl fb)), (a3, .inl (cI, 9, .inl fp)), (h3, .inr (3, [.ref b1, .ref b2, .int (nI n), .int rc, .int (nI y)])), (b1, .inl (cJ, 320, .inr (.inl fw)))]) (va_Ql (fun (r : Int64) (_ : Unit) => SQ (fun t => (nI t &&& sn = sg) ∧ isG fw y t) (fun t => lf fg fb (nI (2 ^ n - 1)) (nI t) n) (2 ^ n) r) (fun _ _ => True) aN) 0 0 aN := by
  refine Met.ofW (cc := cX0_goodWeights) (maxL := 4) (ret := (some .long)) (by decide) rfl ?_
  intro p e s m args below meth c s₁ B hml hv
  obtain ⟨rfl, hP, hKN⟩ := hv
  have hK := hKN.1
  have hx := B.exec
  have hb := B.bytes
  have hr := B.returns
  have hts := atoms_spec (ws := wsX0_goodWeights) B.pre
  have hown : s.vm.findClass RX0 = some m.cls := findClass_of_methodNamed B.named
  have hlocks := B.notSynchronized
  have hiX0 : ∀ w ∈ wsX00, w ∈ wsX0_goodWeights := by decide +kernel
  have hiX4 : ∀ w ∈ wsX40, w ∈ wsX0_goodWeights := by decide +kernel
  have hf15 := hts (.fieldLink RX0 15 "LookBench$Bounds" "shelf" "LLookBench$Shelf;") (by decide +kernel)
  have hf19 := hts (.fieldLink RX0 19 "LookBench$Bounds" "rules" "LLookBench$Rules;") (by decide +kernel)
  have hf23 := va_Nw.use (A := [.ref h0].toArray) rfl (hKN.2 (.fieldLinkNest RX0 23 RX4 "count" "I" RX6) (by decide +kernel))
  have hS : va_S aN s.heap s.heap [] := va_S.rf
  have hl := lv_entry ([.ref h0]) (n := 4) (Nat.le_of_ble_eq_true rfl)
  rw [lg_entry_eq]
  generalize (lg_sl ([.ref h0]) ++ List.replicate (4 - (lg_sl ([.ref h0])).length) Slot.unset).toArray = ls at hl ⊢
  have hl : lv_has ls 4 [(0, .ref h0)] := hl
  generalize hQ : MQ below _ _ s _ _ _ = Q
  obtain ⟨H, hH⟩ : ∃ z, z = s.heap := ⟨_, rfl⟩
  have hP : va_P D vwCl [(h0, .inr (0, [.ref h4, .ref h3, .ref l3])), (h4, .inr (4, [.ref a1, .ref a2, .ref a3, .int (nI n), .int sn, .int sg])), (a1, .inl (cI, 9, .inl fg)), (a2, .inl (cI, 9, .inl fb)), (a3, .inl (cI, 9, .inl fp)), (h3, .inr (3, [.ref b1, .ref b2, .int (nI n), .int rc, .int (nI y)])), (b1, .inl (cJ, 320, .inr (.inl fw)))] H := by rw [hH]; exact hP
  have hS : va_S aN s.heap H [] := by rw [hH]; exact hS
  refine m_heap hH ?_
  clear hH
  have h2n := m_pow hn
  have h2p := m_powp n
  refine lv_lconst (v := lN 0) hx hb dX0_goodWeights_0 (by decide) ?_
  refine lv_lstore_n (lv' := [(1, .long (lN 0)), (0, .ref h0)]) hx hb dX0_goodWeights_1 rfl hl (by decide) rfl (fun ls hl => ?_)
  refine lv_iconst (v := nI 0) hx hb dX0_goodWeights_2 (by decide) ?_
  refine lv_istore_n (lv' := [(3, .int (nI 0)), (1, .long (lN 0)), (0, .ref h0)]) hx hb dX0_goodWeights_3 rfl hl (by decide) rfl (fun ls hl => ?_)
  have loop1 : ∀ (fu : Nat) (k : Nat) (v : Int64) (H : Heap) (locs : List Loc) (ls : Array Slot), (k ≤ 2 ^ n ∧ 2 ^ n < k + fu) → (SQ (fun t => (nI t &&& sn = sg) ∧ isG fw y t) (fun t => lf fg fb (nI (2 ^ n - 1)) (nI t) n) k v) → va_P D vwCl [(h0, .inr (0, [.ref h4, .ref h3, .ref l3])), (h4, .inr (4, [.ref a1, .ref a2, .ref a3, .int (nI n), .int sn, .int sg])), (a1, .inl (cI, 9, .inl fg)), (a2, .inl (cI, 9, .inl fb)), (a3, .inl (cI, 9, .inl fp)), (h3, .inr (3, [.ref b1, .ref b2, .int (nI n), .int rc, .int (nI y)])), (b1, .inl (cJ, 320, .inr (.inl fw)))] H → va_S aN s.heap H locs → lv_has ls 4 [(3, .int (nI k)), (1, .long v), (0, .ref h0)] → W p l e (headSpec wsX0_goodWeights rm_c_X0_goodWeights_v).room s m ([.ref h0] : List Value).toArray below meth c H locs 0 0 Q (F0 m 4 ls []) := by
    intro fu
    induction fu with
    | zero => intro k v H locs ls hk hSq; exact absurd hk (by omega)
    | succ fu ih1 =>
      intro k v H locs ls hk hSq hP hS hl
      refine lv_iload_n hx hb dX0_goodWeights_4 rfl (lv_at hl 0 rfl) ?_
      refine lv_iconst (v := nI 1) hx hb dX0_goodWeights_5 (by decide) ?_
      refine lv_aload_n hx hb dX0_goodWeights_6 rfl (lv_at hl 2 rfl) ?_
      refine va_get (D := D) (ci := 0) (v := .ref h4) (C := RX0) (T := TX0) (N := 3) hx hb hts hiX0 hown hK hP 0 rfl rfl 0 (by decide) hf15 (fun _ h9 => h9) rfl dX0_goodWeights_7 ?_
      refine va_getN (D := D) (ci := 4) (v := .int (nI n)) (C := RX4) (T := TX4) (N := 6) hx hb hts hiX4 hown hK hP 1 rfl rfl 3 (by decide) hf23 (fun _ h9 => h9) rfl dX0_goodWeights_10 ?_
      refine lv_ishl hx hb dX0_goodWeights_13 ?_
      refine cn_i (y := nI (2 ^ n)) (m_shl1 (by omega)) ?_
      refine lv_icmp_ge (tgt := 56) hx hb dX0_goodWeights_14 (by decide) (fun c2 => ?_) (fun c2 => ?_)
      · skip
        have d2 := c2
        rw [nI_leI (by omega) (by omega)] at d2
        refine lv_lload_n hx hb dX0_goodWeights_56 rfl (lv_at hl 1 rfl) ?_
        rw [← hQ]
        exact W.lret (v := v) hx hb hr (fun tS htS hWS => ⟨⟨v, (), rfl, (show k = 2 ^ n by omega) ▸ hSq, trivial⟩, hS.F htS⟩) hS.2.2 dX0_goodWeights_57
      · skip
        have d2 := c2
        rw [nI_leI (by omega) (by omega)] at d2
        refine lv_aload_n hx hb dX0_goodWeights_17 rfl (lv_at hl 2 rfl) ?_
        refine va_get (D := D) (ci := 0) (v := .ref h4) (C := RX0) (T := TX0) (N := 3) hx hb hts hiX0 hown hK hP 0 rfl rfl 0 (by decide) hf15 (fun _ h9 => h9) rfl dX0_goodWeights_18 ?_
        refine lv_iload_n hx hb dX0_goodWeights_21 rfl (lv_at hl 0 rfl) ?_
        refine pu_i (va_runV (As := [.int (nI k)]) (rest := []) ⟨hx, hb, hml, hown, hts⟩ (c_X4_fits l D cI cJ cZ h4 a1 a2 a3 (nI n) sn sg (nI k)) (cwV 1 hts gX0_goodWeights_X4_fits rfl rfl rfl (by decide +kernel) ⟨Nat.le_of_ble_eq_true rfl, Nat.le_of_ble_eq_true rfl⟩) ⟨pc_blind, va_recv hK hP (ci := 4) (q0 := 1) rfl rfl, fun U hU hW => ⟨rfl, by rw [hU]; exact hP.sub (ws' := [(h4, .inr (4, [.ref a1, .ref a2, .ref a3, .int (nI n), .int sn, .int sg]))]) [1] rfl, hKN.warm hW⟩⟩ rfl rfl hl.1 rfl (lv_room (Nat.le_of_ble_eq_true rfl)) dX0_goodWeights_22 ⟨Nat.le_of_ble_eq_true rfl, Nat.le_of_ble_eq_true rfl⟩) hS hP (fun r3 H locs w3r hP hS => ?_)
        have w3 : B01 r3 ((nI k) &&& sn = sg) := w3r
        clear w3r
        rcases w3 with ⟨rfl, w3⟩ | ⟨rfl, w3⟩
        · skip
          have hfi := w3
          refine lv_if_eq (tgt := 50) hx hb dX0_goodWeights_25 (by decide) (fun c4 => ?_) (fun c4 => ?_)
          · exact absurd c4 (by first | decide | exact nz_lt (by omega) | exact fun h => h (nz_ge (by omega)))
          · skip
            refine lv_aload_n hx hb dX0_goodWeights_28 rfl (lv_at hl 2 rfl) ?_
            refine va_get (D := D) (ci := 0) (v := .ref h3) (C := RX0) (T := TX0) (N := 3) hx hb hts hiX0 hown hK hP 0 rfl rfl 1 (by decide) hf19 (fun _ h9 => h9) rfl dX0_goodWeights_29 ?_
            refine lv_iload_n hx hb dX0_goodWeights_32 rfl (lv_at hl 0 rfl) ?_
            refine pu_i (va_runV (As := [.int (nI k)]) (rest := []) ⟨hx, hb, hml, hown, hts⟩ (c_X3_isSystemGood l D cI cJ cZ h3 b1 b2 y k (nI n) rc fw (by first | assumption | omega) (by first | assumption | omega)) (cwV 1 hts gX0_goodWeights_X3_isSystemGood rfl rfl rfl (by decide +kernel) ⟨Nat.le_of_ble_eq_true rfl, Nat.le_of_ble_eq_true rfl⟩) ⟨pc_blind, va_recv hK hP (ci := 3) (q0 := 5) rfl rfl, fun U hU hW => ⟨rfl, by rw [hU]; exact hP.sub (ws' := [(h3, .inr (3, [.ref b1, .ref b2, .int (nI n), .int rc, .int (nI y)])), (b1, .inl (cJ, 320, .inr (.inl fw)))]) [5, 6] rfl, hKN.warm hW⟩⟩ rfl rfl hl.1 rfl (lv_room (Nat.le_of_ble_eq_true rfl)) dX0_goodWeights_33 ⟨Nat.le_of_ble_eq_true rfl, Nat.le_of_ble_eq_true rfl⟩) hS hP (fun r5 H locs w5r hP hS => ?_)
            have w5 : B01 r5 (isG fw y k) := w5r
            clear w5r
            rcases w5 with ⟨rfl, w5⟩ | ⟨rfl, w5⟩
            · skip
              have hg1 := w5
              refine lv_if_eq (tgt := 50) hx hb dX0_goodWeights_36 (by decide) (fun c6 => ?_) (fun c6 => ?_)
              · exact absurd c6 (by first | decide | exact nz_lt (by omega) | exact fun h => h (nz_ge (by omega)))
              · skip
                refine lv_lload_n hx hb dX0_goodWeights_39 rfl (lv_at hl 1 rfl) ?_
                refine lv_aload_n hx hb dX0_goodWeights_40 rfl (lv_at hl 2 rfl) ?_
                refine va_get (D := D) (ci := 0) (v := .ref h4) (C := RX0) (T := TX0) (N := 3) hx hb hts hiX0 hown hK hP 0 rfl rfl 0 (by decide) hf15 (fun _ h9 => h9) rfl dX0_goodWeights_41 ?_
                refine lv_iload_n hx hb dX0_goodWeights_44 rfl (lv_at hl 0 rfl) ?_
                refine pu_l (va_runV (As := [.int (nI k)]) (rest := [.long v]) ⟨hx, hb, hml, hown, hts⟩ (c_X4_weight l D cI cJ cZ h4 a1 a2 a3 n sn sg (nI k) fg fb (by first | assumption | omega)) (cwV 1 hts gX0_goodWeights_X4_weight rfl rfl rfl (by decide +kernel) ⟨Nat.le_of_ble_eq_true rfl, Nat.le_of_ble_eq_true rfl⟩) ⟨pc_blind, va_recv hK hP (ci := 4) (q0 := 1) rfl rfl, fun U hU hW => ⟨rfl, by rw [hU]; exact hP.sub (ws' := [(h4, .inr (4, [.ref a1, .ref a2, .ref a3, .int (nI n), .int sn, .int sg])), (a1, .inl (cI, 9, .inl fg)), (a2, .inl (cI, 9, .inl fb))]) [1, 2, 3] rfl, hKN.warm hW⟩⟩ rfl rfl hl.1 rfl (lv_room (Nat.le_of_ble_eq_true rfl)) dX0_goodWeights_45 ⟨Nat.le_of_ble_eq_true rfl, Nat.le_of_ble_eq_true rfl⟩) hS hP (fun r7 H locs w7r hP hS => ?_)
                have w7 : r7 = lf fg fb (nI (2 ^ n - 1)) (nI k) n := w7r
                clear w7r
                obtain rfl : r7 = lf fg fb (nI (2 ^ n - 1)) (nI k) n := w7
                refine lv_ladd hx hb dX0_goodWeights_48 ?_
                refine lv_lstore_n (lv' := [(1, .long (v + (lf fg fb (nI (2 ^ n - 1)) (nI k) n))), (3, .int (nI k)), (0, .ref h0)]) hx hb dX0_goodWeights_49 rfl hl (by decide) rfl (fun ls hl => ?_)
                refine lv_iinc (v := nI (k + 1)) (lv' := [(3, .int (nI (k + 1))), (1, .long (v + (lf fg fb (nI (2 ^ n - 1)) (nI k) n))), (0, .ref h0)]) hx hb dX0_goodWeights_50 hl (k := 1) rfl (nI_1 k) (by decide) rfl (fun ls hl => ?_)
                refine lv_goto (tgt := 4) hx hb dX0_goodWeights_53 (by decide) ?_
                exact ih1 (k + 1) (v + (lf fg fb (nI (2 ^ n - 1)) (nI k) n)) _ _ _ (by omega) (by first | exact Or.inl ⟨⟨hfi, hg1⟩, v, rfl, hSq⟩ | exact Or.inr ⟨fun h => hg1 h.2, hSq⟩ | exact Or.inr ⟨fun h => hfi h.1, hSq⟩) hP hS (lv_sub hl [0, 1, 2] rfl)
            · skip
              have hg1 := w5
              refine lv_if_eq (tgt := 50) hx hb dX0_goodWeights_36 (by decide) (fun c8 => ?_) (fun c8 => ?_)
              · skip
                refine lv_iinc (v := nI (k + 1)) (lv' := [(3, .int (nI (k + 1))), (1, .long v), (0, .ref h0)]) hx hb dX0_goodWeights_50 hl (k := 0) rfl (nI_1 k) (by decide) rfl (fun ls hl => ?_)
                refine lv_goto (tgt := 4) hx hb dX0_goodWeights_53 (by decide) ?_
                exact ih1 (k + 1) v _ _ _ (by omega) (by first | exact Or.inl ⟨⟨hfi, hg1⟩, v, rfl, hSq⟩ | exact Or.inr ⟨fun h => hg1 h.2, hSq⟩ | exact Or.inr ⟨fun h => hfi h.1, hSq⟩) hP hS (lv_sub hl [0, 1, 2] rfl)
              · exact absurd c8 (by first | decide | exact nz_lt (by omega) | exact fun h => h (nz_ge (by omega)))
        · skip
          have hfi := w3
          refine lv_if_eq (tgt := 50) hx hb dX0_goodWeights_25 (by decide) (fun c9 => ?_) (fun c9 => ?_)
          · skip
            refine lv_iinc (v := nI (k + 1)) (lv' := [(3, .int (nI (k + 1))), (1, .long v), (0, .ref h0)]) hx hb dX0_goodWeights_50 hl (k := 0) rfl (nI_1 k) (by decide) rfl (fun ls hl => ?_)
            refine lv_goto (tgt := 4) hx hb dX0_goodWeights_53 (by decide) ?_
            exact ih1 (k + 1) v _ _ _ (by omega) (by first | exact Or.inl ⟨⟨hfi, hg1⟩, v, rfl, hSq⟩ | exact Or.inr ⟨fun h => hg1 h.2, hSq⟩ | exact Or.inr ⟨fun h => hfi h.1, hSq⟩) hP hS (lv_sub hl [0, 1, 2] rfl)
          · exact absurd c9 (by first | decide | exact nz_lt (by omega) | exact fun h => h (nz_ge (by omega)))
  exact loop1 (2 ^ n + 1) 0 (lN 0) _ _ _ (by omega) rfl hP hS (lv_sub hl [0, 1, 2] rfl)
