def rm_c_X0_matters_v : Room := { frames := 2, cells := 0, slots := 0, locals := 46 }
set_option maxHeartbeats 400000 in
set_option maxRecDepth 100000 in
theorem c_X0_matters_v (l : Launch) (D : va_G) (cI cJ cZ : ClassId) (h0 : Nat) (h4 : Nat) (h3 : Nat) (l3 : Nat) (a1 : Nat) (a2 : Nat) (a3 : Nat) (b1 : Nat) (b2 : Nat) (n : Nat) (y : Nat) (j : Nat) (sn : Int32) (sg : Int32) (rc : Int32) (fg : Nat → Int32) (fb : Nat → Int32) (fp : Nat → Int32) (fw : Nat → Int64) (hn : n ≤ 9) (hy : y < 40) (hj : j < 9) : Met l yX0_matters wsX0_matters rm_c_X0_matters_v (pc_ D cI cJ cZ [.ref h0, .int (nI j)] [(h0, .inr (0, [.ref h4, .ref h3, .ref l3])), (h4, .inr (4, [.ref a1, .ref a2, .ref a3, .int (nI n), .int sn, .int sg])), (a1, .inl (cI, 9, .inl fg)), (a2, .inl (cI, 9, .inl fb)), (a3, .inl (cI, 9, .inl fp)), (h3, .inr (3, [.ref b1, .ref b2, .int (nI n), .int rc, .int (nI y)])), (b1, .inl (cJ, 320, .inr (.inl fw)))]) (va_Ql (fun (r : Int64) (_ : Unit) => SQ (fun t => (nI t &&& sn = sg) ∧ ¬ (isG fw y t ↔ isG fw y (t ^^^ 2 ^ j))) (fun t => lf fg fb (nI (2 ^ n - 1)) (nI t) n) (2 ^ n) r) (fun _ _ => True) aN) 0 0 aN := by
  refine Met.ofW (cc := cX0_matters) (maxL := 5) (ret := (some .long)) (by decide) rfl ?_
  intro p e s m args below meth c s₁ B hml hv
  obtain ⟨rfl, hP, hKN⟩ := hv
  have hK := hKN.1
  have hx := B.exec
  have hb := B.bytes
  have hr := B.returns
  have hts := atoms_spec (ws := wsX0_matters) B.pre
  have hown : s.vm.findClass RX0 = some m.cls := findClass_of_methodNamed B.named
  have hlocks := B.notSynchronized
  have hiX0 : ∀ w ∈ wsX00, w ∈ wsX0_matters := by decide +kernel
  have hiX4 : ∀ w ∈ wsX40, w ∈ wsX0_matters := by decide +kernel
  have hf15 := hts (.fieldLink RX0 15 "LookBench$Bounds" "shelf" "LLookBench$Shelf;") (by decide +kernel)
  have hf19 := hts (.fieldLink RX0 19 "LookBench$Bounds" "rules" "LLookBench$Rules;") (by decide +kernel)
  have hf23 := va_Nw.use (A := [.ref h0, .int (nI j)].toArray) rfl (hKN.2 (.fieldLinkNest RX0 23 RX4 "count" "I" RX6) (by decide +kernel))
  have hS : va_S aN s.heap s.heap [] := va_S.rf
  have hl := lv_entry ([.ref h0, .int (nI j)]) (n := 5) (Nat.le_of_ble_eq_true rfl)
  rw [lg_entry_eq]
  generalize (lg_sl ([.ref h0, .int (nI j)]) ++ List.replicate (5 - (lg_sl ([.ref h0, .int (nI j)])).length) Slot.unset).toArray = ls at hl ⊢
  have hl : lv_has ls 5 [(0, .ref h0), (1, .int (nI j))] := hl
  generalize hQ : MQ below _ _ s _ _ _ = Q
  obtain ⟨H, hH⟩ : ∃ z, z = s.heap := ⟨_, rfl⟩
  have hP : va_P D vwCl [(h0, .inr (0, [.ref h4, .ref h3, .ref l3])), (h4, .inr (4, [.ref a1, .ref a2, .ref a3, .int (nI n), .int sn, .int sg])), (a1, .inl (cI, 9, .inl fg)), (a2, .inl (cI, 9, .inl fb)), (a3, .inl (cI, 9, .inl fp)), (h3, .inr (3, [.ref b1, .ref b2, .int (nI n), .int rc, .int (nI y)])), (b1, .inl (cJ, 320, .inr (.inl fw)))] H := by rw [hH]; exact hP
  have hS : va_S aN s.heap H [] := by rw [hH]; exact hS
  refine m_heap hH ?_
  clear hH
  have h2n := m_pow hn
  have h2p := m_powp n
  have hp9 := m_p512 hj
  refine lv_lconst (v := lN 0) hx hb dX0_matters_0 (by decide) ?_
  refine lv_lstore_n (lv' := [(2, .long (lN 0)), (0, .ref h0), (1, .int (nI j))]) hx hb dX0_matters_1 rfl hl (by decide) rfl (fun ls hl => ?_)
  refine lv_iconst (v := nI 0) hx hb dX0_matters_2 (by decide) ?_
  refine lv_istore (lv' := [(4, .int (nI 0)), (2, .long (lN 0)), (0, .ref h0), (1, .int (nI j))]) hx hb dX0_matters_3 hl (by decide) rfl (fun ls hl => ?_)
  have loop1 : ∀ (fu : Nat) (k : Nat) (v : Int64) (H : Heap) (locs : List Loc) (ls : Array Slot), (k ≤ 2 ^ n ∧ 2 ^ n < k + fu) → (SQ (fun t => (nI t &&& sn = sg) ∧ ¬ (isG fw y t ↔ isG fw y (t ^^^ 2 ^ j))) (fun t => lf fg fb (nI (2 ^ n - 1)) (nI t) n) k v) → va_P D vwCl [(h0, .inr (0, [.ref h4, .ref h3, .ref l3])), (h4, .inr (4, [.ref a1, .ref a2, .ref a3, .int (nI n), .int sn, .int sg])), (a1, .inl (cI, 9, .inl fg)), (a2, .inl (cI, 9, .inl fb)), (a3, .inl (cI, 9, .inl fp)), (h3, .inr (3, [.ref b1, .ref b2, .int (nI n), .int rc, .int (nI y)])), (b1, .inl (cJ, 320, .inr (.inl fw)))] H → va_S aN s.heap H locs → lv_has ls 5 [(4, .int (nI k)), (2, .long v), (0, .ref h0), (1, .int (nI j))] → W p l e (headSpec wsX0_matters rm_c_X0_matters_v).room s m ([.ref h0, .int (nI j)] : List Value).toArray below meth c H locs 0 0 Q (F0 m 5 ls []) := by
    intro fu
    induction fu with
    | zero => intro k v H locs ls hk hSq; exact absurd hk (by omega)
    | succ fu ih1 =>
      intro k v H locs ls hk hSq hP hS hl
      refine lv_iload hx hb dX0_matters_5 (lv_at hl 0 rfl) ?_
      refine lv_iconst (v := nI 1) hx hb dX0_matters_7 (by decide) ?_
      refine lv_aload_n hx hb dX0_matters_8 rfl (lv_at hl 2 rfl) ?_
      refine va_get (D := D) (ci := 0) (v := .ref h4) (C := RX0) (T := TX0) (N := 3) hx hb hts hiX0 hown hK hP 0 rfl rfl 0 (by decide) hf15 (fun _ h9 => h9) rfl dX0_matters_9 ?_
      refine va_getN (D := D) (ci := 4) (v := .int (nI n)) (C := RX4) (T := TX4) (N := 6) hx hb hts hiX4 hown hK hP 1 rfl rfl 3 (by decide) hf23 (fun _ h9 => h9) rfl dX0_matters_12 ?_
      refine lv_ishl hx hb dX0_matters_15 ?_
      refine cn_i (y := nI (2 ^ n)) (m_shl1 (by omega)) ?_
      refine lv_icmp_ge (tgt := 74) hx hb dX0_matters_16 (by decide) (fun c2 => ?_) (fun c2 => ?_)
      · skip
        have d2 := c2
        rw [nI_leI (by omega) (by omega)] at d2
        refine lv_lload_n hx hb dX0_matters_74 rfl (lv_at hl 1 rfl) ?_
        rw [← hQ]
        exact W.lret (v := v) hx hb hr (fun tS htS hWS => ⟨⟨v, (), rfl, (show k = 2 ^ n by omega) ▸ hSq, trivial⟩, hS.F htS⟩) hS.2.2 dX0_matters_75
      · skip
        have d2 := c2
        rw [nI_leI (by omega) (by omega)] at d2
        refine lv_aload_n hx hb dX0_matters_19 rfl (lv_at hl 2 rfl) ?_
        refine va_get (D := D) (ci := 0) (v := .ref h4) (C := RX0) (T := TX0) (N := 3) hx hb hts hiX0 hown hK hP 0 rfl rfl 0 (by decide) hf15 (fun _ h9 => h9) rfl dX0_matters_20 ?_
        refine lv_iload hx hb dX0_matters_23 (lv_at hl 0 rfl) ?_
        refine pu_i (va_runV (As := [.int (nI k)]) (rest := []) ⟨hx, hb, hml, hown, hts⟩ (c_X4_fits l D cI cJ cZ h4 a1 a2 a3 (nI n) sn sg (nI k)) (cwV 1 hts gX0_matters_X4_fits rfl rfl rfl (by decide +kernel) ⟨Nat.le_of_ble_eq_true rfl, Nat.le_of_ble_eq_true rfl⟩) ⟨pc_blind, va_recv hK hP (ci := 4) (q0 := 1) rfl rfl, fun U hU hW => ⟨rfl, by rw [hU]; exact hP.sub (ws' := [(h4, .inr (4, [.ref a1, .ref a2, .ref a3, .int (nI n), .int sn, .int sg]))]) [1] rfl, hKN.warm hW⟩⟩ rfl rfl hl.1 rfl (lv_room (Nat.le_of_ble_eq_true rfl)) dX0_matters_25 ⟨Nat.le_of_ble_eq_true rfl, Nat.le_of_ble_eq_true rfl⟩) hS hP (fun r3 H locs w3r hP hS => ?_)
        have w3 : B01 r3 ((nI k) &&& sn = sg) := w3r
        clear w3r
        rcases w3 with ⟨rfl, w3⟩ | ⟨rfl, w3⟩
        · skip
          have hfi := w3
          refine lv_if_eq (tgt := 68) hx hb dX0_matters_28 (by decide) (fun c4 => ?_) (fun c4 => ?_)
          · exact absurd c4 (by first | decide | exact nz_lt (by omega) | exact fun h => h (nz_ge (by omega)))
          · skip
            have hx5 := m_x512 (a := k) (b := 2 ^ j) (by omega) hp9
            refine lv_aload_n hx hb dX0_matters_31 rfl (lv_at hl 2 rfl) ?_
            refine va_get (D := D) (ci := 0) (v := .ref h3) (C := RX0) (T := TX0) (N := 3) hx hb hts hiX0 hown hK hP 0 rfl rfl 1 (by decide) hf19 (fun _ h9 => h9) rfl dX0_matters_32 ?_
            refine lv_iload hx hb dX0_matters_35 (lv_at hl 0 rfl) ?_
            refine pu_i (va_runV (As := [.int (nI k)]) (rest := []) ⟨hx, hb, hml, hown, hts⟩ (c_X3_isSystemGood l D cI cJ cZ h3 b1 b2 y k (nI n) rc fw (by first | assumption | omega) (by first | assumption | omega)) (cwV 1 hts gX0_matters_X3_isSystemGood rfl rfl rfl (by decide +kernel) ⟨Nat.le_of_ble_eq_true rfl, Nat.le_of_ble_eq_true rfl⟩) ⟨pc_blind, va_recv hK hP (ci := 3) (q0 := 5) rfl rfl, fun U hU hW => ⟨rfl, by rw [hU]; exact hP.sub (ws' := [(h3, .inr (3, [.ref b1, .ref b2, .int (nI n), .int rc, .int (nI y)])), (b1, .inl (cJ, 320, .inr (.inl fw)))]) [5, 6] rfl, hKN.warm hW⟩⟩ rfl rfl hl.1 rfl (lv_room (Nat.le_of_ble_eq_true rfl)) dX0_matters_37 ⟨Nat.le_of_ble_eq_true rfl, Nat.le_of_ble_eq_true rfl⟩) hS hP (fun r5 H locs w5r hP hS => ?_)
            have w5 : B01 r5 (isG fw y k) := w5r
            clear w5r
            rcases w5 with ⟨rfl, w5⟩ | ⟨rfl, w5⟩
            · skip
              have hg1 := w5
              refine lv_aload_n hx hb dX0_matters_40 rfl (lv_at hl 2 rfl) ?_
              refine va_get (D := D) (ci := 0) (v := .ref h3) (C := RX0) (T := TX0) (N := 3) hx hb hts hiX0 hown hK hP 0 rfl rfl 1 (by decide) hf19 (fun _ h9 => h9) rfl dX0_matters_41 ?_
              refine lv_iload hx hb dX0_matters_44 (lv_at hl 0 rfl) ?_
              refine lv_iconst (v := nI 1) hx hb dX0_matters_46 (by decide) ?_
              refine lv_iload_n hx hb dX0_matters_47 rfl (lv_at hl 3 rfl) ?_
              refine lv_ishl hx hb dX0_matters_48 ?_
              refine cn_i (y := nI (2 ^ j)) (m_shl1 (by omega)) ?_
              refine lv_ixor hx hb dX0_matters_49 ?_
              refine cn_i (y := nI (k ^^^ (2 ^ j))) (mb_xor k (2 ^ j)) ?_
              refine pu_i (va_runV (As := [.int (nI (k ^^^ (2 ^ j)))]) (rest := [.int (nI 1)]) ⟨hx, hb, hml, hown, hts⟩ (c_X3_isSystemGood l D cI cJ cZ h3 b1 b2 y (k ^^^ (2 ^ j)) (nI n) rc fw (by first | assumption | omega) (by first | assumption | omega)) (cwV 1 hts gX0_matters_X3_isSystemGood rfl rfl rfl (by decide +kernel) ⟨Nat.le_of_ble_eq_true rfl, Nat.le_of_ble_eq_true rfl⟩) ⟨pc_blind, va_recv hK hP (ci := 3) (q0 := 5) rfl rfl, fun U hU hW => ⟨rfl, by rw [hU]; exact hP.sub (ws' := [(h3, .inr (3, [.ref b1, .ref b2, .int (nI n), .int rc, .int (nI y)])), (b1, .inl (cJ, 320, .inr (.inl fw)))]) [5, 6] rfl, hKN.warm hW⟩⟩ rfl rfl hl.1 rfl (lv_room (Nat.le_of_ble_eq_true rfl)) dX0_matters_50 ⟨Nat.le_of_ble_eq_true rfl, Nat.le_of_ble_eq_true rfl⟩) hS hP (fun r6 H locs w6r hP hS => ?_)
              have w6 : B01 r6 (isG fw y (k ^^^ (2 ^ j))) := w6r
              clear w6r
              rcases w6 with ⟨rfl, w6⟩ | ⟨rfl, w6⟩
              · skip
                have hg2 := w6
                refine lv_icmp_eq (tgt := 68) hx hb dX0_matters_53 (by decide) (fun c7 => ?_) (fun c7 => ?_)
                · skip
                  refine lv_iinc (v := nI (k + 1)) (lv' := [(4, .int (nI (k + 1))), (2, .long v), (0, .ref h0), (1, .int (nI j))]) hx hb dX0_matters_68 hl (k := 0) rfl (nI_1 k) (by decide) rfl (fun ls hl => ?_)
                  refine lv_goto (tgt := 5) hx hb dX0_matters_71 (by decide) ?_
                  exact ih1 (k + 1) v _ _ _ (by omega) (by first | exact Or.inl ⟨⟨hfi, fun h => absurd (h.mp hg1) hg2⟩, v, rfl, hSq⟩ | exact Or.inl ⟨⟨hfi, fun h => absurd (h.mpr hg2) hg1⟩, v, rfl, hSq⟩ | exact Or.inr ⟨fun h => h.2 ⟨fun _ => hg2, fun _ => hg1⟩, hSq⟩ | exact Or.inr ⟨fun h => h.2 ⟨fun a => absurd a hg1, fun a => absurd a hg2⟩, hSq⟩ | exact Or.inr ⟨fun h => hfi h.1, hSq⟩) hP hS (lv_sub hl [0, 1, 2, 3] rfl)
                · exact absurd c7 (by first | decide | exact nz_lt (by omega) | exact fun h => h (nz_ge (by omega)))
              · skip
                have hg2 := w6
                refine lv_icmp_eq (tgt := 68) hx hb dX0_matters_53 (by decide) (fun c8 => ?_) (fun c8 => ?_)
                · exact absurd c8 (by first | decide | exact nz_lt (by omega) | exact fun h => h (nz_ge (by omega)))
                · skip
                  refine lv_lload_n hx hb dX0_matters_56 rfl (lv_at hl 1 rfl) ?_
                  refine lv_aload_n hx hb dX0_matters_57 rfl (lv_at hl 2 rfl) ?_
                  refine va_get (D := D) (ci := 0) (v := .ref h4) (C := RX0) (T := TX0) (N := 3) hx hb hts hiX0 hown hK hP 0 rfl rfl 0 (by decide) hf15 (fun _ h9 => h9) rfl dX0_matters_58 ?_
                  refine lv_iload hx hb dX0_matters_61 (lv_at hl 0 rfl) ?_
                  refine pu_l (va_runV (As := [.int (nI k)]) (rest := [.long v]) ⟨hx, hb, hml, hown, hts⟩ (c_X4_weight l D cI cJ cZ h4 a1 a2 a3 n sn sg (nI k) fg fb (by first | assumption | omega)) (cwV 1 hts gX0_matters_X4_weight rfl rfl rfl (by decide +kernel) ⟨Nat.le_of_ble_eq_true rfl, Nat.le_of_ble_eq_true rfl⟩) ⟨pc_blind, va_recv hK hP (ci := 4) (q0 := 1) rfl rfl, fun U hU hW => ⟨rfl, by rw [hU]; exact hP.sub (ws' := [(h4, .inr (4, [.ref a1, .ref a2, .ref a3, .int (nI n), .int sn, .int sg])), (a1, .inl (cI, 9, .inl fg)), (a2, .inl (cI, 9, .inl fb))]) [1, 2, 3] rfl, hKN.warm hW⟩⟩ rfl rfl hl.1 rfl (lv_room (Nat.le_of_ble_eq_true rfl)) dX0_matters_63 ⟨Nat.le_of_ble_eq_true rfl, Nat.le_of_ble_eq_true rfl⟩) hS hP (fun r9 H locs w9r hP hS => ?_)
                  have w9 : r9 = lf fg fb (nI (2 ^ n - 1)) (nI k) n := w9r
                  clear w9r
                  obtain rfl : r9 = lf fg fb (nI (2 ^ n - 1)) (nI k) n := w9
                  refine lv_ladd hx hb dX0_matters_66 ?_
                  refine lv_lstore_n (lv' := [(2, .long (v + (lf fg fb (nI (2 ^ n - 1)) (nI k) n))), (4, .int (nI k)), (0, .ref h0), (1, .int (nI j))]) hx hb dX0_matters_67 rfl hl (by decide) rfl (fun ls hl => ?_)
                  refine lv_iinc (v := nI (k + 1)) (lv' := [(4, .int (nI (k + 1))), (2, .long (v + (lf fg fb (nI (2 ^ n - 1)) (nI k) n))), (0, .ref h0), (1, .int (nI j))]) hx hb dX0_matters_68 hl (k := 1) rfl (nI_1 k) (by decide) rfl (fun ls hl => ?_)
                  refine lv_goto (tgt := 5) hx hb dX0_matters_71 (by decide) ?_
                  exact ih1 (k + 1) (v + (lf fg fb (nI (2 ^ n - 1)) (nI k) n)) _ _ _ (by omega) (by first | exact Or.inl ⟨⟨hfi, fun h => absurd (h.mp hg1) hg2⟩, v, rfl, hSq⟩ | exact Or.inl ⟨⟨hfi, fun h => absurd (h.mpr hg2) hg1⟩, v, rfl, hSq⟩ | exact Or.inr ⟨fun h => h.2 ⟨fun _ => hg2, fun _ => hg1⟩, hSq⟩ | exact Or.inr ⟨fun h => h.2 ⟨fun a => absurd a hg1, fun a => absurd a hg2⟩, hSq⟩ | exact Or.inr ⟨fun h => hfi h.1, hSq⟩) hP hS (lv_sub hl [0, 1, 2, 3] rfl)
            · skip
              have hg1 := w5
              refine lv_aload_n hx hb dX0_matters_40 rfl (lv_at hl 2 rfl) ?_
              refine va_get (D := D) (ci := 0) (v := .ref h3) (C := RX0) (T := TX0) (N := 3) hx hb hts hiX0 hown hK hP 0 rfl rfl 1 (by decide) hf19 (fun _ h9 => h9) rfl dX0_matters_41 ?_
              refine lv_iload hx hb dX0_matters_44 (lv_at hl 0 rfl) ?_
              refine lv_iconst (v := nI 1) hx hb dX0_matters_46 (by decide) ?_
              refine lv_iload_n hx hb dX0_matters_47 rfl (lv_at hl 3 rfl) ?_
              refine lv_ishl hx hb dX0_matters_48 ?_
              refine cn_i (y := nI (2 ^ j)) (m_shl1 (by omega)) ?_
              refine lv_ixor hx hb dX0_matters_49 ?_
              refine cn_i (y := nI (k ^^^ (2 ^ j))) (mb_xor k (2 ^ j)) ?_
              refine pu_i (va_runV (As := [.int (nI (k ^^^ (2 ^ j)))]) (rest := [.int (nI 0)]) ⟨hx, hb, hml, hown, hts⟩ (c_X3_isSystemGood l D cI cJ cZ h3 b1 b2 y (k ^^^ (2 ^ j)) (nI n) rc fw (by first | assumption | omega) (by first | assumption | omega)) (cwV 1 hts gX0_matters_X3_isSystemGood rfl rfl rfl (by decide +kernel) ⟨Nat.le_of_ble_eq_true rfl, Nat.le_of_ble_eq_true rfl⟩) ⟨pc_blind, va_recv hK hP (ci := 3) (q0 := 5) rfl rfl, fun U hU hW => ⟨rfl, by rw [hU]; exact hP.sub (ws' := [(h3, .inr (3, [.ref b1, .ref b2, .int (nI n), .int rc, .int (nI y)])), (b1, .inl (cJ, 320, .inr (.inl fw)))]) [5, 6] rfl, hKN.warm hW⟩⟩ rfl rfl hl.1 rfl (lv_room (Nat.le_of_ble_eq_true rfl)) dX0_matters_50 ⟨Nat.le_of_ble_eq_true rfl, Nat.le_of_ble_eq_true rfl⟩) hS hP (fun r10 H locs w10r hP hS => ?_)
              have w10 : B01 r10 (isG fw y (k ^^^ (2 ^ j))) := w10r
              clear w10r
              rcases w10 with ⟨rfl, w10⟩ | ⟨rfl, w10⟩
              · skip
                have hg2 := w10
                refine lv_icmp_eq (tgt := 68) hx hb dX0_matters_53 (by decide) (fun c11 => ?_) (fun c11 => ?_)
                · exact absurd c11 (by first | decide | exact nz_lt (by omega) | exact fun h => h (nz_ge (by omega)))
                · skip
                  refine lv_lload_n hx hb dX0_matters_56 rfl (lv_at hl 1 rfl) ?_
                  refine lv_aload_n hx hb dX0_matters_57 rfl (lv_at hl 2 rfl) ?_
                  refine va_get (D := D) (ci := 0) (v := .ref h4) (C := RX0) (T := TX0) (N := 3) hx hb hts hiX0 hown hK hP 0 rfl rfl 0 (by decide) hf15 (fun _ h9 => h9) rfl dX0_matters_58 ?_
                  refine lv_iload hx hb dX0_matters_61 (lv_at hl 0 rfl) ?_
                  refine pu_l (va_runV (As := [.int (nI k)]) (rest := [.long v]) ⟨hx, hb, hml, hown, hts⟩ (c_X4_weight l D cI cJ cZ h4 a1 a2 a3 n sn sg (nI k) fg fb (by first | assumption | omega)) (cwV 1 hts gX0_matters_X4_weight rfl rfl rfl (by decide +kernel) ⟨Nat.le_of_ble_eq_true rfl, Nat.le_of_ble_eq_true rfl⟩) ⟨pc_blind, va_recv hK hP (ci := 4) (q0 := 1) rfl rfl, fun U hU hW => ⟨rfl, by rw [hU]; exact hP.sub (ws' := [(h4, .inr (4, [.ref a1, .ref a2, .ref a3, .int (nI n), .int sn, .int sg])), (a1, .inl (cI, 9, .inl fg)), (a2, .inl (cI, 9, .inl fb))]) [1, 2, 3] rfl, hKN.warm hW⟩⟩ rfl rfl hl.1 rfl (lv_room (Nat.le_of_ble_eq_true rfl)) dX0_matters_63 ⟨Nat.le_of_ble_eq_true rfl, Nat.le_of_ble_eq_true rfl⟩) hS hP (fun r12 H locs w12r hP hS => ?_)
                  have w12 : r12 = lf fg fb (nI (2 ^ n - 1)) (nI k) n := w12r
                  clear w12r
                  obtain rfl : r12 = lf fg fb (nI (2 ^ n - 1)) (nI k) n := w12
                  refine lv_ladd hx hb dX0_matters_66 ?_
                  refine lv_lstore_n (lv' := [(2, .long (v + (lf fg fb (nI (2 ^ n - 1)) (nI k) n))), (4, .int (nI k)), (0, .ref h0), (1, .int (nI j))]) hx hb dX0_matters_67 rfl hl (by decide) rfl (fun ls hl => ?_)
                  refine lv_iinc (v := nI (k + 1)) (lv' := [(4, .int (nI (k + 1))), (2, .long (v + (lf fg fb (nI (2 ^ n - 1)) (nI k) n))), (0, .ref h0), (1, .int (nI j))]) hx hb dX0_matters_68 hl (k := 1) rfl (nI_1 k) (by decide) rfl (fun ls hl => ?_)
                  refine lv_goto (tgt := 5) hx hb dX0_matters_71 (by decide) ?_
                  exact ih1 (k + 1) (v + (lf fg fb (nI (2 ^ n - 1)) (nI k) n)) _ _ _ (by omega) (by first | exact Or.inl ⟨⟨hfi, fun h => absurd (h.mp hg1) hg2⟩, v, rfl, hSq⟩ | exact Or.inl ⟨⟨hfi, fun h => absurd (h.mpr hg2) hg1⟩, v, rfl, hSq⟩ | exact Or.inr ⟨fun h => h.2 ⟨fun _ => hg2, fun _ => hg1⟩, hSq⟩ | exact Or.inr ⟨fun h => h.2 ⟨fun a => absurd a hg1, fun a => absurd a hg2⟩, hSq⟩ | exact Or.inr ⟨fun h => hfi h.1, hSq⟩) hP hS (lv_sub hl [0, 1, 2, 3] rfl)
              · skip
                have hg2 := w10
                refine lv_icmp_eq (tgt := 68) hx hb dX0_matters_53 (by decide) (fun c13 => ?_) (fun c13 => ?_)
                · skip
                  refine lv_iinc (v := nI (k + 1)) (lv' := [(4, .int (nI (k + 1))), (2, .long v), (0, .ref h0), (1, .int (nI j))]) hx hb dX0_matters_68 hl (k := 0) rfl (nI_1 k) (by decide) rfl (fun ls hl => ?_)
                  refine lv_goto (tgt := 5) hx hb dX0_matters_71 (by decide) ?_
                  exact ih1 (k + 1) v _ _ _ (by omega) (by first | exact Or.inl ⟨⟨hfi, fun h => absurd (h.mp hg1) hg2⟩, v, rfl, hSq⟩ | exact Or.inl ⟨⟨hfi, fun h => absurd (h.mpr hg2) hg1⟩, v, rfl, hSq⟩ | exact Or.inr ⟨fun h => h.2 ⟨fun _ => hg2, fun _ => hg1⟩, hSq⟩ | exact Or.inr ⟨fun h => h.2 ⟨fun a => absurd a hg1, fun a => absurd a hg2⟩, hSq⟩ | exact Or.inr ⟨fun h => hfi h.1, hSq⟩) hP hS (lv_sub hl [0, 1, 2, 3] rfl)
                · exact absurd c13 (by first | decide | exact nz_lt (by omega) | exact fun h => h (nz_ge (by omega)))
        · skip
          have hfi := w3
          refine lv_if_eq (tgt := 68) hx hb dX0_matters_28 (by decide) (fun c14 => ?_) (fun c14 => ?_)
          · skip
            refine lv_iinc (v := nI (k + 1)) (lv' := [(4, .int (nI (k + 1))), (2, .long v), (0, .ref h0), (1, .int (nI j))]) hx hb dX0_matters_68 hl (k := 0) rfl (nI_1 k) (by decide) rfl (fun ls hl => ?_)
            refine lv_goto (tgt := 5) hx hb dX0_matters_71 (by decide) ?_
            exact ih1 (k + 1) v _ _ _ (by omega) (by first | exact Or.inl ⟨⟨hfi, fun h => absurd (h.mp hg1) hg2⟩, v, rfl, hSq⟩ | exact Or.inl ⟨⟨hfi, fun h => absurd (h.mpr hg2) hg1⟩, v, rfl, hSq⟩ | exact Or.inr ⟨fun h => h.2 ⟨fun _ => hg2, fun _ => hg1⟩, hSq⟩ | exact Or.inr ⟨fun h => h.2 ⟨fun a => absurd a hg1, fun a => absurd a hg2⟩, hSq⟩ | exact Or.inr ⟨fun h => hfi h.1, hSq⟩) hP hS (lv_sub hl [0, 1, 2, 3] rfl)
          · exact absurd c14 (by first | decide | exact nz_lt (by omega) | exact fun h => h (nz_ge (by omega)))
  exact loop1 (2 ^ n + 1) 0 (lN 0) _ _ _ (by omega) rfl hP hS (lv_sub hl [0, 1, 2, 3] rfl)
def rm_c_X7_weight_v : Room := { frames := 0, cells := 0, slots := 0, locals := 0 }
set_option maxHeartbeats 400000 in
set_option maxRecDepth 100000 in
theorem c_X7_weight_v (l : Launch) (D : va_G) (cI cJ cZ : ClassId) (m0 : Nat) (g1 : Nat) (g2 : Nat) (g3 : Nat) (g4 : Nat) (g5 : Nat) (g6 : Nat) (g7 : Nat) (g8 : Nat) (g9 : Nat) (g10 : Nat) (g11 : Nat) (g12 : Nat) (n : Nat) (mr : Int32) (my : Int32) (mo : Int32) (ml : Int32) (st : Int32) (fg : Nat → Int32) (fb : Nat → Int32) (hn : n ≤ 9) : Met l yX7_weight wsX7_weight rm_c_X7_weight_v (pc_ D cI cJ cZ [.ref m0, .int st] [(m0, .inr (7, [.int (nI n), .ref g1, .ref g2, .ref g3, .int mr, .ref g4, .int my, .ref g5, .int mo, .ref g6, .int ml, .ref g7, .ref g8, .ref g9, .ref g10, .ref g11, .ref g12])), (g1, .inl (cI, 9, .inl fg)), (g2, .inl (cI, 9, .inl fb))]) (va_Ql (fun (r : Int64) (_ : Unit) => r = mwt fg fb st n) (fun _ _ => True) aN) 0 0 aN := by
  refine Met.ofW (cc := cX7_weight) (maxL := 5) (ret := (some .long)) (by decide) rfl ?_
  intro p e s m args below meth c s₁ B hml hv
  obtain ⟨rfl, hP, hKN⟩ := hv
  have hK := hKN.1
  have hx := B.exec
  have hb := B.bytes
  have hr := B.returns
  have hts := atoms_spec (ws := wsX7_weight) B.pre
  have hown : s.vm.findClass RX7 = some m.cls := findClass_of_methodNamed B.named
  have hlocks := B.notSynchronized
  have hiX7 : ∀ w ∈ wsX70, w ∈ wsX7_weight := by decide +kernel
  have hf7 := hts (.fieldLink RX7 7 "LookBenchModel" "parts" "I") (by decide +kernel)
  have hf13 := hts (.fieldLink RX7 13 "LookBenchModel" "good" "[I") (by decide +kernel)
  have hf17 := hts (.fieldLink RX7 17 "LookBenchModel" "bad" "[I") (by decide +kernel)
  have hS : va_S aN s.heap s.heap [] := va_S.rf
  have hl := lv_entry ([.ref m0, .int st]) (n := 5) (Nat.le_of_ble_eq_true rfl)
  rw [lg_entry_eq]
  generalize (lg_sl ([.ref m0, .int st]) ++ List.replicate (5 - (lg_sl ([.ref m0, .int st])).length) Slot.unset).toArray = ls at hl ⊢
  have hl : lv_has ls 5 [(0, .ref m0), (1, .int st)] := hl
  generalize hQ : MQ below _ _ s _ _ _ = Q
  obtain ⟨H, hH⟩ : ∃ z, z = s.heap := ⟨_, rfl⟩
  have hP : va_P D vwCl [(m0, .inr (7, [.int (nI n), .ref g1, .ref g2, .ref g3, .int mr, .ref g4, .int my, .ref g5, .int mo, .ref g6, .int ml, .ref g7, .ref g8, .ref g9, .ref g10, .ref g11, .ref g12])), (g1, .inl (cI, 9, .inl fg)), (g2, .inl (cI, 9, .inl fb))] H := by rw [hH]; exact hP
  have hS : va_S aN s.heap H [] := by rw [hH]; exact hS
  refine m_heap hH ?_
  clear hH
  refine lv_lconst (v := lN 1) hx hb dX7_weight_0 (by decide) ?_
  refine lv_lstore_n (lv' := [(2, .long (lN 1)), (0, .ref m0), (1, .int st)]) hx hb dX7_weight_1 rfl hl (by decide) rfl (fun ls hl => ?_)
  refine lv_iconst (v := nI 0) hx hb dX7_weight_2 (by decide) ?_
  refine lv_istore (lv' := [(4, .int (nI 0)), (2, .long (lN 1)), (0, .ref m0), (1, .int st)]) hx hb dX7_weight_3 hl (by decide) rfl (fun ls hl => ?_)
  have loop1 : ∀ (fu : Nat) (k : Nat) (v : Int64) (H : Heap) (locs : List Loc) (ls : Array Slot), (k ≤ n ∧ n < k + fu) → (v = mwt fg fb st k) → va_P D vwCl [(m0, .inr (7, [.int (nI n), .ref g1, .ref g2, .ref g3, .int mr, .ref g4, .int my, .ref g5, .int mo, .ref g6, .int ml, .ref g7, .ref g8, .ref g9, .ref g10, .ref g11, .ref g12])), (g1, .inl (cI, 9, .inl fg)), (g2, .inl (cI, 9, .inl fb))] H → va_S aN s.heap H locs → lv_has ls 5 [(4, .int (nI k)), (2, .long v), (0, .ref m0), (1, .int st)] → W p l e (headSpec wsX7_weight rm_c_X7_weight_v).room s m ([.ref m0, .int st] : List Value).toArray below meth c H locs 0 0 Q (F0 m 5 ls []) := by
    intro fu
    induction fu with
    | zero => intro k v H locs ls hk hv; exact absurd hk (by omega)
    | succ fu ih1 =>
      intro k v H locs ls hk hv hP hS hl
      have hs1 := sb_lt st k
      refine lv_iload hx hb dX7_weight_5 (lv_at hl 0 rfl) ?_
      refine lv_aload_n hx hb dX7_weight_7 rfl (lv_at hl 2 rfl) ?_
      refine va_get (D := D) (ci := 7) (v := .int (nI n)) (C := RX7) (T := TX7) (N := 17) hx hb hts hiX7 hown hK hP 0 rfl rfl 0 (by decide) hf7 (fun _ h9 => h9) rfl dX7_weight_8 ?_
      refine lv_icmp_ge (tgt := 52) hx hb dX7_weight_11 (by decide) (fun c2 => ?_) (fun c2 => ?_)
      · skip
        have d2 := c2
        rw [nI_leI (by omega) (by omega)] at d2
        refine lv_lload_n hx hb dX7_weight_52 rfl (lv_at hl 1 rfl) ?_
        rw [← hQ]
        exact W.lret (v := v) hx hb hr (fun tS htS hWS => ⟨⟨v, (), rfl, by rw [hv, show k = n by omega], trivial⟩, hS.F htS⟩) hS.2.2 dX7_weight_53
      · skip
        have d2 := c2
        rw [nI_leI (by omega) (by omega)] at d2
        refine lv_lload_n hx hb dX7_weight_14 rfl (lv_at hl 1 rfl) ?_
        refine lv_iload_n hx hb dX7_weight_15 rfl (lv_at hl 3 rfl) ?_
        refine lv_iload hx hb dX7_weight_16 (lv_at hl 0 rfl) ?_
        refine lv_ishr hx hb dX7_weight_18 ?_
        refine lv_iconst (v := nI 1) hx hb dX7_weight_19 (by decide) ?_
        refine lv_iand hx hb dX7_weight_20 ?_
        refine cn_i (y := nI (sb st k)) (sb_ok st k) ?_
        refine lv_iconst (v := nI 1) hx hb dX7_weight_21 (by decide) ?_
        refine lv_icmp_ne (tgt := 36) hx hb dX7_weight_22 (by decide) (fun c3 => ?_) (fun c3 => ?_)
        · skip
          have d3 := c3
          rw [nI_eq (by omega) (by omega)] at d3
          refine lv_aload_n hx hb dX7_weight_36 rfl (lv_at hl 2 rfl) ?_
          refine va_get (D := D) (ci := 7) (v := .ref g2) (C := RX7) (T := TX7) (N := 17) hx hb hts hiX7 hown hK hP 0 rfl rfl 2 (by decide) hf17 (fun _ h9 => h9) rfl dX7_weight_37 ?_
          refine lv_iload hx hb dX7_weight_40 (lv_at hl 0 rfl) ?_
          refine va_iald hx hb hK hP 2 0 rfl rfl (i := nI k) (vp_in_nI (by omega) (by omega)) dX7_weight_42 ?_
          refine cn_i (y := fb k) (congrArg fb (nI_clamp (by omega))) ?_
          refine lv_i2l hx hb dX7_weight_43 rfl ?_
          refine lv_lmul hx hb dX7_weight_44 ?_
          refine lv_lstore_n (lv' := [(2, .long (v * ((fb k).toInt64))), (4, .int (nI k)), (0, .ref m0), (1, .int st)]) hx hb dX7_weight_45 rfl hl (by decide) rfl (fun ls hl => ?_)
          refine lv_iinc (v := nI (k + 1)) (lv' := [(4, .int (nI (k + 1))), (2, .long (v * ((fb k).toInt64))), (0, .ref m0), (1, .int st)]) hx hb dX7_weight_46 hl (k := 1) rfl (nI_1 k) (by decide) rfl (fun ls hl => ?_)
          refine lv_goto (tgt := 5) hx hb dX7_weight_49 (by decide) ?_
          exact ih1 (k + 1) (v * ((fb k).toInt64)) _ _ _ (by omega) (by rw [hv]; simp only [mwt]; first | rw [if_pos (by omega)] | rw [if_neg (by omega)]) hP hS (lv_sub hl [0, 1, 2, 3] rfl)
        · skip
          have d3 := c3
          rw [nI_eq (by omega) (by omega)] at d3
          refine lv_aload_n hx hb dX7_weight_25 rfl (lv_at hl 2 rfl) ?_
          refine va_get (D := D) (ci := 7) (v := .ref g1) (C := RX7) (T := TX7) (N := 17) hx hb hts hiX7 hown hK hP 0 rfl rfl 1 (by decide) hf13 (fun _ h9 => h9) rfl dX7_weight_26 ?_
          refine lv_iload hx hb dX7_weight_29 (lv_at hl 0 rfl) ?_
          refine va_iald hx hb hK hP 1 0 rfl rfl (i := nI k) (vp_in_nI (by omega) (by omega)) dX7_weight_31 ?_
          refine cn_i (y := fg k) (congrArg fg (nI_clamp (by omega))) ?_
          refine lv_i2l hx hb dX7_weight_32 rfl ?_
          refine lv_goto (tgt := 44) hx hb dX7_weight_33 (by decide) ?_
          refine lv_lmul hx hb dX7_weight_44 ?_
          refine lv_lstore_n (lv' := [(2, .long (v * ((fg k).toInt64))), (4, .int (nI k)), (0, .ref m0), (1, .int st)]) hx hb dX7_weight_45 rfl hl (by decide) rfl (fun ls hl => ?_)
          refine lv_iinc (v := nI (k + 1)) (lv' := [(4, .int (nI (k + 1))), (2, .long (v * ((fg k).toInt64))), (0, .ref m0), (1, .int st)]) hx hb dX7_weight_46 hl (k := 1) rfl (nI_1 k) (by decide) rfl (fun ls hl => ?_)
          refine lv_goto (tgt := 5) hx hb dX7_weight_49 (by decide) ?_
          exact ih1 (k + 1) (v * ((fg k).toInt64)) _ _ _ (by omega) (by rw [hv]; simp only [mwt]; first | rw [if_pos (by omega)] | rw [if_neg (by omega)]) hP hS (lv_sub hl [0, 1, 2, 3] rfl)
  exact loop1 (n + 1) 0 (lN 1) _ _ _ (by omega) rfl hP hS (lv_sub hl [0, 1, 2, 3] rfl)
def rm_c_X7_isSuch_v : Room := { frames := 1, cells := 0, slots := 0, locals := 22 }
set_option maxHeartbeats 400000 in
set_option maxRecDepth 100000 in
theorem c_X7_isSuch_v (l : Launch) (D : va_G) (cI cJ cZ : ClassId) (m0 : Nat) (g1 : Nat) (g2 : Nat) (g3 : Nat) (g4 : Nat) (g5 : Nat) (g6 : Nat) (g7 : Nat) (g8 : Nat) (g9 : Nat) (g10 : Nat) (g11 : Nat) (g12 : Nat) (n : Nat) (cv : Nat) (mr : Int32) (my : Int32) (mo : Int32) (ml : Int32) (st : Int32) (th : Nat → Int32) (hn : n ≤ 9) (hcv : cv < 3 ^ n) (hth : ∀ z, z < 9 → th z = nI (3 ^ z)) : Met l yX7_isSuch wsX7_isSuch rm_c_X7_isSuch_v (pc_ D cI cJ cZ [.ref m0, .int st, .int (nI cv)] [(m0, .inr (7, [.int (nI n), .ref g1, .ref g2, .ref g3, .int mr, .ref g4, .int my, .ref g5, .int mo, .ref g6, .int ml, .ref g7, .ref g8, .ref g9, .ref g10, .ref g11, .ref g12])), (g12, .inl (cI, 9, .inl th))]) (va_Qi (fun (r : Int32) (_ : Unit) => B01 r (SCH cv n st)) (fun _ _ => True) aN) 0 0 aN := by
  refine Met.ofW (cc := cX7_isSuch) (maxL := 6) (ret := (some .boolean)) (by decide) rfl ?_
  intro p e s m args below meth c s₁ B hml hv
  obtain ⟨rfl, hP, hKN⟩ := hv
  have hK := hKN.1
  have hx := B.exec
  have hb := B.bytes
  have hr := B.returns
  have hts := atoms_spec (ws := wsX7_isSuch) B.pre
  have hown : s.vm.findClass RX7 = some m.cls := findClass_of_methodNamed B.named
  have hlocks := B.notSynchronized
  have hiX7 : ∀ w ∈ wsX70, w ∈ wsX7_isSuch := by decide +kernel
  have hf7 := hts (.fieldLink RX7 7 "LookBenchModel" "parts" "I") (by decide +kernel)
  have hS : va_S aN s.heap s.heap [] := va_S.rf
  have hl := lv_entry ([.ref m0, .int st, .int (nI cv)]) (n := 6) (Nat.le_of_ble_eq_true rfl)
  rw [lg_entry_eq]
  generalize (lg_sl ([.ref m0, .int st, .int (nI cv)]) ++ List.replicate (6 - (lg_sl ([.ref m0, .int st, .int (nI cv)])).length) Slot.unset).toArray = ls at hl ⊢
  have hl : lv_has ls 6 [(0, .ref m0), (1, .int st), (2, .int (nI cv))] := hl
  generalize hQ : MQ below _ _ s _ _ _ = Q
  obtain ⟨H, hH⟩ : ∃ z, z = s.heap := ⟨_, rfl⟩
  have hP : va_P D vwCl [(m0, .inr (7, [.int (nI n), .ref g1, .ref g2, .ref g3, .int mr, .ref g4, .int my, .ref g5, .int mo, .ref g6, .int ml, .ref g7, .ref g8, .ref g9, .ref g10, .ref g11, .ref g12])), (g12, .inl (cI, 9, .inl th))] H := by rw [hH]; exact hP
  have hS : va_S aN s.heap H [] := by rw [hH]; exact hS
  refine m_heap hH ?_
  clear hH
  have h3n := m_p3 hn
  refine lv_iconst (v := nI 1) hx hb dX7_isSuch_0 (by decide) ?_
  refine lv_istore_n (lv' := [(3, .int (nI 1)), (0, .ref m0), (1, .int st), (2, .int (nI cv))]) hx hb dX7_isSuch_1 rfl hl (by decide) rfl (fun ls hl => ?_)
  refine lv_iconst (v := nI 0) hx hb dX7_isSuch_2 (by decide) ?_
  refine lv_istore (lv' := [(4, .int (nI 0)), (3, .int (nI 1)), (0, .ref m0), (1, .int st), (2, .int (nI cv))]) hx hb dX7_isSuch_3 hl (by decide) rfl (fun ls hl => ?_)
  have loop1 : ∀ (fu : Nat) (k : Nat) (v : Int32) (H : Heap) (locs : List Loc) (ls : Array Slot), (k ≤ n ∧ n < k + fu) → ((v = nI 1 ∧ SCH cv k st) ∨ (v = nI 0 ∧ ¬ SCH cv n st)) → va_P D vwCl [(m0, .inr (7, [.int (nI n), .ref g1, .ref g2, .ref g3, .int mr, .ref g4, .int my, .ref g5, .int mo, .ref g6, .int ml, .ref g7, .ref g8, .ref g9, .ref g10, .ref g11, .ref g12])), (g12, .inl (cI, 9, .inl th))] H → va_S aN s.heap H locs → lv_has ls 6 [(4, .int (nI k)), (3, .int v), (0, .ref m0), (1, .int st), (2, .int (nI cv))] → W p l e (headSpec wsX7_isSuch rm_c_X7_isSuch_v).room s m ([.ref m0, .int st, .int (nI cv)] : List Value).toArray below meth c H locs 0 0 Q (F0 m 5 ls []) := by
    intro fu
    induction fu with
    | zero => intro k v H locs ls hk hv; exact absurd hk (by omega)
    | succ fu ih1 =>
      intro k v H locs ls hk hv hP hS hl
      have hs1 := sb_lt st k
      have hd3 : cv / 3 ^ k % 3 < 3 := Nat.mod_lt _ (by decide)
      rcases hv with ⟨rfl, hq⟩ | ⟨rfl, hq⟩
      · skip
        refine lv_iload hx hb dX7_isSuch_5 (lv_at hl 0 rfl) ?_
        refine lv_aload_n hx hb dX7_isSuch_7 rfl (lv_at hl 2 rfl) ?_
        refine va_get (D := D) (ci := 7) (v := .int (nI n)) (C := RX7) (T := TX7) (N := 17) hx hb hts hiX7 hown hK hP 0 rfl rfl 0 (by decide) hf7 (fun _ h9 => h9) rfl dX7_isSuch_8 ?_
        refine lv_icmp_ge (tgt := 73) hx hb dX7_isSuch_11 (by decide) (fun c2 => ?_) (fun c2 => ?_)
        · skip
          have d2 := c2
          rw [nI_leI (by omega) (by omega)] at d2
          refine lv_iload_n hx hb dX7_isSuch_73 rfl (lv_at hl 1 rfl) ?_
          rw [← hQ]
          exact W.zret (v := nI 1) hx hb hr (by first | decide | (rw [nar_b01])) (fun tS htS hWS => ⟨⟨(nI 1), (), rfl, by first | exact Or.inl ⟨rfl, (show k = n by omega) ▸ hq⟩ | exact Or.inr ⟨rfl, hq⟩, trivial⟩, hS.F htS⟩) hS.2.2 dX7_isSuch_74
        · skip
          have d2 := c2
          rw [nI_leI (by omega) (by omega)] at d2
          refine lv_aload_n hx hb dX7_isSuch_14 rfl (lv_at hl 2 rfl) ?_
          refine lv_iload_n hx hb dX7_isSuch_15 rfl (lv_at hl 4 rfl) ?_
          refine lv_iload hx hb dX7_isSuch_16 (lv_at hl 0 rfl) ?_
          refine pu_i (va_runV (As := [.int (nI cv), .int (nI k)]) (rest := []) ⟨hx, hb, hml, hown, hts⟩ (c_X7_digit_g l D cI cJ cZ m0 g1 g2 g3 g4 g5 g6 g7 g8 g9 g10 g11 g12 k cv (nI n) mr my mo ml th (by first | assumption | omega) (by first | assumption | omega) (by first | assumption | omega)) (cwV 2 hts gX7_isSuch_X7_digit rfl rfl rfl (by decide +kernel) ⟨Nat.le_of_ble_eq_true rfl, Nat.le_of_ble_eq_true rfl⟩) ⟨pc_blind, va_recv hK hP (ci := 7) (q0 := 0) rfl rfl, fun U hU hW => ⟨rfl, by rw [hU]; exact hP.sub (ws' := [(m0, .inr (7, [.int (nI n), .ref g1, .ref g2, .ref g3, .int mr, .ref g4, .int my, .ref g5, .int mo, .ref g6, .int ml, .ref g7, .ref g8, .ref g9, .ref g10, .ref g11, .ref g12])), (g12, .inl (cI, 9, .inl th))]) [0, 1] rfl, hKN.warm hW⟩⟩ rfl rfl hl.1 rfl (lv_room (Nat.le_of_ble_eq_true rfl)) dX7_isSuch_18 ⟨Nat.le_of_ble_eq_true rfl, Nat.le_of_ble_eq_true rfl⟩) hS hP (fun r3 H locs w3r hP hS => ?_)
          have w3 : r3 = nI (cv / 3 ^ k % 3) := w3r
          clear w3r
          obtain rfl : r3 = nI (cv / 3 ^ k % 3) := w3
          refine lv_istore (lv' := [(5, .int (nI (cv / 3 ^ k % 3))), (4, .int (nI k)), (3, .int (nI 1)), (0, .ref m0), (1, .int st), (2, .int (nI cv))]) hx hb dX7_isSuch_21 hl (by decide) rfl (fun ls hl => ?_)
          refine lv_iload_n hx hb dX7_isSuch_23 rfl (lv_at hl 2 rfl) ?_
          refine lv_if_eq (tgt := 65) hx hb dX7_isSuch_24 (by decide) (fun c4 => ?_) (fun c4 => ?_)
          · exact absurd c4 (by first | decide | exact nz_lt (by omega) | exact fun h => h (nz_ge (by omega)))
          · skip
            refine lv_iload hx hb dX7_isSuch_27 (lv_at hl 0 rfl) ?_
            refine lv_if_eq (tgt := 61) hx hb dX7_isSuch_29 (by decide) (fun c5 => ?_) (fun c5 => ?_)
            · skip
              have d5 := c5
              rw [nz_eq (by omega)] at d5
              refine lv_iconst (v := nI 1) hx hb dX7_isSuch_61 (by decide) ?_
              refine lv_goto (tgt := 66) hx hb dX7_isSuch_62 (by decide) ?_
              refine lv_istore_n (lv' := [(3, .int (nI 1)), (5, .int (nI (cv / 3 ^ k % 3))), (4, .int (nI k)), (0, .ref m0), (1, .int st), (2, .int (nI cv))]) hx hb dX7_isSuch_66 rfl hl (by decide) rfl (fun ls hl => ?_)
              refine lv_iinc (v := nI (k + 1)) (lv' := [(4, .int (nI (k + 1))), (3, .int (nI 1)), (5, .int (nI (cv / 3 ^ k % 3))), (0, .ref m0), (1, .int st), (2, .int (nI cv))]) hx hb dX7_isSuch_67 hl (k := 2) rfl (nI_1 k) (by decide) rfl (fun ls hl => ?_)
              refine lv_goto (tgt := 5) hx hb dX7_isSuch_70 (by decide) ?_
              exact ih1 (k + 1) (nI 1) _ _ _ (by omega) (by first | exact Or.inl ⟨rfl, fun z hz => by by_cases e9 : z = k; exact (by subst e9; omega); exact hq z (by omega)⟩ | exact Or.inr ⟨rfl, hq⟩ | exact Or.inr ⟨rfl, fun h => by have h5 := h k (by omega); omega⟩) hP hS (lv_sub hl [0, 1, 3, 4, 5] rfl)
            · skip
              have d5 := c5
              rw [nz_eq (by omega)] at d5
              refine lv_iload hx hb dX7_isSuch_32 (lv_at hl 0 rfl) ?_
              refine lv_iconst (v := nI 1) hx hb dX7_isSuch_34 (by decide) ?_
              refine lv_icmp_ne (tgt := 42) hx hb dX7_isSuch_35 (by decide) (fun c6 => ?_) (fun c6 => ?_)
              · skip
                have d6 := c6
                rw [nI_eq (by omega) (by omega)] at d6
                refine lv_iconst (v := nI 0) hx hb dX7_isSuch_42 (by decide) ?_
                refine lv_iload_n hx hb dX7_isSuch_43 rfl (lv_at hl 4 rfl) ?_
                refine lv_iload hx hb dX7_isSuch_44 (lv_at hl 1 rfl) ?_
                refine lv_ishr hx hb dX7_isSuch_46 ?_
                refine lv_iconst (v := nI 1) hx hb dX7_isSuch_47 (by decide) ?_
                refine lv_iand hx hb dX7_isSuch_48 ?_
                refine cn_i (y := nI (sb st k)) (sb_ok st k) ?_
                refine lv_iconst (v := nI 1) hx hb dX7_isSuch_49 (by decide) ?_
                refine lv_icmp_ne (tgt := 57) hx hb dX7_isSuch_50 (by decide) (fun c7 => ?_) (fun c7 => ?_)
                · skip
                  have d7 := c7
                  rw [nI_eq (by omega) (by omega)] at d7
                  refine lv_iconst (v := nI 0) hx hb dX7_isSuch_57 (by decide) ?_
                  refine lv_icmp_ne (tgt := 65) hx hb dX7_isSuch_58 (by decide) (fun c8 => ?_) (fun c8 => ?_)
                  · exact absurd c8 (by first | decide | exact nz_lt (by omega) | exact fun h => h (nz_ge (by omega)))
                  · skip
                    refine lv_iconst (v := nI 1) hx hb dX7_isSuch_61 (by decide) ?_
                    refine lv_goto (tgt := 66) hx hb dX7_isSuch_62 (by decide) ?_
                    refine lv_istore_n (lv' := [(3, .int (nI 1)), (5, .int (nI (cv / 3 ^ k % 3))), (4, .int (nI k)), (0, .ref m0), (1, .int st), (2, .int (nI cv))]) hx hb dX7_isSuch_66 rfl hl (by decide) rfl (fun ls hl => ?_)
                    refine lv_iinc (v := nI (k + 1)) (lv' := [(4, .int (nI (k + 1))), (3, .int (nI 1)), (5, .int (nI (cv / 3 ^ k % 3))), (0, .ref m0), (1, .int st), (2, .int (nI cv))]) hx hb dX7_isSuch_67 hl (k := 2) rfl (nI_1 k) (by decide) rfl (fun ls hl => ?_)
                    refine lv_goto (tgt := 5) hx hb dX7_isSuch_70 (by decide) ?_
                    exact ih1 (k + 1) (nI 1) _ _ _ (by omega) (by first | exact Or.inl ⟨rfl, fun z hz => by by_cases e9 : z = k; exact (by subst e9; omega); exact hq z (by omega)⟩ | exact Or.inr ⟨rfl, hq⟩ | exact Or.inr ⟨rfl, fun h => by have h5 := h k (by omega); omega⟩) hP hS (lv_sub hl [0, 1, 3, 4, 5] rfl)
                · skip
                  have d7 := c7
                  rw [nI_eq (by omega) (by omega)] at d7
                  refine lv_iconst (v := nI 1) hx hb dX7_isSuch_53 (by decide) ?_
                  refine lv_goto (tgt := 58) hx hb dX7_isSuch_54 (by decide) ?_
                  refine lv_icmp_ne (tgt := 65) hx hb dX7_isSuch_58 (by decide) (fun c9 => ?_) (fun c9 => ?_)
                  · skip
                    refine lv_iconst (v := nI 0) hx hb dX7_isSuch_65 (by decide) ?_
                    refine lv_istore_n (lv' := [(3, .int (nI 0)), (5, .int (nI (cv / 3 ^ k % 3))), (4, .int (nI k)), (0, .ref m0), (1, .int st), (2, .int (nI cv))]) hx hb dX7_isSuch_66 rfl hl (by decide) rfl (fun ls hl => ?_)
                    refine lv_iinc (v := nI (k + 1)) (lv' := [(4, .int (nI (k + 1))), (3, .int (nI 0)), (5, .int (nI (cv / 3 ^ k % 3))), (0, .ref m0), (1, .int st), (2, .int (nI cv))]) hx hb dX7_isSuch_67 hl (k := 2) rfl (nI_1 k) (by decide) rfl (fun ls hl => ?_)
                    refine lv_goto (tgt := 5) hx hb dX7_isSuch_70 (by decide) ?_
                    exact ih1 (k + 1) (nI 0) _ _ _ (by omega) (by first | exact Or.inl ⟨rfl, fun z hz => by by_cases e9 : z = k; exact (by subst e9; omega); exact hq z (by omega)⟩ | exact Or.inr ⟨rfl, hq⟩ | exact Or.inr ⟨rfl, fun h => by have h5 := h k (by omega); omega⟩) hP hS (lv_sub hl [0, 1, 3, 4, 5] rfl)
                  · exact absurd c9 (by first | decide | exact nz_lt (by omega) | exact fun h => h (nz_ge (by omega)))
              · skip
                have d6 := c6
                rw [nI_eq (by omega) (by omega)] at d6
                refine lv_iconst (v := nI 1) hx hb dX7_isSuch_38 (by decide) ?_
                refine lv_goto (tgt := 43) hx hb dX7_isSuch_39 (by decide) ?_
                refine lv_iload_n hx hb dX7_isSuch_43 rfl (lv_at hl 4 rfl) ?_
                refine lv_iload hx hb dX7_isSuch_44 (lv_at hl 1 rfl) ?_
                refine lv_ishr hx hb dX7_isSuch_46 ?_
                refine lv_iconst (v := nI 1) hx hb dX7_isSuch_47 (by decide) ?_
                refine lv_iand hx hb dX7_isSuch_48 ?_
                refine cn_i (y := nI (sb st k)) (sb_ok st k) ?_
                refine lv_iconst (v := nI 1) hx hb dX7_isSuch_49 (by decide) ?_
                refine lv_icmp_ne (tgt := 57) hx hb dX7_isSuch_50 (by decide) (fun c10 => ?_) (fun c10 => ?_)
                · skip
                  have d10 := c10
                  rw [nI_eq (by omega) (by omega)] at d10
                  refine lv_iconst (v := nI 0) hx hb dX7_isSuch_57 (by decide) ?_
                  refine lv_icmp_ne (tgt := 65) hx hb dX7_isSuch_58 (by decide) (fun c11 => ?_) (fun c11 => ?_)
                  · skip
                    refine lv_iconst (v := nI 0) hx hb dX7_isSuch_65 (by decide) ?_
                    refine lv_istore_n (lv' := [(3, .int (nI 0)), (5, .int (nI (cv / 3 ^ k % 3))), (4, .int (nI k)), (0, .ref m0), (1, .int st), (2, .int (nI cv))]) hx hb dX7_isSuch_66 rfl hl (by decide) rfl (fun ls hl => ?_)
                    refine lv_iinc (v := nI (k + 1)) (lv' := [(4, .int (nI (k + 1))), (3, .int (nI 0)), (5, .int (nI (cv / 3 ^ k % 3))), (0, .ref m0), (1, .int st), (2, .int (nI cv))]) hx hb dX7_isSuch_67 hl (k := 2) rfl (nI_1 k) (by decide) rfl (fun ls hl => ?_)
                    refine lv_goto (tgt := 5) hx hb dX7_isSuch_70 (by decide) ?_
                    exact ih1 (k + 1) (nI 0) _ _ _ (by omega) (by first | exact Or.inl ⟨rfl, fun z hz => by by_cases e9 : z = k; exact (by subst e9; omega); exact hq z (by omega)⟩ | exact Or.inr ⟨rfl, hq⟩ | exact Or.inr ⟨rfl, fun h => by have h5 := h k (by omega); omega⟩) hP hS (lv_sub hl [0, 1, 3, 4, 5] rfl)
                  · exact absurd c11 (by first | decide | exact nz_lt (by omega) | exact fun h => h (nz_ge (by omega)))
                · skip
                  have d10 := c10
                  rw [nI_eq (by omega) (by omega)] at d10
                  refine lv_iconst (v := nI 1) hx hb dX7_isSuch_53 (by decide) ?_
                  refine lv_goto (tgt := 58) hx hb dX7_isSuch_54 (by decide) ?_
                  refine lv_icmp_ne (tgt := 65) hx hb dX7_isSuch_58 (by decide) (fun c12 => ?_) (fun c12 => ?_)
                  · exact absurd c12 (by first | decide | exact nz_lt (by omega) | exact fun h => h (nz_ge (by omega)))
                  · skip
                    refine lv_iconst (v := nI 1) hx hb dX7_isSuch_61 (by decide) ?_
                    refine lv_goto (tgt := 66) hx hb dX7_isSuch_62 (by decide) ?_
                    refine lv_istore_n (lv' := [(3, .int (nI 1)), (5, .int (nI (cv / 3 ^ k % 3))), (4, .int (nI k)), (0, .ref m0), (1, .int st), (2, .int (nI cv))]) hx hb dX7_isSuch_66 rfl hl (by decide) rfl (fun ls hl => ?_)
                    refine lv_iinc (v := nI (k + 1)) (lv' := [(4, .int (nI (k + 1))), (3, .int (nI 1)), (5, .int (nI (cv / 3 ^ k % 3))), (0, .ref m0), (1, .int st), (2, .int (nI cv))]) hx hb dX7_isSuch_67 hl (k := 2) rfl (nI_1 k) (by decide) rfl (fun ls hl => ?_)
                    refine lv_goto (tgt := 5) hx hb dX7_isSuch_70 (by decide) ?_
                    exact ih1 (k + 1) (nI 1) _ _ _ (by omega) (by first | exact Or.inl ⟨rfl, fun z hz => by by_cases e9 : z = k; exact (by subst e9; omega); exact hq z (by omega)⟩ | exact Or.inr ⟨rfl, hq⟩ | exact Or.inr ⟨rfl, fun h => by have h5 := h k (by omega); omega⟩) hP hS (lv_sub hl [0, 1, 3, 4, 5] rfl)
      · skip
        refine lv_iload hx hb dX7_isSuch_5 (lv_at hl 0 rfl) ?_
        refine lv_aload_n hx hb dX7_isSuch_7 rfl (lv_at hl 2 rfl) ?_
        refine va_get (D := D) (ci := 7) (v := .int (nI n)) (C := RX7) (T := TX7) (N := 17) hx hb hts hiX7 hown hK hP 0 rfl rfl 0 (by decide) hf7 (fun _ h9 => h9) rfl dX7_isSuch_8 ?_
        refine lv_icmp_ge (tgt := 73) hx hb dX7_isSuch_11 (by decide) (fun c13 => ?_) (fun c13 => ?_)
        · skip
          have d13 := c13
          rw [nI_leI (by omega) (by omega)] at d13
          refine lv_iload_n hx hb dX7_isSuch_73 rfl (lv_at hl 1 rfl) ?_
          rw [← hQ]
          exact W.zret (v := nI 0) hx hb hr (by first | decide | (rw [nar_b01])) (fun tS htS hWS => ⟨⟨(nI 0), (), rfl, by first | exact Or.inl ⟨rfl, (show k = n by omega) ▸ hq⟩ | exact Or.inr ⟨rfl, hq⟩, trivial⟩, hS.F htS⟩) hS.2.2 dX7_isSuch_74
        · skip
          have d13 := c13
          rw [nI_leI (by omega) (by omega)] at d13
          refine lv_aload_n hx hb dX7_isSuch_14 rfl (lv_at hl 2 rfl) ?_
          refine lv_iload_n hx hb dX7_isSuch_15 rfl (lv_at hl 4 rfl) ?_
          refine lv_iload hx hb dX7_isSuch_16 (lv_at hl 0 rfl) ?_
          refine pu_i (va_runV (As := [.int (nI cv), .int (nI k)]) (rest := []) ⟨hx, hb, hml, hown, hts⟩ (c_X7_digit_g l D cI cJ cZ m0 g1 g2 g3 g4 g5 g6 g7 g8 g9 g10 g11 g12 k cv (nI n) mr my mo ml th (by first | assumption | omega) (by first | assumption | omega) (by first | assumption | omega)) (cwV 2 hts gX7_isSuch_X7_digit rfl rfl rfl (by decide +kernel) ⟨Nat.le_of_ble_eq_true rfl, Nat.le_of_ble_eq_true rfl⟩) ⟨pc_blind, va_recv hK hP (ci := 7) (q0 := 0) rfl rfl, fun U hU hW => ⟨rfl, by rw [hU]; exact hP.sub (ws' := [(m0, .inr (7, [.int (nI n), .ref g1, .ref g2, .ref g3, .int mr, .ref g4, .int my, .ref g5, .int mo, .ref g6, .int ml, .ref g7, .ref g8, .ref g9, .ref g10, .ref g11, .ref g12])), (g12, .inl (cI, 9, .inl th))]) [0, 1] rfl, hKN.warm hW⟩⟩ rfl rfl hl.1 rfl (lv_room (Nat.le_of_ble_eq_true rfl)) dX7_isSuch_18 ⟨Nat.le_of_ble_eq_true rfl, Nat.le_of_ble_eq_true rfl⟩) hS hP (fun r14 H locs w14r hP hS => ?_)
          have w14 : r14 = nI (cv / 3 ^ k % 3) := w14r
          clear w14r
          obtain rfl : r14 = nI (cv / 3 ^ k % 3) := w14
          refine lv_istore (lv' := [(5, .int (nI (cv / 3 ^ k % 3))), (4, .int (nI k)), (3, .int (nI 0)), (0, .ref m0), (1, .int st), (2, .int (nI cv))]) hx hb dX7_isSuch_21 hl (by decide) rfl (fun ls hl => ?_)
          refine lv_iload_n hx hb dX7_isSuch_23 rfl (lv_at hl 2 rfl) ?_
          refine lv_if_eq (tgt := 65) hx hb dX7_isSuch_24 (by decide) (fun c15 => ?_) (fun c15 => ?_)
          · skip
            refine lv_iconst (v := nI 0) hx hb dX7_isSuch_65 (by decide) ?_
            refine lv_istore_n (lv' := [(3, .int (nI 0)), (5, .int (nI (cv / 3 ^ k % 3))), (4, .int (nI k)), (0, .ref m0), (1, .int st), (2, .int (nI cv))]) hx hb dX7_isSuch_66 rfl hl (by decide) rfl (fun ls hl => ?_)
            refine lv_iinc (v := nI (k + 1)) (lv' := [(4, .int (nI (k + 1))), (3, .int (nI 0)), (5, .int (nI (cv / 3 ^ k % 3))), (0, .ref m0), (1, .int st), (2, .int (nI cv))]) hx hb dX7_isSuch_67 hl (k := 2) rfl (nI_1 k) (by decide) rfl (fun ls hl => ?_)
            refine lv_goto (tgt := 5) hx hb dX7_isSuch_70 (by decide) ?_
            exact ih1 (k + 1) (nI 0) _ _ _ (by omega) (by first | exact Or.inl ⟨rfl, fun z hz => by by_cases e9 : z = k; exact (by subst e9; omega); exact hq z (by omega)⟩ | exact Or.inr ⟨rfl, hq⟩ | exact Or.inr ⟨rfl, fun h => by have h5 := h k (by omega); omega⟩) hP hS (lv_sub hl [0, 1, 3, 4, 5] rfl)
          · exact absurd c15 (by first | decide | exact nz_lt (by omega) | exact fun h => h (nz_ge (by omega)))
  exact loop1 (n + 1) 0 (nI 1) _ _ _ (by omega) (Or.inl ⟨rfl, fun z hz => absurd hz (by omega)⟩) hP hS (lv_sub hl [0, 1, 2, 3, 4] rfl)
