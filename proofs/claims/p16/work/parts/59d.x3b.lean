def rm_c_X3_addSingle_b : Room := { frames := 1, cells := 0, slots := 0, locals := 21 }
set_option maxHeartbeats 400000 in
set_option maxRecDepth 100000 in
theorem c_X3_addSingle_b (l : Launch) (D : va_G) (cI cJ cZ : ClassId) (h0 : Nat) (b1 : Nat) (b2 : Nat) (n : Nat) (c0 : Nat) (j : Nat) (ry : Int32) (fw : Nat → Int64) (hn : n ≤ 9) (hc : c0 < 40) (hj : j < 9) : Met l yX3_addSingle wsX3_addSingle rm_c_X3_addSingle_b (pm_ D cI cJ cZ [.ref h0, .int (nI j)] [(h0, .inr (3, [.ref b1, .ref b2, .int (nI n), .int (nI c0), .int ry])), (b1, .inl (cJ, 320, .inr (.inl fw)))]) (va_Qi (fun (r : Int32) (u : (Nat → Int64)) => r = nI c0 ∧ RW fw u c0 (fun t => t < 2 ^ n ∧ (t / 2 ^ j % 2 = 1))) (fun (u : (Nat → Int64)) tS => va_P D vwCl [(h0, .inr (3, [.ref b1, .ref b2, .int (nI n), .int (nI (c0 + 1)), .int ry])), (b1, .inl (cJ, 320, .inr (.inl u)))] tS.heap) (aA [h0, b1])) 0 0 (aA [h0, b1]) := by
  refine Met.ofW (cc := cX3_addSingle) (maxL := 3) (ret := (some .int)) (by decide) rfl ?_
  intro p e s m args below meth c s₁ B hml hv
  obtain ⟨rfl, hP, hKN, hD0⟩ := hv
  have hK := hKN.1
  have hx := B.exec
  have hb := B.bytes
  have hr := B.returns
  have hts := atoms_spec (ws := wsX3_addSingle) B.pre
  have hown : s.vm.findClass RX3 = some m.cls := findClass_of_methodNamed B.named
  have hlocks := B.notSynchronized
  have hiX3 : ∀ w ∈ wsX30, w ∈ wsX3_addSingle := by decide +kernel
  have hf23 := hts (.fieldLink RX3 23 "LookBench$Rules" "parts" "I") (by decide +kernel)
  have hf27 := hts (.fieldLink RX3 27 "LookBench$Rules" "count" "I") (by decide +kernel)
  obtain ⟨as, has⟩ : ∃ z : List Nat, z = [h0, b1] := ⟨_, rfl⟩
  have hD := hD0.addr (as := as) (by rw [has]; rfl)
  have hS : va_S (aA as) s.heap s.heap [] := va_S.rf
  have hl := lv_entry ([.ref h0, .int (nI j)]) (n := 3) (Nat.le_of_ble_eq_true rfl)
  rw [lg_entry_eq]
  generalize (lg_sl ([.ref h0, .int (nI j)]) ++ List.replicate (3 - (lg_sl ([.ref h0, .int (nI j)])).length) Slot.unset).toArray = ls at hl ⊢
  have hl : lv_has ls 3 [(0, .ref h0), (1, .int (nI j))] := hl
  generalize hQ : MQ below _ _ s _ _ _ = Q
  obtain ⟨H, hH⟩ : ∃ z, z = s.heap := ⟨_, rfl⟩
  have hP : va_P D vwCl [(h0, .inr (3, [.ref b1, .ref b2, .int (nI n), .int (nI c0), .int ry])), (b1, .inl (cJ, 320, .inr (.inl fw)))] H := by rw [hH]; exact hP
  have hS : va_S (aA as) s.heap H [] := by rw [hH]; exact hS
  refine m_heap hH ?_
  clear hH
  have h2n := m_pow hn
  have h2p := m_powp n
  refine lv_aload_n hx hb dX3_addSingle_0 rfl (lv_at hl 0 rfl) ?_
  refine mu_v (n := 2) (wc := [(h0, .inr (3, [.ref b1, .ref b2, .int (nI n), .int (nI c0), .int ry])), (b1, .inl (cJ, 320, .inr (.inl fw)))]) (va_runV (As := []) (rest := []) ⟨hx, hb, hml, hown, hts⟩ (c_X3_wipe l D cI cJ cZ h0 b1 b2 c0 (nI n) ry fw (by first | assumption | omega)) (cwV 0 hts gX3_addSingle_X3_wipe rfl rfl rfl (by decide +kernel) ⟨Nat.le_of_ble_eq_true rfl, Nat.le_of_ble_eq_true rfl⟩) ⟨pm_blind, va_recv hK hP (ci := 3) (q0 := 0) rfl rfl, fun U hU hW => ⟨rfl, by rw [hU]; exact hP.sub (ws' := [(h0, .inr (3, [.ref b1, .ref b2, .int (nI n), .int (nI c0), .int ry])), (b1, .inl (cJ, 320, .inr (.inl fw)))]) [0, 1] rfl, hKN.warm hW, (hD.sub (ws' := [(h0, .inr (3, [.ref b1, .ref b2, .int (nI n), .int (nI c0), .int ry])), (b1, .inl (cJ, 320, .inr (.inl fw)))]) [0, 1] (by decide) rfl).weaken (fun _ _ _ _ => trivial)⟩⟩ rfl rfl hl.1 rfl (lv_room (Nat.le_of_ble_eq_true rfl)) dX3_addSingle_1 ⟨Nat.le_of_ble_eq_true rfl, Nat.le_of_ble_eq_true rfl⟩) hS hP hD (fun (u : (Nat → Int64)) => [(h0, .inr (3, [.ref b1, .ref b2, .int (nI n), .int (nI c0), .int ry])), (b1, .inl (cJ, 320, .inr (.inl u)))]) [0, 1] [] rfl rfl (fun _ => rfl) (fun _ => rfl) (fun _ => rfl) (fun _ => rfl) (by decide) (by decide) (fun u1 H locs w1r hP hD hS => ?_)
  obtain ⟨u1_uw, rfl⟩ : ∃ z, z = u1 := ⟨_, rfl⟩
  have hP : va_P D vwCl [(h0, .inr (3, [.ref b1, .ref b2, .int (nI n), .int (nI c0), .int ry])), (b1, .inl (cJ, 320, .inr (.inl u1_uw)))] H := hP
  have hD : va_D (aA as) [(h0, .inr (3, [.ref b1, .ref b2, .int (nI n), .int (nI c0), .int ry])), (b1, .inl (cJ, 320, .inr (.inl u1_uw)))] := hD
  have w1 : ∀ z, u1_uw z = if c0 * 8 ≤ z ∧ z < c0 * 8 + 8 then lN 0 else fw z := w1r
  clear w1r
  refine lv_iconst (v := nI 0) hx hb dX3_addSingle_4 (by decide) ?_
  refine lv_istore_n (lv' := [(2, .int (nI 0)), (0, .ref h0), (1, .int (nI j))]) hx hb dX3_addSingle_5 rfl hl (by decide) rfl (fun ls hl => ?_)
  have loop2 : ∀ (fu : Nat) (k : Nat) (uw : Nat → Int64) (H : Heap) (locs : List Loc) (ls : Array Slot), (k ≤ 2 ^ n ∧ 2 ^ n < k + fu) → (RW fw uw c0 (fun t => t < k ∧ (t / 2 ^ j % 2 = 1))) → va_P D vwCl [(h0, .inr (3, [.ref b1, .ref b2, .int (nI n), .int (nI c0), .int ry])), (b1, .inl (cJ, 320, .inr (.inl uw)))] H → va_D (aA as) [(h0, .inr (3, [.ref b1, .ref b2, .int (nI n), .int (nI c0), .int ry])), (b1, .inl (cJ, 320, .inr (.inl uw)))] → va_S (aA as) s.heap H locs → lv_has ls 3 [(2, .int (nI k)), (0, .ref h0), (1, .int (nI j))] → W p l e (headSpec wsX3_addSingle rm_c_X3_addSingle_b).room s m ([.ref h0, .int (nI j)] : List Value).toArray below meth c H locs 0 0 Q (F0 m 6 ls []) := by
    intro fu
    induction fu with
    | zero => intro k uw H locs ls hk hR; exact absurd hk (by omega)
    | succ fu ih2 =>
      intro k uw H locs ls hk hR hP hD hS hl
      refine lv_iload_n hx hb dX3_addSingle_6 rfl (lv_at hl 0 rfl) ?_
      refine lv_iconst (v := nI 1) hx hb dX3_addSingle_7 (by decide) ?_
      refine lv_aload_n hx hb dX3_addSingle_8 rfl (lv_at hl 1 rfl) ?_
      refine va_get (D := D) (ci := 3) (v := .int (nI n)) (C := RX3) (T := TX3) (N := 5) hx hb hts hiX3 hown hK hP 0 rfl rfl 2 (by decide) hf23 (fun _ h9 => h9) rfl dX3_addSingle_9 ?_
      refine lv_ishl hx hb dX3_addSingle_12 ?_
      refine cn_i (y := nI (2 ^ n)) (m_shl1 (by omega)) ?_
      refine lv_icmp_ge (tgt := 36) hx hb dX3_addSingle_13 (by decide) (fun c3 => ?_) (fun c3 => ?_)
      · skip
        have d3 := c3
        rw [nI_leI (by omega) (by omega)] at d3
        refine lv_aload_n hx hb dX3_addSingle_36 rfl (lv_at hl 1 rfl) ?_
        refine lv_dup hx hb dX3_addSingle_37 rfl ?_
        refine va_get (D := D) (ci := 3) (v := .int (nI c0)) (C := RX3) (T := TX3) (N := 5) hx hb hts hiX3 hown hK hP 0 rfl rfl 3 (by decide) hf27 (fun _ h9 => h9) rfl dX3_addSingle_38 ?_
        refine lv_dup_x1 hx hb dX3_addSingle_41 rfl rfl ?_
        refine lv_iconst (v := nI 1) hx hb dX3_addSingle_42 (by decide) ?_
        refine lv_iadd hx hb dX3_addSingle_43 ?_
        refine cn_i (y := nI (c0 + 1)) (nI_add c0 1) ?_
        refine va_put (D := D) (ci := 3) (v := .int (nI (c0 + 1))) (ty := tyX3 3) (C := RX3) (T := TX3) (N := 5) hx hb hts hiX3 tyX3 tyX3_ok nmX3 hown hK hP hD hS 0 rfl rfl 3 (by decide) hf27 (fun _ h9 => h9) rfl (by decide +kernel) rfl rfl (Nat.le_of_ble_eq_true rfl) dX3_addSingle_44 (fun H locs hP hD hS => ?_)
        have hP : va_P D vwCl [(h0, .inr (3, [.ref b1, .ref b2, .int (nI n), .int (nI (c0 + 1)), .int ry])), (b1, .inl (cJ, 320, .inr (.inl uw)))] H := hP
        have hD : va_D (aA as) [(h0, .inr (3, [.ref b1, .ref b2, .int (nI n), .int (nI (c0 + 1)), .int ry])), (b1, .inl (cJ, 320, .inr (.inl uw)))] := hD
        rw [← hQ]
        exact W.iret (v := nI c0) hx hb hr (fun tS htS hWS => ⟨⟨(nI c0), (uw), rfl, ⟨rfl, hR.cong (fun t _ => ⟨fun g => ⟨by omega, g.2⟩, fun g => ⟨by omega, g.2⟩⟩)⟩, m_at htS hP⟩, by rw [← has]; exact hS.F htS⟩) (by rw [← has]; exact hS.2.2) dX3_addSingle_47
      · skip
        have d3 := c3
        rw [nI_leI (by omega) (by omega)] at d3
        refine lv_iload_n hx hb dX3_addSingle_16 rfl (lv_at hl 0 rfl) ?_
        refine lv_iload_n hx hb dX3_addSingle_17 rfl (lv_at hl 2 rfl) ?_
        refine lv_ishr hx hb dX3_addSingle_18 ?_
        refine cn_i (y := nI (k / 2 ^ j)) (m_shr (by omega) (by omega)) ?_
        refine lv_iconst (v := nI 1) hx hb dX3_addSingle_19 (by decide) ?_
        refine lv_iand hx hb dX3_addSingle_20 ?_
        refine cn_i (y := nI ((k / 2 ^ j) % 2)) (m_andn1 (by first | omega | exact Nat.lt_of_le_of_lt (Nat.div_le_self _ _) (by omega))) ?_
        refine lv_iconst (v := nI 1) hx hb dX3_addSingle_21 (by decide) ?_
        refine lv_icmp_ne (tgt := 30) hx hb dX3_addSingle_22 (by decide) (fun c4 => ?_) (fun c4 => ?_)
        · skip
          have d4 := c4
          rw [nI_eq (by omega) (by omega)] at d4
          refine lv_iinc (v := nI (k + 1)) (lv' := [(2, .int (nI (k + 1))), (0, .ref h0), (1, .int (nI j))]) hx hb dX3_addSingle_30 hl (k := 0) rfl (nI_1 k) (by decide) rfl (fun ls hl => ?_)
          refine lv_goto (tgt := 6) hx hb dX3_addSingle_33 (by decide) ?_
          exact ih2 (k + 1) uw _ _ _ (by omega) (by first | exact hR.yes (by omega) (by omega) | exact hR.no (by omega)) hP hD hS (lv_sub hl [0, 1, 2] rfl)
        · skip
          have d4 := c4
          rw [nI_eq (by omega) (by omega)] at d4
          refine lv_aload_n hx hb dX3_addSingle_25 rfl (lv_at hl 1 rfl) ?_
          refine lv_iload_n hx hb dX3_addSingle_26 rfl (lv_at hl 0 rfl) ?_
          refine mu_v (n := 2) (wc := [(h0, .inr (3, [.ref b1, .ref b2, .int (nI n), .int (nI c0), .int ry])), (b1, .inl (cJ, 320, .inr (.inl uw)))]) (va_runV (As := [.int (nI k)]) (rest := []) ⟨hx, hb, hml, hown, hts⟩ (c_X3_mark l D cI cJ cZ h0 b1 b2 c0 k (nI n) ry uw (by first | assumption | omega) (by first | assumption | omega)) (cwV 1 hts gX3_addSingle_X3_mark rfl rfl rfl (by decide +kernel) ⟨Nat.le_of_ble_eq_true rfl, Nat.le_of_ble_eq_true rfl⟩) ⟨pm_blind, va_recv hK hP (ci := 3) (q0 := 0) rfl rfl, fun U hU hW => ⟨rfl, by rw [hU]; exact hP.sub (ws' := [(h0, .inr (3, [.ref b1, .ref b2, .int (nI n), .int (nI c0), .int ry])), (b1, .inl (cJ, 320, .inr (.inl uw)))]) [0, 1] rfl, hKN.warm hW, (hD.sub (ws' := [(h0, .inr (3, [.ref b1, .ref b2, .int (nI n), .int (nI c0), .int ry])), (b1, .inl (cJ, 320, .inr (.inl uw)))]) [0, 1] (by decide) rfl).weaken (fun _ _ _ _ => trivial)⟩⟩ rfl rfl hl.1 rfl (lv_room (Nat.le_of_ble_eq_true rfl)) dX3_addSingle_27 ⟨Nat.le_of_ble_eq_true rfl, Nat.le_of_ble_eq_true rfl⟩) hS hP hD (fun (u : Unit) => [(h0, .inr (3, [.ref b1, .ref b2, .int (nI n), .int (nI c0), .int ry])), (b1, .inl (cJ, 320, .inr (.inl (mkG uw c0 k))))]) [0, 1] [] rfl rfl (fun _ => rfl) (fun _ => rfl) (fun _ => rfl) (fun _ => rfl) (by decide) (by decide) (fun u5 H locs w5r hP hD hS => ?_)
          have hP : va_P D vwCl [(h0, .inr (3, [.ref b1, .ref b2, .int (nI n), .int (nI c0), .int ry])), (b1, .inl (cJ, 320, .inr (.inl (mkG uw c0 k))))] H := hP
          have hD : va_D (aA as) [(h0, .inr (3, [.ref b1, .ref b2, .int (nI n), .int (nI c0), .int ry])), (b1, .inl (cJ, 320, .inr (.inl (mkG uw c0 k))))] := hD
          have w5 : True := w5r
          clear w5r
          refine lv_iinc (v := nI (k + 1)) (lv' := [(2, .int (nI (k + 1))), (0, .ref h0), (1, .int (nI j))]) hx hb dX3_addSingle_30 hl (k := 0) rfl (nI_1 k) (by decide) rfl (fun ls hl => ?_)
          refine lv_goto (tgt := 6) hx hb dX3_addSingle_33 (by decide) ?_
          exact ih2 (k + 1) (mkG uw c0 k) _ _ _ (by omega) (by first | exact hR.yes (by omega) (by omega) | exact hR.no (by omega)) hP hD hS (lv_sub hl [0, 1, 2] rfl)
  exact loop2 (2 ^ n + 1) 0 u1_uw _ _ _ (by omega) (RW.wipe (fun t => t / 2 ^ j % 2 = 1) w1) hP hD hS (lv_sub hl [0, 1, 2] rfl)
def rm_c_X3_addRow_b : Room := { frames := 0, cells := 0, slots := 0, locals := 0 }
set_option maxHeartbeats 400000 in
set_option maxRecDepth 100000 in
theorem c_X3_addRow_b (l : Launch) (D : va_G) (cI cJ cZ : ClassId) (h0 : Nat) (b1 : Nat) (b2 : Nat) (c0 : Nat) (a : Nat) (b : Nat) (pt : Int32) (ry : Int32) (fw : Nat → Int64) (hc : c0 < 40) (ha : a < c0) (hb0 : b < c0) : Met l yX3_addRow wsX3_addRow rm_c_X3_addRow_b (pm_ D cI cJ cZ [.ref h0, .int (nI a), .int (nI b)] [(h0, .inr (3, [.ref b1, .ref b2, .int pt, .int (nI c0), .int ry])), (b1, .inl (cJ, 320, .inr (.inl fw)))]) (va_Qi (fun (r : Int32) (u : (Nat → Int64)) => r = nI c0 ∧ RW fw u c0 (fun t => isG fw a t ∧ isG fw b t)) (fun (u : (Nat → Int64)) tS => va_P D vwCl [(h0, .inr (3, [.ref b1, .ref b2, .int pt, .int (nI (c0 + 1)), .int ry])), (b1, .inl (cJ, 320, .inr (.inl u)))] tS.heap) (aA [h0, b1])) 0 0 (aA [h0, b1]) := by
  refine Met.ofW (cc := cX3_addRow) (maxL := 4) (ret := (some .int)) (by decide) rfl ?_
  intro p e s m args below meth c s₁ B hml hv
  obtain ⟨rfl, hP, hKN, hD0⟩ := hv
  have hK := hKN.1
  have hx := B.exec
  have hb := B.bytes
  have hr := B.returns
  have hts := atoms_spec (ws := wsX3_addRow) B.pre
  have hown : s.vm.findClass RX3 = some m.cls := findClass_of_methodNamed B.named
  have hlocks := B.notSynchronized
  have hiX3 : ∀ w ∈ wsX30, w ∈ wsX3_addRow := by decide +kernel
  have hf11 := hts (.fieldLink RX3 11 "LookBench$Rules" "words" "[J") (by decide +kernel)
  have hf27 := hts (.fieldLink RX3 27 "LookBench$Rules" "count" "I") (by decide +kernel)
  obtain ⟨as, has⟩ : ∃ z : List Nat, z = [h0, b1] := ⟨_, rfl⟩
  have hD := hD0.addr (as := as) (by rw [has]; rfl)
  have hS : va_S (aA as) s.heap s.heap [] := va_S.rf
  have hl := lv_entry ([.ref h0, .int (nI a), .int (nI b)]) (n := 4) (Nat.le_of_ble_eq_true rfl)
  rw [lg_entry_eq]
  generalize (lg_sl ([.ref h0, .int (nI a), .int (nI b)]) ++ List.replicate (4 - (lg_sl ([.ref h0, .int (nI a), .int (nI b)])).length) Slot.unset).toArray = ls at hl ⊢
  have hl : lv_has ls 4 [(0, .ref h0), (1, .int (nI a)), (2, .int (nI b))] := hl
  generalize hQ : MQ below _ _ s _ _ _ = Q
  obtain ⟨H, hH⟩ : ∃ z, z = s.heap := ⟨_, rfl⟩
  have hP : va_P D vwCl [(h0, .inr (3, [.ref b1, .ref b2, .int pt, .int (nI c0), .int ry])), (b1, .inl (cJ, 320, .inr (.inl fw)))] H := by rw [hH]; exact hP
  have hS : va_S (aA as) s.heap H [] := by rw [hH]; exact hS
  refine m_heap hH ?_
  clear hH
  refine lv_iconst (v := nI 0) hx hb dX3_addRow_0 (by decide) ?_
  refine lv_istore_n (lv' := [(3, .int (nI 0)), (0, .ref h0), (1, .int (nI a)), (2, .int (nI b))]) hx hb dX3_addRow_1 rfl hl (by decide) rfl (fun ls hl => ?_)
  have loop1 : ∀ (fu : Nat) (k : Nat) (uw : Nat → Int64) (H : Heap) (locs : List Loc) (ls : Array Slot), (k ≤ 8 ∧ 8 < k + fu) → (∀ z, uw z = if c0 * 8 ≤ z ∧ z < c0 * 8 + k then fw (a * 8 + (z - c0 * 8)) &&& fw (b * 8 + (z - c0 * 8)) else fw z) → va_P D vwCl [(h0, .inr (3, [.ref b1, .ref b2, .int pt, .int (nI c0), .int ry])), (b1, .inl (cJ, 320, .inr (.inl uw)))] H → va_D (aA as) [(h0, .inr (3, [.ref b1, .ref b2, .int pt, .int (nI c0), .int ry])), (b1, .inl (cJ, 320, .inr (.inl uw)))] → va_S (aA as) s.heap H locs → lv_has ls 4 [(3, .int (nI k)), (0, .ref h0), (1, .int (nI a)), (2, .int (nI b))] → W p l e (headSpec wsX3_addRow rm_c_X3_addRow_b).room s m ([.ref h0, .int (nI a), .int (nI b)] : List Value).toArray below meth c H locs 0 0 Q (F0 m 2 ls []) := by
    intro fu
    induction fu with
    | zero => intro k uw H locs ls hk hi; exact absurd hk (by omega)
    | succ fu ih1 =>
      intro k uw H locs ls hk hi hP hD hS hl
      refine lv_iload_n hx hb dX3_addRow_2 rfl (lv_at hl 0 rfl) ?_
      refine lv_bipush (v := nI 8) hx hb dX3_addRow_3 (by decide) ?_
      refine lv_icmp_ge (tgt := 51) hx hb dX3_addRow_5 (by decide) (fun c2 => ?_) (fun c2 => ?_)
      · skip
        have d2 := c2
        rw [nI_leI (by omega) (by omega)] at d2
        refine lv_aload_n hx hb dX3_addRow_51 rfl (lv_at hl 1 rfl) ?_
        refine lv_dup hx hb dX3_addRow_52 rfl ?_
        refine va_get (D := D) (ci := 3) (v := .int (nI c0)) (C := RX3) (T := TX3) (N := 5) hx hb hts hiX3 hown hK hP 0 rfl rfl 3 (by decide) hf27 (fun _ h9 => h9) rfl dX3_addRow_53 ?_
        refine lv_dup_x1 hx hb dX3_addRow_56 rfl rfl ?_
        refine lv_iconst (v := nI 1) hx hb dX3_addRow_57 (by decide) ?_
        refine lv_iadd hx hb dX3_addRow_58 ?_
        refine cn_i (y := nI (c0 + 1)) (nI_add c0 1) ?_
        refine va_put (D := D) (ci := 3) (v := .int (nI (c0 + 1))) (ty := tyX3 3) (C := RX3) (T := TX3) (N := 5) hx hb hts hiX3 tyX3 tyX3_ok nmX3 hown hK hP hD hS 0 rfl rfl 3 (by decide) hf27 (fun _ h9 => h9) rfl (by decide +kernel) rfl rfl (Nat.le_of_ble_eq_true rfl) dX3_addRow_59 (fun H locs hP hD hS => ?_)
        have hP : va_P D vwCl [(h0, .inr (3, [.ref b1, .ref b2, .int pt, .int (nI (c0 + 1)), .int ry])), (b1, .inl (cJ, 320, .inr (.inl uw)))] H := hP
        have hD : va_D (aA as) [(h0, .inr (3, [.ref b1, .ref b2, .int pt, .int (nI (c0 + 1)), .int ry])), (b1, .inl (cJ, 320, .inr (.inl uw)))] := hD
        rw [← hQ]
        exact W.iret (v := nI c0) hx hb hr (fun tS htS hWS => ⟨⟨(nI c0), (uw), rfl, ⟨rfl, RW.and (fun z => by have h := hi z; rw [show k = 8 by omega] at h; exact h)⟩, m_at htS hP⟩, by rw [← has]; exact hS.F htS⟩) (by rw [← has]; exact hS.2.2) dX3_addRow_62
      · skip
        have d2 := c2
        rw [nI_leI (by omega) (by omega)] at d2
        refine lv_aload_n hx hb dX3_addRow_8 rfl (lv_at hl 1 rfl) ?_
        refine va_get (D := D) (ci := 3) (v := .ref b1) (C := RX3) (T := TX3) (N := 5) hx hb hts hiX3 hown hK hP 0 rfl rfl 0 (by decide) hf11 (fun _ h9 => h9) rfl dX3_addRow_9 ?_
        refine lv_aload_n hx hb dX3_addRow_12 rfl (lv_at hl 1 rfl) ?_
        refine va_get (D := D) (ci := 3) (v := .int (nI c0)) (C := RX3) (T := TX3) (N := 5) hx hb hts hiX3 hown hK hP 0 rfl rfl 3 (by decide) hf27 (fun _ h9 => h9) rfl dX3_addRow_13 ?_
        refine lv_bipush (v := nI 8) hx hb dX3_addRow_16 (by decide) ?_
        refine lv_imul hx hb dX3_addRow_18 ?_
        refine cn_i (y := nI (c0 * 8)) (pk_mul c0 8) ?_
        refine lv_iload_n hx hb dX3_addRow_19 rfl (lv_at hl 0 rfl) ?_
        refine lv_iadd hx hb dX3_addRow_20 ?_
        refine cn_i (y := nI ((c0 * 8) + k)) (nI_add (c0 * 8) k) ?_
        refine lv_aload_n hx hb dX3_addRow_21 rfl (lv_at hl 1 rfl) ?_
        refine va_get (D := D) (ci := 3) (v := .ref b1) (C := RX3) (T := TX3) (N := 5) hx hb hts hiX3 hown hK hP 0 rfl rfl 0 (by decide) hf11 (fun _ h9 => h9) rfl dX3_addRow_22 ?_
        refine lv_iload_n hx hb dX3_addRow_25 rfl (lv_at hl 2 rfl) ?_
        refine lv_bipush (v := nI 8) hx hb dX3_addRow_26 (by decide) ?_
        refine lv_imul hx hb dX3_addRow_28 ?_
        refine cn_i (y := nI (a * 8)) (pk_mul a 8) ?_
        refine lv_iload_n hx hb dX3_addRow_29 rfl (lv_at hl 0 rfl) ?_
        refine lv_iadd hx hb dX3_addRow_30 ?_
        refine cn_i (y := nI ((a * 8) + k)) (nI_add (a * 8) k) ?_
        refine va_lald hx hb hK hP 1 1 rfl rfl (i := nI ((a * 8) + k)) (vp_in_nI (by omega) (by omega)) dX3_addRow_31 ?_
        refine cn_l (y := uw ((a * 8) + k)) (congrArg uw (nI_clamp (by omega))) ?_
        refine lv_aload_n hx hb dX3_addRow_32 rfl (lv_at hl 1 rfl) ?_
        refine va_get (D := D) (ci := 3) (v := .ref b1) (C := RX3) (T := TX3) (N := 5) hx hb hts hiX3 hown hK hP 0 rfl rfl 0 (by decide) hf11 (fun _ h9 => h9) rfl dX3_addRow_33 ?_
        refine lv_iload_n hx hb dX3_addRow_36 rfl (lv_at hl 3 rfl) ?_
        refine lv_bipush (v := nI 8) hx hb dX3_addRow_37 (by decide) ?_
        refine lv_imul hx hb dX3_addRow_39 ?_
        refine cn_i (y := nI (b * 8)) (pk_mul b 8) ?_
        refine lv_iload_n hx hb dX3_addRow_40 rfl (lv_at hl 0 rfl) ?_
        refine lv_iadd hx hb dX3_addRow_41 ?_
        refine cn_i (y := nI ((b * 8) + k)) (nI_add (b * 8) k) ?_
        refine va_lald hx hb hK hP 1 1 rfl rfl (i := nI ((b * 8) + k)) (vp_in_nI (by omega) (by omega)) dX3_addRow_42 ?_
        refine cn_l (y := uw ((b * 8) + k)) (congrArg uw (nI_clamp (by omega))) ?_
        refine lv_land hx hb dX3_addRow_43 ?_
        refine va_last hx hb hK hP hD hS 1 1 rfl rfl (i := nI ((c0 * 8) + k)) (vp_in_nI (by omega) (by omega)) dX3_addRow_44 (fun H locs hP hD hS => ?_)
        have hP : va_P D vwCl [(h0, .inr (3, [.ref b1, .ref b2, .int pt, .int (nI c0), .int ry])), (b1, .inl (cJ, 320, .inr (.inl (vp_updL uw (nI ((c0 * 8) + k)).toNatClampNeg ((uw ((a * 8) + k)) &&& (uw ((b * 8) + k)))))))] H := hP
        have hD : va_D (aA as) [(h0, .inr (3, [.ref b1, .ref b2, .int pt, .int (nI c0), .int ry])), (b1, .inl (cJ, 320, .inr (.inl (vp_updL uw (nI ((c0 * 8) + k)).toNatClampNeg ((uw ((a * 8) + k)) &&& (uw ((b * 8) + k)))))))] := hD
        rw [nI_clamp (n := ((c0 * 8) + k)) (by omega)] at hP hD
        refine lv_iinc (v := nI (k + 1)) (lv' := [(3, .int (nI (k + 1))), (0, .ref h0), (1, .int (nI a)), (2, .int (nI b))]) hx hb dX3_addRow_45 hl (k := 0) rfl (nI_1 k) (by decide) rfl (fun ls hl => ?_)
        refine lv_goto (tgt := 2) hx hb dX3_addRow_48 (by decide) ?_
        exact ih1 (k + 1) (vp_updL uw ((c0 * 8) + k) ((uw ((a * 8) + k)) &&& (uw ((b * 8) + k)))) _ _ _ (by omega) (fun z => by unfold vp_updL; by_cases e9 : z = c0 * 8 + k; exact (by rw [if_pos e9, if_pos (by omega), hi (a * 8 + k), hi (b * 8 + k), if_neg (by omega), if_neg (by omega), show z - c0 * 8 = k by omega]); exact (by rw [if_neg e9, hi z]; by_cases e8 : c0 * 8 ≤ z ∧ z < c0 * 8 + k; exact (by rw [if_pos e8, if_pos (by omega)]); exact (by rw [if_neg e8, if_neg (by omega)]))) hP hD hS (lv_sub hl [0, 1, 2, 3] rfl)
  exact loop1 9 0 fw _ _ _ (by omega) (fun z => by rw [if_neg (by omega)]) hP hD hS (lv_sub hl [0, 1, 2, 3] rfl)
def rm_c_X3_addSide_b : Room := { frames := 0, cells := 0, slots := 0, locals := 0 }
set_option maxHeartbeats 400000 in
set_option maxRecDepth 100000 in
theorem c_X3_addSide_b (l : Launch) (D : va_G) (cI cJ cZ : ClassId) (h0 : Nat) (b1 : Nat) (b2 : Nat) (c0 : Nat) (a : Nat) (b : Nat) (pt : Int32) (ry : Int32) (fw : Nat → Int64) (hc : c0 < 40) (ha : a < c0) (hb0 : b < c0) : Met l yX3_addSide wsX3_addSide rm_c_X3_addSide_b (pm_ D cI cJ cZ [.ref h0, .int (nI a), .int (nI b)] [(h0, .inr (3, [.ref b1, .ref b2, .int pt, .int (nI c0), .int ry])), (b1, .inl (cJ, 320, .inr (.inl fw)))]) (va_Qi (fun (r : Int32) (u : (Nat → Int64)) => r = nI c0 ∧ RW fw u c0 (fun t => isG fw a t ∨ isG fw b t)) (fun (u : (Nat → Int64)) tS => va_P D vwCl [(h0, .inr (3, [.ref b1, .ref b2, .int pt, .int (nI (c0 + 1)), .int ry])), (b1, .inl (cJ, 320, .inr (.inl u)))] tS.heap) (aA [h0, b1])) 0 0 (aA [h0, b1]) := by
  refine Met.ofW (cc := cX3_addSide) (maxL := 4) (ret := (some .int)) (by decide) rfl ?_
  intro p e s m args below meth c s₁ B hml hv
  obtain ⟨rfl, hP, hKN, hD0⟩ := hv
  have hK := hKN.1
  have hx := B.exec
  have hb := B.bytes
  have hr := B.returns
  have hts := atoms_spec (ws := wsX3_addSide) B.pre
  have hown : s.vm.findClass RX3 = some m.cls := findClass_of_methodNamed B.named
  have hlocks := B.notSynchronized
  have hiX3 : ∀ w ∈ wsX30, w ∈ wsX3_addSide := by decide +kernel
  have hf11 := hts (.fieldLink RX3 11 "LookBench$Rules" "words" "[J") (by decide +kernel)
  have hf27 := hts (.fieldLink RX3 27 "LookBench$Rules" "count" "I") (by decide +kernel)
  obtain ⟨as, has⟩ : ∃ z : List Nat, z = [h0, b1] := ⟨_, rfl⟩
  have hD := hD0.addr (as := as) (by rw [has]; rfl)
  have hS : va_S (aA as) s.heap s.heap [] := va_S.rf
  have hl := lv_entry ([.ref h0, .int (nI a), .int (nI b)]) (n := 4) (Nat.le_of_ble_eq_true rfl)
  rw [lg_entry_eq]
  generalize (lg_sl ([.ref h0, .int (nI a), .int (nI b)]) ++ List.replicate (4 - (lg_sl ([.ref h0, .int (nI a), .int (nI b)])).length) Slot.unset).toArray = ls at hl ⊢
  have hl : lv_has ls 4 [(0, .ref h0), (1, .int (nI a)), (2, .int (nI b))] := hl
  generalize hQ : MQ below _ _ s _ _ _ = Q
  obtain ⟨H, hH⟩ : ∃ z, z = s.heap := ⟨_, rfl⟩
  have hP : va_P D vwCl [(h0, .inr (3, [.ref b1, .ref b2, .int pt, .int (nI c0), .int ry])), (b1, .inl (cJ, 320, .inr (.inl fw)))] H := by rw [hH]; exact hP
  have hS : va_S (aA as) s.heap H [] := by rw [hH]; exact hS
  refine m_heap hH ?_
  clear hH
  refine lv_iconst (v := nI 0) hx hb dX3_addSide_0 (by decide) ?_
  refine lv_istore_n (lv' := [(3, .int (nI 0)), (0, .ref h0), (1, .int (nI a)), (2, .int (nI b))]) hx hb dX3_addSide_1 rfl hl (by decide) rfl (fun ls hl => ?_)
  have loop1 : ∀ (fu : Nat) (k : Nat) (uw : Nat → Int64) (H : Heap) (locs : List Loc) (ls : Array Slot), (k ≤ 8 ∧ 8 < k + fu) → (∀ z, uw z = if c0 * 8 ≤ z ∧ z < c0 * 8 + k then fw (a * 8 + (z - c0 * 8)) ||| fw (b * 8 + (z - c0 * 8)) else fw z) → va_P D vwCl [(h0, .inr (3, [.ref b1, .ref b2, .int pt, .int (nI c0), .int ry])), (b1, .inl (cJ, 320, .inr (.inl uw)))] H → va_D (aA as) [(h0, .inr (3, [.ref b1, .ref b2, .int pt, .int (nI c0), .int ry])), (b1, .inl (cJ, 320, .inr (.inl uw)))] → va_S (aA as) s.heap H locs → lv_has ls 4 [(3, .int (nI k)), (0, .ref h0), (1, .int (nI a)), (2, .int (nI b))] → W p l e (headSpec wsX3_addSide rm_c_X3_addSide_b).room s m ([.ref h0, .int (nI a), .int (nI b)] : List Value).toArray below meth c H locs 0 0 Q (F0 m 2 ls []) := by
    intro fu
    induction fu with
    | zero => intro k uw H locs ls hk hi; exact absurd hk (by omega)
    | succ fu ih1 =>
      intro k uw H locs ls hk hi hP hD hS hl
      refine lv_iload_n hx hb dX3_addSide_2 rfl (lv_at hl 0 rfl) ?_
      refine lv_bipush (v := nI 8) hx hb dX3_addSide_3 (by decide) ?_
      refine lv_icmp_ge (tgt := 51) hx hb dX3_addSide_5 (by decide) (fun c2 => ?_) (fun c2 => ?_)
      · skip
        have d2 := c2
        rw [nI_leI (by omega) (by omega)] at d2
        refine lv_aload_n hx hb dX3_addSide_51 rfl (lv_at hl 1 rfl) ?_
        refine lv_dup hx hb dX3_addSide_52 rfl ?_
        refine va_get (D := D) (ci := 3) (v := .int (nI c0)) (C := RX3) (T := TX3) (N := 5) hx hb hts hiX3 hown hK hP 0 rfl rfl 3 (by decide) hf27 (fun _ h9 => h9) rfl dX3_addSide_53 ?_
        refine lv_dup_x1 hx hb dX3_addSide_56 rfl rfl ?_
        refine lv_iconst (v := nI 1) hx hb dX3_addSide_57 (by decide) ?_
        refine lv_iadd hx hb dX3_addSide_58 ?_
        refine cn_i (y := nI (c0 + 1)) (nI_add c0 1) ?_
        refine va_put (D := D) (ci := 3) (v := .int (nI (c0 + 1))) (ty := tyX3 3) (C := RX3) (T := TX3) (N := 5) hx hb hts hiX3 tyX3 tyX3_ok nmX3 hown hK hP hD hS 0 rfl rfl 3 (by decide) hf27 (fun _ h9 => h9) rfl (by decide +kernel) rfl rfl (Nat.le_of_ble_eq_true rfl) dX3_addSide_59 (fun H locs hP hD hS => ?_)
        have hP : va_P D vwCl [(h0, .inr (3, [.ref b1, .ref b2, .int pt, .int (nI (c0 + 1)), .int ry])), (b1, .inl (cJ, 320, .inr (.inl uw)))] H := hP
        have hD : va_D (aA as) [(h0, .inr (3, [.ref b1, .ref b2, .int pt, .int (nI (c0 + 1)), .int ry])), (b1, .inl (cJ, 320, .inr (.inl uw)))] := hD
        rw [← hQ]
        exact W.iret (v := nI c0) hx hb hr (fun tS htS hWS => ⟨⟨(nI c0), (uw), rfl, ⟨rfl, RW.or (fun z => by have h := hi z; rw [show k = 8 by omega] at h; exact h)⟩, m_at htS hP⟩, by rw [← has]; exact hS.F htS⟩) (by rw [← has]; exact hS.2.2) dX3_addSide_62
      · skip
        have d2 := c2
        rw [nI_leI (by omega) (by omega)] at d2
        refine lv_aload_n hx hb dX3_addSide_8 rfl (lv_at hl 1 rfl) ?_
        refine va_get (D := D) (ci := 3) (v := .ref b1) (C := RX3) (T := TX3) (N := 5) hx hb hts hiX3 hown hK hP 0 rfl rfl 0 (by decide) hf11 (fun _ h9 => h9) rfl dX3_addSide_9 ?_
        refine lv_aload_n hx hb dX3_addSide_12 rfl (lv_at hl 1 rfl) ?_
        refine va_get (D := D) (ci := 3) (v := .int (nI c0)) (C := RX3) (T := TX3) (N := 5) hx hb hts hiX3 hown hK hP 0 rfl rfl 3 (by decide) hf27 (fun _ h9 => h9) rfl dX3_addSide_13 ?_
        refine lv_bipush (v := nI 8) hx hb dX3_addSide_16 (by decide) ?_
        refine lv_imul hx hb dX3_addSide_18 ?_
        refine cn_i (y := nI (c0 * 8)) (pk_mul c0 8) ?_
        refine lv_iload_n hx hb dX3_addSide_19 rfl (lv_at hl 0 rfl) ?_
        refine lv_iadd hx hb dX3_addSide_20 ?_
        refine cn_i (y := nI ((c0 * 8) + k)) (nI_add (c0 * 8) k) ?_
        refine lv_aload_n hx hb dX3_addSide_21 rfl (lv_at hl 1 rfl) ?_
        refine va_get (D := D) (ci := 3) (v := .ref b1) (C := RX3) (T := TX3) (N := 5) hx hb hts hiX3 hown hK hP 0 rfl rfl 0 (by decide) hf11 (fun _ h9 => h9) rfl dX3_addSide_22 ?_
        refine lv_iload_n hx hb dX3_addSide_25 rfl (lv_at hl 2 rfl) ?_
        refine lv_bipush (v := nI 8) hx hb dX3_addSide_26 (by decide) ?_
        refine lv_imul hx hb dX3_addSide_28 ?_
        refine cn_i (y := nI (a * 8)) (pk_mul a 8) ?_
        refine lv_iload_n hx hb dX3_addSide_29 rfl (lv_at hl 0 rfl) ?_
        refine lv_iadd hx hb dX3_addSide_30 ?_
        refine cn_i (y := nI ((a * 8) + k)) (nI_add (a * 8) k) ?_
        refine va_lald hx hb hK hP 1 1 rfl rfl (i := nI ((a * 8) + k)) (vp_in_nI (by omega) (by omega)) dX3_addSide_31 ?_
        refine cn_l (y := uw ((a * 8) + k)) (congrArg uw (nI_clamp (by omega))) ?_
        refine lv_aload_n hx hb dX3_addSide_32 rfl (lv_at hl 1 rfl) ?_
        refine va_get (D := D) (ci := 3) (v := .ref b1) (C := RX3) (T := TX3) (N := 5) hx hb hts hiX3 hown hK hP 0 rfl rfl 0 (by decide) hf11 (fun _ h9 => h9) rfl dX3_addSide_33 ?_
        refine lv_iload_n hx hb dX3_addSide_36 rfl (lv_at hl 3 rfl) ?_
        refine lv_bipush (v := nI 8) hx hb dX3_addSide_37 (by decide) ?_
        refine lv_imul hx hb dX3_addSide_39 ?_
        refine cn_i (y := nI (b * 8)) (pk_mul b 8) ?_
        refine lv_iload_n hx hb dX3_addSide_40 rfl (lv_at hl 0 rfl) ?_
        refine lv_iadd hx hb dX3_addSide_41 ?_
        refine cn_i (y := nI ((b * 8) + k)) (nI_add (b * 8) k) ?_
        refine va_lald hx hb hK hP 1 1 rfl rfl (i := nI ((b * 8) + k)) (vp_in_nI (by omega) (by omega)) dX3_addSide_42 ?_
        refine cn_l (y := uw ((b * 8) + k)) (congrArg uw (nI_clamp (by omega))) ?_
        refine lv_lor hx hb dX3_addSide_43 ?_
        refine va_last hx hb hK hP hD hS 1 1 rfl rfl (i := nI ((c0 * 8) + k)) (vp_in_nI (by omega) (by omega)) dX3_addSide_44 (fun H locs hP hD hS => ?_)
        have hP : va_P D vwCl [(h0, .inr (3, [.ref b1, .ref b2, .int pt, .int (nI c0), .int ry])), (b1, .inl (cJ, 320, .inr (.inl (vp_updL uw (nI ((c0 * 8) + k)).toNatClampNeg ((uw ((a * 8) + k)) ||| (uw ((b * 8) + k)))))))] H := hP
        have hD : va_D (aA as) [(h0, .inr (3, [.ref b1, .ref b2, .int pt, .int (nI c0), .int ry])), (b1, .inl (cJ, 320, .inr (.inl (vp_updL uw (nI ((c0 * 8) + k)).toNatClampNeg ((uw ((a * 8) + k)) ||| (uw ((b * 8) + k)))))))] := hD
        rw [nI_clamp (n := ((c0 * 8) + k)) (by omega)] at hP hD
        refine lv_iinc (v := nI (k + 1)) (lv' := [(3, .int (nI (k + 1))), (0, .ref h0), (1, .int (nI a)), (2, .int (nI b))]) hx hb dX3_addSide_45 hl (k := 0) rfl (nI_1 k) (by decide) rfl (fun ls hl => ?_)
        refine lv_goto (tgt := 2) hx hb dX3_addSide_48 (by decide) ?_
        exact ih1 (k + 1) (vp_updL uw ((c0 * 8) + k) ((uw ((a * 8) + k)) ||| (uw ((b * 8) + k)))) _ _ _ (by omega) (fun z => by unfold vp_updL; by_cases e9 : z = c0 * 8 + k; exact (by rw [if_pos e9, if_pos (by omega), hi (a * 8 + k), hi (b * 8 + k), if_neg (by omega), if_neg (by omega), show z - c0 * 8 = k by omega]); exact (by rw [if_neg e9, hi z]; by_cases e8 : c0 * 8 ≤ z ∧ z < c0 * 8 + k; exact (by rw [if_pos e8, if_pos (by omega)]); exact (by rw [if_neg e8, if_neg (by omega)]))) hP hD hS (lv_sub hl [0, 1, 2, 3] rfl)
  exact loop1 9 0 fw _ _ _ (by omega) (fun z => by rw [if_neg (by omega)]) hP hD hS (lv_sub hl [0, 1, 2, 3] rfl)
def rm_c_X3_addDual_b : Room := { frames := 1, cells := 0, slots := 0, locals := 22 }
set_option maxHeartbeats 400000 in
set_option maxRecDepth 100000 in
theorem c_X3_addDual_b (l : Launch) (D : va_G) (cI cJ cZ : ClassId) (h0 : Nat) (b1 : Nat) (b2 : Nat) (n : Nat) (c0 : Nat) (a : Nat) (ry : Int32) (fw : Nat → Int64) (hn : n ≤ 9) (hc : c0 < 40) (ha : a < c0) : Met l yX3_addDual wsX3_addDual rm_c_X3_addDual_b (pm_ D cI cJ cZ [.ref h0, .int (nI a)] [(h0, .inr (3, [.ref b1, .ref b2, .int (nI n), .int (nI c0), .int ry])), (b1, .inl (cJ, 320, .inr (.inl fw)))]) (va_Qi (fun (r : Int32) (u : (Nat → Int64)) => r = nI c0 ∧ RW fw u c0 (fun t => t < 2 ^ n ∧ (¬ isG fw a ((2 ^ n - 1) ^^^ t)))) (fun (u : (Nat → Int64)) tS => va_P D vwCl [(h0, .inr (3, [.ref b1, .ref b2, .int (nI n), .int (nI (c0 + 1)), .int ry])), (b1, .inl (cJ, 320, .inr (.inl u)))] tS.heap) (aA [h0, b1])) 0 0 (aA [h0, b1]) := by
  refine Met.ofW (cc := cX3_addDual) (maxL := 4) (ret := (some .int)) (by decide) rfl ?_
  intro p e s m args below meth c s₁ B hml hv
  obtain ⟨rfl, hP, hKN, hD0⟩ := hv
  have hK := hKN.1
  have hx := B.exec
  have hb := B.bytes
  have hr := B.returns
  have hts := atoms_spec (ws := wsX3_addDual) B.pre
  have hown : s.vm.findClass RX3 = some m.cls := findClass_of_methodNamed B.named
  have hlocks := B.notSynchronized
  have hiX3 : ∀ w ∈ wsX30, w ∈ wsX3_addDual := by decide +kernel
  have hf23 := hts (.fieldLink RX3 23 "LookBench$Rules" "parts" "I") (by decide +kernel)
  have hf27 := hts (.fieldLink RX3 27 "LookBench$Rules" "count" "I") (by decide +kernel)
  obtain ⟨as, has⟩ : ∃ z : List Nat, z = [h0, b1] := ⟨_, rfl⟩
  have hD := hD0.addr (as := as) (by rw [has]; rfl)
  have hS : va_S (aA as) s.heap s.heap [] := va_S.rf
  have hl := lv_entry ([.ref h0, .int (nI a)]) (n := 4) (Nat.le_of_ble_eq_true rfl)
  rw [lg_entry_eq]
  generalize (lg_sl ([.ref h0, .int (nI a)]) ++ List.replicate (4 - (lg_sl ([.ref h0, .int (nI a)])).length) Slot.unset).toArray = ls at hl ⊢
  have hl : lv_has ls 4 [(0, .ref h0), (1, .int (nI a))] := hl
  generalize hQ : MQ below _ _ s _ _ _ = Q
  obtain ⟨H, hH⟩ : ∃ z, z = s.heap := ⟨_, rfl⟩
  have hP : va_P D vwCl [(h0, .inr (3, [.ref b1, .ref b2, .int (nI n), .int (nI c0), .int ry])), (b1, .inl (cJ, 320, .inr (.inl fw)))] H := by rw [hH]; exact hP
  have hS : va_S (aA as) s.heap H [] := by rw [hH]; exact hS
  refine m_heap hH ?_
  clear hH
  have h2n := m_pow hn
  have h2p := m_powp n
  refine lv_aload_n hx hb dX3_addDual_0 rfl (lv_at hl 0 rfl) ?_
  refine mu_v (n := 2) (wc := [(h0, .inr (3, [.ref b1, .ref b2, .int (nI n), .int (nI c0), .int ry])), (b1, .inl (cJ, 320, .inr (.inl fw)))]) (va_runV (As := []) (rest := []) ⟨hx, hb, hml, hown, hts⟩ (c_X3_wipe l D cI cJ cZ h0 b1 b2 c0 (nI n) ry fw (by first | assumption | omega)) (cwV 0 hts gX3_addDual_X3_wipe rfl rfl rfl (by decide +kernel) ⟨Nat.le_of_ble_eq_true rfl, Nat.le_of_ble_eq_true rfl⟩) ⟨pm_blind, va_recv hK hP (ci := 3) (q0 := 0) rfl rfl, fun U hU hW => ⟨rfl, by rw [hU]; exact hP.sub (ws' := [(h0, .inr (3, [.ref b1, .ref b2, .int (nI n), .int (nI c0), .int ry])), (b1, .inl (cJ, 320, .inr (.inl fw)))]) [0, 1] rfl, hKN.warm hW, (hD.sub (ws' := [(h0, .inr (3, [.ref b1, .ref b2, .int (nI n), .int (nI c0), .int ry])), (b1, .inl (cJ, 320, .inr (.inl fw)))]) [0, 1] (by decide) rfl).weaken (fun _ _ _ _ => trivial)⟩⟩ rfl rfl hl.1 rfl (lv_room (Nat.le_of_ble_eq_true rfl)) dX3_addDual_1 ⟨Nat.le_of_ble_eq_true rfl, Nat.le_of_ble_eq_true rfl⟩) hS hP hD (fun (u : (Nat → Int64)) => [(h0, .inr (3, [.ref b1, .ref b2, .int (nI n), .int (nI c0), .int ry])), (b1, .inl (cJ, 320, .inr (.inl u)))]) [0, 1] [] rfl rfl (fun _ => rfl) (fun _ => rfl) (fun _ => rfl) (fun _ => rfl) (by decide) (by decide) (fun u1 H locs w1r hP hD hS => ?_)
  obtain ⟨u1_uw, rfl⟩ : ∃ z, z = u1 := ⟨_, rfl⟩
  have hP : va_P D vwCl [(h0, .inr (3, [.ref b1, .ref b2, .int (nI n), .int (nI c0), .int ry])), (b1, .inl (cJ, 320, .inr (.inl u1_uw)))] H := hP
  have hD : va_D (aA as) [(h0, .inr (3, [.ref b1, .ref b2, .int (nI n), .int (nI c0), .int ry])), (b1, .inl (cJ, 320, .inr (.inl u1_uw)))] := hD
  have w1 : ∀ z, u1_uw z = if c0 * 8 ≤ z ∧ z < c0 * 8 + 8 then lN 0 else fw z := w1r
  clear w1r
  refine lv_iconst (v := nI 1) hx hb dX3_addDual_4 (by decide) ?_
  refine lv_aload_n hx hb dX3_addDual_5 rfl (lv_at hl 0 rfl) ?_
  refine va_get (D := D) (ci := 3) (v := .int (nI n)) (C := RX3) (T := TX3) (N := 5) hx hb hts hiX3 hown hK hP 0 rfl rfl 2 (by decide) hf23 (fun _ h9 => h9) rfl dX3_addDual_6 ?_
  refine lv_ishl hx hb dX3_addDual_9 ?_
  refine cn_i (y := nI (2 ^ n)) (m_shl1 (by omega)) ?_
  refine lv_iconst (v := nI 1) hx hb dX3_addDual_10 (by decide) ?_
  refine lv_isub hx hb dX3_addDual_11 ?_
  refine cn_i (y := nI ((2 ^ n) - 1)) (pk_sub (a := (2 ^ n)) (b := 1) (by omega)) ?_
  refine lv_istore_n (lv' := [(2, .int (nI ((2 ^ n) - 1))), (0, .ref h0), (1, .int (nI a))]) hx hb dX3_addDual_12 rfl hl (by decide) rfl (fun ls hl => ?_)
  refine lv_iconst (v := nI 0) hx hb dX3_addDual_13 (by decide) ?_
  refine lv_istore_n (lv' := [(3, .int (nI 0)), (2, .int (nI ((2 ^ n) - 1))), (0, .ref h0), (1, .int (nI a))]) hx hb dX3_addDual_14 rfl hl (by decide) rfl (fun ls hl => ?_)
  have loop2 : ∀ (fu : Nat) (k : Nat) (uw : Nat → Int64) (H : Heap) (locs : List Loc) (ls : Array Slot), (k ≤ 2 ^ n ∧ 2 ^ n < k + fu) → (RW fw uw c0 (fun t => t < k ∧ (¬ isG fw a ((2 ^ n - 1) ^^^ t)))) → va_P D vwCl [(h0, .inr (3, [.ref b1, .ref b2, .int (nI n), .int (nI c0), .int ry])), (b1, .inl (cJ, 320, .inr (.inl uw)))] H → va_D (aA as) [(h0, .inr (3, [.ref b1, .ref b2, .int (nI n), .int (nI c0), .int ry])), (b1, .inl (cJ, 320, .inr (.inl uw)))] → va_S (aA as) s.heap H locs → lv_has ls 4 [(3, .int (nI k)), (2, .int (nI ((2 ^ n) - 1))), (0, .ref h0), (1, .int (nI a))] → W p l e (headSpec wsX3_addDual rm_c_X3_addDual_b).room s m ([.ref h0, .int (nI a)] : List Value).toArray below meth c H locs 0 0 Q (F0 m 15 ls []) := by
    intro fu
    induction fu with
    | zero => intro k uw H locs ls hk hR; exact absurd hk (by omega)
    | succ fu ih2 =>
      intro k uw H locs ls hk hR hP hD hS hl
      refine lv_iload_n hx hb dX3_addDual_15 rfl (lv_at hl 0 rfl) ?_
      refine lv_iload_n hx hb dX3_addDual_16 rfl (lv_at hl 1 rfl) ?_
      refine lv_icmp_gt (tgt := 42) hx hb dX3_addDual_17 (by decide) (fun c3 => ?_) (fun c3 => ?_)
      · skip
        have d3 := c3
        rw [nI_ltI (by omega) (by omega)] at d3
        refine lv_aload_n hx hb dX3_addDual_42 rfl (lv_at hl 2 rfl) ?_
        refine lv_dup hx hb dX3_addDual_43 rfl ?_
        refine va_get (D := D) (ci := 3) (v := .int (nI c0)) (C := RX3) (T := TX3) (N := 5) hx hb hts hiX3 hown hK hP 0 rfl rfl 3 (by decide) hf27 (fun _ h9 => h9) rfl dX3_addDual_44 ?_
        refine lv_dup_x1 hx hb dX3_addDual_47 rfl rfl ?_
        refine lv_iconst (v := nI 1) hx hb dX3_addDual_48 (by decide) ?_
        refine lv_iadd hx hb dX3_addDual_49 ?_
        refine cn_i (y := nI (c0 + 1)) (nI_add c0 1) ?_
        refine va_put (D := D) (ci := 3) (v := .int (nI (c0 + 1))) (ty := tyX3 3) (C := RX3) (T := TX3) (N := 5) hx hb hts hiX3 tyX3 tyX3_ok nmX3 hown hK hP hD hS 0 rfl rfl 3 (by decide) hf27 (fun _ h9 => h9) rfl (by decide +kernel) rfl rfl (Nat.le_of_ble_eq_true rfl) dX3_addDual_50 (fun H locs hP hD hS => ?_)
        have hP : va_P D vwCl [(h0, .inr (3, [.ref b1, .ref b2, .int (nI n), .int (nI (c0 + 1)), .int ry])), (b1, .inl (cJ, 320, .inr (.inl uw)))] H := hP
        have hD : va_D (aA as) [(h0, .inr (3, [.ref b1, .ref b2, .int (nI n), .int (nI (c0 + 1)), .int ry])), (b1, .inl (cJ, 320, .inr (.inl uw)))] := hD
        rw [← hQ]
        exact W.iret (v := nI c0) hx hb hr (fun tS htS hWS => ⟨⟨(nI c0), (uw), rfl, ⟨rfl, hR.cong (fun t _ => ⟨fun g => ⟨by omega, g.2⟩, fun g => ⟨by omega, g.2⟩⟩)⟩, m_at htS hP⟩, by rw [← has]; exact hS.F htS⟩) (by rw [← has]; exact hS.2.2) dX3_addDual_53
      · skip
        have d3 := c3
        rw [nI_ltI (by omega) (by omega)] at d3
        refine lv_aload_n hx hb dX3_addDual_20 rfl (lv_at hl 2 rfl) ?_
        refine lv_iload_n hx hb dX3_addDual_21 rfl (lv_at hl 3 rfl) ?_
        refine lv_iload_n hx hb dX3_addDual_22 rfl (lv_at hl 1 rfl) ?_
        refine lv_iload_n hx hb dX3_addDual_23 rfl (lv_at hl 0 rfl) ?_
        refine lv_ixor hx hb dX3_addDual_24 ?_
        refine cn_i (y := nI (((2 ^ n) - 1) ^^^ k)) (mb_xor ((2 ^ n) - 1) k) ?_
        refine pu_i (va_runV (As := [.int (nI a), .int (nI (((2 ^ n) - 1) ^^^ k))]) (rest := []) ⟨hx, hb, hml, hown, hts⟩ (c_X3_isGood l D cI cJ cZ h0 b1 b2 a (((2 ^ n) - 1) ^^^ k) (nI n) (nI c0) ry uw (by first | assumption | omega) (by exact m_x512 (by omega) (by omega))) (cwV 2 hts gX3_addDual_X3_isGood rfl rfl rfl (by decide +kernel) ⟨Nat.le_of_ble_eq_true rfl, Nat.le_of_ble_eq_true rfl⟩) ⟨pc_blind, va_recv hK hP (ci := 3) (q0 := 0) rfl rfl, fun U hU hW => ⟨rfl, by rw [hU]; exact hP.sub (ws' := [(h0, .inr (3, [.ref b1, .ref b2, .int (nI n), .int (nI c0), .int ry])), (b1, .inl (cJ, 320, .inr (.inl uw)))]) [0, 1] rfl, hKN.warm hW⟩⟩ rfl rfl hl.1 rfl (lv_room (Nat.le_of_ble_eq_true rfl)) dX3_addDual_25 ⟨Nat.le_of_ble_eq_true rfl, Nat.le_of_ble_eq_true rfl⟩) hS hP (fun r4 H locs w4r hP hS => ?_)
        have w4 : B01 r4 (isG uw a (((2 ^ n) - 1) ^^^ k)) := w4r
        clear w4r
        rcases w4 with ⟨rfl, w4⟩ | ⟨rfl, w4⟩
        · skip
          have hg9 := (hR.2 a _ (by omega) (m_x512 (by omega) (by omega))).mp w4
          refine lv_if_ne (tgt := 36) hx hb dX3_addDual_28 (by decide) (fun c5 => ?_) (fun c5 => ?_)
          · skip
            refine lv_iinc (v := nI (k + 1)) (lv' := [(3, .int (nI (k + 1))), (2, .int (nI ((2 ^ n) - 1))), (0, .ref h0), (1, .int (nI a))]) hx hb dX3_addDual_36 hl (k := 0) rfl (nI_1 k) (by decide) rfl (fun ls hl => ?_)
            refine lv_goto (tgt := 15) hx hb dX3_addDual_39 (by decide) ?_
            exact ih2 (k + 1) uw _ _ _ (by omega) (by first | exact hR.yes (by omega) hg9 | exact hR.no (fun g => g hg9)) hP hD hS (lv_sub hl [0, 1, 2, 3] rfl)
          · exact absurd c5 (by first | decide | exact nz_lt (by omega) | exact fun h => h (nz_ge (by omega)))
        · skip
          have hg9 := fun g => w4 ((hR.2 a _ (by omega) (m_x512 (by omega) (by omega))).mpr g)
          refine lv_if_ne (tgt := 36) hx hb dX3_addDual_28 (by decide) (fun c6 => ?_) (fun c6 => ?_)
          · exact absurd c6 (by first | decide | exact nz_lt (by omega) | exact fun h => h (nz_ge (by omega)))
          · skip
            refine lv_aload_n hx hb dX3_addDual_31 rfl (lv_at hl 2 rfl) ?_
            refine lv_iload_n hx hb dX3_addDual_32 rfl (lv_at hl 0 rfl) ?_
            refine mu_v (n := 2) (wc := [(h0, .inr (3, [.ref b1, .ref b2, .int (nI n), .int (nI c0), .int ry])), (b1, .inl (cJ, 320, .inr (.inl uw)))]) (va_runV (As := [.int (nI k)]) (rest := []) ⟨hx, hb, hml, hown, hts⟩ (c_X3_mark l D cI cJ cZ h0 b1 b2 c0 k (nI n) ry uw (by first | assumption | omega) (by first | assumption | omega)) (cwV 1 hts gX3_addDual_X3_mark rfl rfl rfl (by decide +kernel) ⟨Nat.le_of_ble_eq_true rfl, Nat.le_of_ble_eq_true rfl⟩) ⟨pm_blind, va_recv hK hP (ci := 3) (q0 := 0) rfl rfl, fun U hU hW => ⟨rfl, by rw [hU]; exact hP.sub (ws' := [(h0, .inr (3, [.ref b1, .ref b2, .int (nI n), .int (nI c0), .int ry])), (b1, .inl (cJ, 320, .inr (.inl uw)))]) [0, 1] rfl, hKN.warm hW, (hD.sub (ws' := [(h0, .inr (3, [.ref b1, .ref b2, .int (nI n), .int (nI c0), .int ry])), (b1, .inl (cJ, 320, .inr (.inl uw)))]) [0, 1] (by decide) rfl).weaken (fun _ _ _ _ => trivial)⟩⟩ rfl rfl hl.1 rfl (lv_room (Nat.le_of_ble_eq_true rfl)) dX3_addDual_33 ⟨Nat.le_of_ble_eq_true rfl, Nat.le_of_ble_eq_true rfl⟩) hS hP hD (fun (u : Unit) => [(h0, .inr (3, [.ref b1, .ref b2, .int (nI n), .int (nI c0), .int ry])), (b1, .inl (cJ, 320, .inr (.inl (mkG uw c0 k))))]) [0, 1] [] rfl rfl (fun _ => rfl) (fun _ => rfl) (fun _ => rfl) (fun _ => rfl) (by decide) (by decide) (fun u7 H locs w7r hP hD hS => ?_)
            have hP : va_P D vwCl [(h0, .inr (3, [.ref b1, .ref b2, .int (nI n), .int (nI c0), .int ry])), (b1, .inl (cJ, 320, .inr (.inl (mkG uw c0 k))))] H := hP
            have hD : va_D (aA as) [(h0, .inr (3, [.ref b1, .ref b2, .int (nI n), .int (nI c0), .int ry])), (b1, .inl (cJ, 320, .inr (.inl (mkG uw c0 k))))] := hD
            have w7 : True := w7r
            clear w7r
            refine lv_iinc (v := nI (k + 1)) (lv' := [(3, .int (nI (k + 1))), (2, .int (nI ((2 ^ n) - 1))), (0, .ref h0), (1, .int (nI a))]) hx hb dX3_addDual_36 hl (k := 0) rfl (nI_1 k) (by decide) rfl (fun ls hl => ?_)
            refine lv_goto (tgt := 15) hx hb dX3_addDual_39 (by decide) ?_
            exact ih2 (k + 1) (mkG uw c0 k) _ _ _ (by omega) (by first | exact hR.yes (by omega) hg9 | exact hR.no (fun g => g hg9)) hP hD hS (lv_sub hl [0, 1, 2, 3] rfl)
  exact loop2 (2 ^ n + 1) 0 u1_uw _ _ _ (by omega) (RW.wipe (fun t => ¬ isG fw a ((2 ^ n - 1) ^^^ t)) w1) hP hD hS (lv_sub hl [0, 1, 2, 3] rfl)
def rm_c_X3_shareWorths_b : Room := { frames := 0, cells := 0, slots := 0, locals := 0 }
set_option maxHeartbeats 400000 in
set_option maxRecDepth 100000 in
theorem c_X3_shareWorths_b (l : Launch) (D : va_G) (cI cJ cZ : ClassId) (h0 : Nat) (b1 : Nat) (b2 : Nat) (n : Nat) (w : Nat) (rc : Int32) (ry : Int32) (se : Int32) (wo : Int64) (fo : Nat → Int32) (hn : n ≤ 9) (hw3 : w < 4) : Met l yX3_shareWorths wsX3_shareWorths rm_c_X3_shareWorths_b (pm_ D cI cJ cZ [.ref h0, .int se, .long wo, .int (nI w)] [(h0, .inr (3, [.ref b1, .ref b2, .int (nI n), .int rc, .int ry])), (b2, .inl (cI, 9, .inl fo))]) (va_Qv (fun (u : (Nat → Int32)) => ∀ z, z < n → u z = wZ wo w se z) (fun (u : (Nat → Int32)) tS => va_P D vwCl [(h0, .inr (3, [.ref b1, .ref b2, .int (nI n), .int rc, .int ry])), (b2, .inl (cI, 9, .inl u))] tS.heap) (aA [h0, b2])) 0 0 (aA [h0, b2]) := by
  refine Met.ofW (cc := cX3_shareWorths) (maxL := 10) (ret := none) (by decide) rfl ?_
  intro p e s m args below meth c s₁ B hml hv
  obtain ⟨rfl, hP, hKN, hD0⟩ := hv
  have hK := hKN.1
  have hx := B.exec
  have hb := B.bytes
  have hr := B.returns
  have hts := atoms_spec (ws := wsX3_shareWorths) B.pre
  have hown : s.vm.findClass RX3 = some m.cls := findClass_of_methodNamed B.named
  have hlocks := B.notSynchronized
  have hiX3 : ∀ w ∈ wsX30, w ∈ wsX3_shareWorths := by decide +kernel
  have hf15 := hts (.fieldLink RX3 15 "LookBench$Rules" "worth" "[I") (by decide +kernel)
  have hf23 := hts (.fieldLink RX3 23 "LookBench$Rules" "parts" "I") (by decide +kernel)
  obtain ⟨as, has⟩ : ∃ z : List Nat, z = [h0, b2] := ⟨_, rfl⟩
  have hD := hD0.addr (as := as) (by rw [has]; rfl)
  have hS : va_S (aA as) s.heap s.heap [] := va_S.rf
  have hl := lv_entry ([.ref h0, .int se, .long wo, .int (nI w)]) (n := 10) (Nat.le_of_ble_eq_true rfl)
  rw [lg_entry_eq]
  generalize (lg_sl ([.ref h0, .int se, .long wo, .int (nI w)]) ++ List.replicate (10 - (lg_sl ([.ref h0, .int se, .long wo, .int (nI w)])).length) Slot.unset).toArray = ls at hl ⊢
  have hl : lv_has ls 10 [(0, .ref h0), (1, .int se), (2, .long wo), (4, .int (nI w))] := hl
  generalize hQ : MQ below _ _ s _ _ _ = Q
  obtain ⟨H, hH⟩ : ∃ z, z = s.heap := ⟨_, rfl⟩
  have hP : va_P D vwCl [(h0, .inr (3, [.ref b1, .ref b2, .int (nI n), .int rc, .int ry])), (b2, .inl (cI, 9, .inl fo))] H := by rw [hH]; exact hP
  have hS : va_S (aA as) s.heap H [] := by rw [hH]; exact hS
  refine m_heap hH ?_
  clear hH
  refine lv_lload_n hx hb dX3_shareWorths_0 rfl (lv_at hl 2 rfl) ?_
  refine lv_lstore (lv' := [(5, .long wo), (0, .ref h0), (1, .int se), (2, .long wo), (4, .int (nI w))]) hx hb dX3_shareWorths_1 hl (by decide) rfl (fun ls hl => ?_)
  refine lv_lconst (v := lN 1) hx hb dX3_shareWorths_3 (by decide) ?_
  refine lv_iload hx hb dX3_shareWorths_4 (lv_at hl 4 rfl) ?_
  refine lv_lshl hx hb dX3_shareWorths_6 rfl ?_
  refine lv_lconst (v := lN 1) hx hb dX3_shareWorths_7 (by decide) ?_
  refine lv_lsub hx hb dX3_shareWorths_8 ?_
  refine lv_lstore (lv' := [(7, .long (((lN 1) <<< ((nI w).toInt64 &&& 63)) - (lN 1))), (5, .long wo), (0, .ref h0), (1, .int se), (2, .long wo), (4, .int (nI w))]) hx hb dX3_shareWorths_9 hl (by decide) rfl (fun ls hl => ?_)
  refine lv_iconst (v := nI 0) hx hb dX3_shareWorths_11 (by decide) ?_
  refine lv_istore (lv' := [(9, .int (nI 0)), (7, .long (((lN 1) <<< ((nI w).toInt64 &&& 63)) - (lN 1))), (5, .long wo), (0, .ref h0), (1, .int se), (2, .long wo), (4, .int (nI w))]) hx hb dX3_shareWorths_12 hl (by decide) rfl (fun ls hl => ?_)
  have loop1 : ∀ (fu : Nat) (k : Nat) (uo : Nat → Int32) (re : Int64) (H : Heap) (locs : List Loc) (ls : Array Slot), (k ≤ n ∧ n < k + fu) → (re.toBitVec = wo.toBitVec >>> (w * cnB se k)) → (∀ z, z < k → uo z = wZ wo w se z) → va_P D vwCl [(h0, .inr (3, [.ref b1, .ref b2, .int (nI n), .int rc, .int ry])), (b2, .inl (cI, 9, .inl uo))] H → va_D (aA as) [(h0, .inr (3, [.ref b1, .ref b2, .int (nI n), .int rc, .int ry])), (b2, .inl (cI, 9, .inl uo))] → va_S (aA as) s.heap H locs → lv_has ls 10 [(9, .int (nI k)), (7, .long (((lN 1) <<< ((nI w).toInt64 &&& 63)) - (lN 1))), (5, .long re), (0, .ref h0), (1, .int se), (2, .long wo), (4, .int (nI w))] → W p l e (headSpec wsX3_shareWorths rm_c_X3_shareWorths_b).room s m ([.ref h0, .int se, .long wo, .int (nI w)] : List Value).toArray below meth c H locs 0 0 Q (F0 m 14 ls []) := by
    intro fu
    induction fu with
    | zero => intro k uo re H locs ls hk hre hi; exact absurd hk (by omega)
    | succ fu ih1 =>
      intro k uo re H locs ls hk hre hi hP hD hS hl
      have hs1 := sb_lt se k
      have hcn := cnB_le se k
      have hwc : w * cnB se k ≤ 3 * 9 := Nat.mul_le_mul (by omega) (by omega)
      refine lv_iload hx hb dX3_shareWorths_14 (lv_at hl 0 rfl) ?_
      refine lv_aload_n hx hb dX3_shareWorths_16 rfl (lv_at hl 3 rfl) ?_
      refine va_get (D := D) (ci := 3) (v := .int (nI n)) (C := RX3) (T := TX3) (N := 5) hx hb hts hiX3 hown hK hP 0 rfl rfl 2 (by decide) hf23 (fun _ h9 => h9) rfl dX3_shareWorths_17 ?_
      refine lv_icmp_ge (tgt := 76) hx hb dX3_shareWorths_20 (by decide) (fun c2 => ?_) (fun c2 => ?_)
      · skip
        have d2 := c2
        rw [nI_leI (by omega) (by omega)] at d2
        rw [← hQ]
        exact W.vret hx hb hr (fun tS htS hWS => ⟨⟨(uo), rfl, fun z hz => hi z (by omega), m_at htS hP⟩, by rw [← has]; exact hS.F htS⟩) (by rw [← has]; exact hS.2.2) dX3_shareWorths_76
      · skip
        have d2 := c2
        rw [nI_leI (by omega) (by omega)] at d2
        refine lv_aload_n hx hb dX3_shareWorths_23 rfl (lv_at hl 3 rfl) ?_
        refine va_get (D := D) (ci := 3) (v := .ref b2) (C := RX3) (T := TX3) (N := 5) hx hb hts hiX3 hown hK hP 0 rfl rfl 1 (by decide) hf15 (fun _ h9 => h9) rfl dX3_shareWorths_24 ?_
        refine lv_iload hx hb dX3_shareWorths_27 (lv_at hl 0 rfl) ?_
        refine lv_iconst (v := nI 0) hx hb dX3_shareWorths_29 (by decide) ?_
        refine va_iast hx hb hK hP hD hS 1 0 rfl rfl (i := nI k) (vp_in_nI (by omega) (by omega)) dX3_shareWorths_30 (fun H locs hP hD hS => ?_)
        have hP : va_P D vwCl [(h0, .inr (3, [.ref b1, .ref b2, .int (nI n), .int rc, .int ry])), (b2, .inl (cI, 9, .inl (upd uo (nI k).toNatClampNeg (nI 0))))] H := hP
        have hD : va_D (aA as) [(h0, .inr (3, [.ref b1, .ref b2, .int (nI n), .int rc, .int ry])), (b2, .inl (cI, 9, .inl (upd uo (nI k).toNatClampNeg (nI 0))))] := hD
        rw [nI_clamp (n := k) (by omega)] at hP hD
        refine lv_iload_n hx hb dX3_shareWorths_31 rfl (lv_at hl 4 rfl) ?_
        refine lv_iload hx hb dX3_shareWorths_32 (lv_at hl 0 rfl) ?_
        refine lv_ishr hx hb dX3_shareWorths_34 ?_
        refine lv_iconst (v := nI 1) hx hb dX3_shareWorths_35 (by decide) ?_
        refine lv_iand hx hb dX3_shareWorths_36 ?_
        refine cn_i (y := nI (sb se k)) (sb_ok se k) ?_
        refine lv_iconst (v := nI 1) hx hb dX3_shareWorths_37 (by decide) ?_
        refine lv_icmp_ne (tgt := 70) hx hb dX3_shareWorths_38 (by decide) (fun c3 => ?_) (fun c3 => ?_)
        · skip
          have d3 := c3
          rw [nI_eq (by omega) (by omega)] at d3
          refine lv_iinc (v := nI (k + 1)) (lv' := [(9, .int (nI (k + 1))), (7, .long (((lN 1) <<< ((nI w).toInt64 &&& 63)) - (lN 1))), (5, .long re), (0, .ref h0), (1, .int se), (2, .long wo), (4, .int (nI w))]) hx hb dX3_shareWorths_70 hl (k := 0) rfl (nI_1 k) (by decide) rfl (fun ls hl => ?_)
          refine lv_goto (tgt := 14) hx hb dX3_shareWorths_73 (by decide) ?_
          exact ih1 (k + 1) (upd uo k (nI 0)) re _ _ _ (by omega) (by simp only [cnB]; first | (rw [if_pos (by omega), Nat.mul_add, Nat.mul_one, BitVec.shiftRight_add, ← hre]; exact shu w (by omega)) | (rw [if_neg (by omega), Nat.add_zero]; exact hre)) (fun z hz => by by_cases e9 : z = k; exact (by subst e9; simp only [upd, if_true, wZ]; first | (rw [if_pos (by omega), if_pos (by omega)]) | (rw [if_pos (by omega), if_neg (by omega)]; exact wV_eq hw3 (by omega) hre) | (rw [if_neg (by omega)])); exact (by simp only [upd, e9, if_false]; exact hi z (by omega))) hP hD hS (lv_sub hl [0, 1, 2, 3, 4, 5, 6] rfl)
        · skip
          have d3 := c3
          rw [nI_eq (by omega) (by omega)] at d3
          refine lv_aload_n hx hb dX3_shareWorths_41 rfl (lv_at hl 3 rfl) ?_
          refine va_get (D := D) (ci := 3) (v := .ref b2) (C := RX3) (T := TX3) (N := 5) hx hb hts hiX3 hown hK hP 0 rfl rfl 1 (by decide) hf15 (fun _ h9 => h9) rfl dX3_shareWorths_42 ?_
          refine lv_iload hx hb dX3_shareWorths_45 (lv_at hl 0 rfl) ?_
          refine lv_iload hx hb dX3_shareWorths_47 (lv_at hl 6 rfl) ?_
          refine lv_if_ne (tgt := 56) hx hb dX3_shareWorths_49 (by decide) (fun c4 => ?_) (fun c4 => ?_)
          · skip
            have d4 := c4
            rw [nz_eq (by omega)] at d4
            refine lv_lload hx hb dX3_shareWorths_56 (lv_at hl 2 rfl) ?_
            refine lv_lload hx hb dX3_shareWorths_58 (lv_at hl 1 rfl) ?_
            refine lv_land hx hb dX3_shareWorths_60 ?_
            refine lv_l2i hx hb dX3_shareWorths_61 rfl ?_
            refine va_iast hx hb hK hP hD hS 1 0 rfl rfl (i := nI k) (vp_in_nI (by omega) (by omega)) dX3_shareWorths_62 (fun H locs hP hD hS => ?_)
            have hP : va_P D vwCl [(h0, .inr (3, [.ref b1, .ref b2, .int (nI n), .int rc, .int ry])), (b2, .inl (cI, 9, .inl (upd (upd uo k (nI 0)) (nI k).toNatClampNeg ((re &&& (((lN 1) <<< ((nI w).toInt64 &&& 63)) - (lN 1))).toInt32))))] H := hP
            have hD : va_D (aA as) [(h0, .inr (3, [.ref b1, .ref b2, .int (nI n), .int rc, .int ry])), (b2, .inl (cI, 9, .inl (upd (upd uo k (nI 0)) (nI k).toNatClampNeg ((re &&& (((lN 1) <<< ((nI w).toInt64 &&& 63)) - (lN 1))).toInt32))))] := hD
            rw [nI_clamp (n := k) (by omega)] at hP hD
            refine lv_lload hx hb dX3_shareWorths_63 (lv_at hl 2 rfl) ?_
            refine lv_iload hx hb dX3_shareWorths_65 (lv_at hl 6 rfl) ?_
            refine lv_lushr hx hb dX3_shareWorths_67 rfl ?_
            refine lv_lstore (lv' := [(5, .long ((re.toUInt64 >>> ((nI w).toInt64.toUInt64 &&& Int64.toUInt64 63)).toInt64)), (9, .int (nI k)), (7, .long (((lN 1) <<< ((nI w).toInt64 &&& 63)) - (lN 1))), (0, .ref h0), (1, .int se), (2, .long wo), (4, .int (nI w))]) hx hb dX3_shareWorths_68 hl (by decide) rfl (fun ls hl => ?_)
            refine lv_iinc (v := nI (k + 1)) (lv' := [(9, .int (nI (k + 1))), (5, .long ((re.toUInt64 >>> ((nI w).toInt64.toUInt64 &&& Int64.toUInt64 63)).toInt64)), (7, .long (((lN 1) <<< ((nI w).toInt64 &&& 63)) - (lN 1))), (0, .ref h0), (1, .int se), (2, .long wo), (4, .int (nI w))]) hx hb dX3_shareWorths_70 hl (k := 1) rfl (nI_1 k) (by decide) rfl (fun ls hl => ?_)
            refine lv_goto (tgt := 14) hx hb dX3_shareWorths_73 (by decide) ?_
            exact ih1 (k + 1) (upd (upd uo k (nI 0)) k ((re &&& (((lN 1) <<< ((nI w).toInt64 &&& 63)) - (lN 1))).toInt32)) ((re.toUInt64 >>> ((nI w).toInt64.toUInt64 &&& Int64.toUInt64 63)).toInt64) _ _ _ (by omega) (by simp only [cnB]; first | (rw [if_pos (by omega), Nat.mul_add, Nat.mul_one, BitVec.shiftRight_add, ← hre]; exact shu w (by omega)) | (rw [if_neg (by omega), Nat.add_zero]; exact hre)) (fun z hz => by by_cases e9 : z = k; exact (by subst e9; simp only [upd, if_true, wZ]; first | (rw [if_pos (by omega), if_pos (by omega)]) | (rw [if_pos (by omega), if_neg (by omega)]; exact wV_eq hw3 (by omega) hre) | (rw [if_neg (by omega)])); exact (by simp only [upd, e9, if_false]; exact hi z (by omega))) hP hD hS (lv_sub hl [0, 2, 1, 3, 4, 5, 6] rfl)
          · skip
            have d4 := c4
            rw [nz_eq (by omega)] at d4
            refine lv_iconst (v := nI 1) hx hb dX3_shareWorths_52 (by decide) ?_
            refine lv_goto (tgt := 62) hx hb dX3_shareWorths_53 (by decide) ?_
            refine va_iast hx hb hK hP hD hS 1 0 rfl rfl (i := nI k) (vp_in_nI (by omega) (by omega)) dX3_shareWorths_62 (fun H locs hP hD hS => ?_)
            have hP : va_P D vwCl [(h0, .inr (3, [.ref b1, .ref b2, .int (nI n), .int rc, .int ry])), (b2, .inl (cI, 9, .inl (upd (upd uo k (nI 0)) (nI k).toNatClampNeg (nI 1))))] H := hP
            have hD : va_D (aA as) [(h0, .inr (3, [.ref b1, .ref b2, .int (nI n), .int rc, .int ry])), (b2, .inl (cI, 9, .inl (upd (upd uo k (nI 0)) (nI k).toNatClampNeg (nI 1))))] := hD
            rw [nI_clamp (n := k) (by omega)] at hP hD
            refine lv_lload hx hb dX3_shareWorths_63 (lv_at hl 2 rfl) ?_
            refine lv_iload hx hb dX3_shareWorths_65 (lv_at hl 6 rfl) ?_
            refine lv_lushr hx hb dX3_shareWorths_67 rfl ?_
            refine lv_lstore (lv' := [(5, .long ((re.toUInt64 >>> ((nI w).toInt64.toUInt64 &&& Int64.toUInt64 63)).toInt64)), (9, .int (nI k)), (7, .long (((lN 1) <<< ((nI w).toInt64 &&& 63)) - (lN 1))), (0, .ref h0), (1, .int se), (2, .long wo), (4, .int (nI w))]) hx hb dX3_shareWorths_68 hl (by decide) rfl (fun ls hl => ?_)
            refine lv_iinc (v := nI (k + 1)) (lv' := [(9, .int (nI (k + 1))), (5, .long ((re.toUInt64 >>> ((nI w).toInt64.toUInt64 &&& Int64.toUInt64 63)).toInt64)), (7, .long (((lN 1) <<< ((nI w).toInt64 &&& 63)) - (lN 1))), (0, .ref h0), (1, .int se), (2, .long wo), (4, .int (nI w))]) hx hb dX3_shareWorths_70 hl (k := 1) rfl (nI_1 k) (by decide) rfl (fun ls hl => ?_)
            refine lv_goto (tgt := 14) hx hb dX3_shareWorths_73 (by decide) ?_
            exact ih1 (k + 1) (upd (upd uo k (nI 0)) k (nI 1)) ((re.toUInt64 >>> ((nI w).toInt64.toUInt64 &&& Int64.toUInt64 63)).toInt64) _ _ _ (by omega) (by simp only [cnB]; first | (rw [if_pos (by omega), Nat.mul_add, Nat.mul_one, BitVec.shiftRight_add, ← hre]; exact shu w (by omega)) | (rw [if_neg (by omega), Nat.add_zero]; exact hre)) (fun z hz => by by_cases e9 : z = k; exact (by subst e9; simp only [upd, if_true, wZ]; first | (rw [if_pos (by omega), if_pos (by omega)]) | (rw [if_pos (by omega), if_neg (by omega)]; exact wV_eq hw3 (by omega) hre) | (rw [if_neg (by omega)])); exact (by simp only [upd, e9, if_false]; exact hi z (by omega))) hP hD hS (lv_sub hl [0, 2, 1, 3, 4, 5, 6] rfl)
  exact loop1 (n + 1) 0 fo wo _ _ _ (by omega) (by show _ = wo.toBitVec >>> (w * 0); rw [Nat.mul_zero]; rfl) (fun z hz => absurd hz (by omega)) hP hD hS (lv_sub hl [0, 1, 2, 3, 4, 5, 6] rfl)
def rm_c_X3_addSome_b : Room := { frames := 1, cells := 0, slots := 0, locals := 29 }
set_option maxHeartbeats 400000 in
set_option maxRecDepth 100000 in
theorem c_X3_addSome_b (l : Launch) (D : va_G) (cI cJ cZ : ClassId) (h0 : Nat) (b1 : Nat) (b2 : Nat) (n : Nat) (c0 : Nat) (w : Nat) (ry : Int32) (se : Int32) (wo : Int64) (kk : Int32) (fw : Nat → Int64) (fo : Nat → Int32) (hn : n ≤ 9) (hc : c0 < 40) (hw3 : w < 4) : Met l yX3_addSome wsX3_addSome rm_c_X3_addSome_b (pm_ D cI cJ cZ [.ref h0, .int se, .long wo, .int (nI w), .int kk] [(h0, .inr (3, [.ref b1, .ref b2, .int (nI n), .int (nI c0), .int ry])), (b1, .inl (cJ, 320, .inr (.inl fw))), (b2, .inl (cI, 9, .inl fo))]) (va_Qi (fun (r : Int32) (u : (Nat → Int64) × (Nat → Int32)) => r = nI c0 ∧ RW fw u.1 c0 (fun t => t < 2 ^ n ∧ (¬ pf (wZ wo w se) (nI t) n < kk))) (fun (u : (Nat → Int64) × (Nat → Int32)) tS => va_P D vwCl [(h0, .inr (3, [.ref b1, .ref b2, .int (nI n), .int (nI (c0 + 1)), .int ry])), (b1, .inl (cJ, 320, .inr (.inl u.1))), (b2, .inl (cI, 9, .inl u.2))] tS.heap) (aA [h0, b1, b2])) 0 0 (aA [h0, b1, b2]) := by
  refine Met.ofW (cc := cX3_addSome) (maxL := 7) (ret := (some .int)) (by decide) rfl ?_
  intro p e s m args below meth c s₁ B hml hv
  obtain ⟨rfl, hP, hKN, hD0⟩ := hv
  have hK := hKN.1
  have hx := B.exec
  have hb := B.bytes
  have hr := B.returns
  have hts := atoms_spec (ws := wsX3_addSome) B.pre
  have hown : s.vm.findClass RX3 = some m.cls := findClass_of_methodNamed B.named
  have hlocks := B.notSynchronized
  have hiX3 : ∀ w ∈ wsX30, w ∈ wsX3_addSome := by decide +kernel
  have hf23 := hts (.fieldLink RX3 23 "LookBench$Rules" "parts" "I") (by decide +kernel)
  have hf27 := hts (.fieldLink RX3 27 "LookBench$Rules" "count" "I") (by decide +kernel)
  obtain ⟨as, has⟩ : ∃ z : List Nat, z = [h0, b1, b2] := ⟨_, rfl⟩
  have hD := hD0.addr (as := as) (by rw [has]; rfl)
  have hS : va_S (aA as) s.heap s.heap [] := va_S.rf
  have hl := lv_entry ([.ref h0, .int se, .long wo, .int (nI w), .int kk]) (n := 7) (Nat.le_of_ble_eq_true rfl)
  rw [lg_entry_eq]
  generalize (lg_sl ([.ref h0, .int se, .long wo, .int (nI w), .int kk]) ++ List.replicate (7 - (lg_sl ([.ref h0, .int se, .long wo, .int (nI w), .int kk])).length) Slot.unset).toArray = ls at hl ⊢
  have hl : lv_has ls 7 [(0, .ref h0), (1, .int se), (2, .long wo), (4, .int (nI w)), (5, .int kk)] := hl
  generalize hQ : MQ below _ _ s _ _ _ = Q
  obtain ⟨H, hH⟩ : ∃ z, z = s.heap := ⟨_, rfl⟩
  have hP : va_P D vwCl [(h0, .inr (3, [.ref b1, .ref b2, .int (nI n), .int (nI c0), .int ry])), (b1, .inl (cJ, 320, .inr (.inl fw))), (b2, .inl (cI, 9, .inl fo))] H := by rw [hH]; exact hP
  have hS : va_S (aA as) s.heap H [] := by rw [hH]; exact hS
  refine m_heap hH ?_
  clear hH
  have h2n := m_pow hn
  have h2p := m_powp n
  refine lv_aload_n hx hb dX3_addSome_0 rfl (lv_at hl 0 rfl) ?_
  refine lv_iload_n hx hb dX3_addSome_1 rfl (lv_at hl 1 rfl) ?_
  refine lv_lload_n hx hb dX3_addSome_2 rfl (lv_at hl 2 rfl) ?_
  refine lv_iload hx hb dX3_addSome_3 (lv_at hl 3 rfl) ?_
  refine mu_v (n := 3) (wc := [(h0, .inr (3, [.ref b1, .ref b2, .int (nI n), .int (nI c0), .int ry])), (b2, .inl (cI, 9, .inl fo))]) (va_runV (As := [.int se, .long wo, .int (nI w)]) (rest := []) ⟨hx, hb, hml, hown, hts⟩ (c_X3_shareWorths_b l D cI cJ cZ h0 b1 b2 n w (nI c0) ry se wo fo (by first | assumption | omega) (by first | assumption | omega)) (cwV 3 hts gX3_addSome_X3_shareWorths rfl rfl rfl (by decide +kernel) ⟨Nat.le_of_ble_eq_true rfl, Nat.le_of_ble_eq_true rfl⟩) ⟨pm_blind, va_recv hK hP (ci := 3) (q0 := 0) rfl rfl, fun U hU hW => ⟨rfl, by rw [hU]; exact hP.sub (ws' := [(h0, .inr (3, [.ref b1, .ref b2, .int (nI n), .int (nI c0), .int ry])), (b2, .inl (cI, 9, .inl fo))]) [0, 2] rfl, hKN.warm hW, (hD.sub (ws' := [(h0, .inr (3, [.ref b1, .ref b2, .int (nI n), .int (nI c0), .int ry])), (b2, .inl (cI, 9, .inl fo))]) [0, 2] (by decide) rfl).weaken (fun _ _ _ _ => trivial)⟩⟩ rfl rfl hl.1 rfl (lv_room (Nat.le_of_ble_eq_true rfl)) dX3_addSome_5 ⟨Nat.le_of_ble_eq_true rfl, Nat.le_of_ble_eq_true rfl⟩) hS hP hD (fun (u : (Nat → Int32)) => [(h0, .inr (3, [.ref b1, .ref b2, .int (nI n), .int (nI c0), .int ry])), (b1, .inl (cJ, 320, .inr (.inl fw))), (b2, .inl (cI, 9, .inl u))]) [0, 2] [1] rfl rfl (fun _ => rfl) (fun _ => rfl) (fun _ => rfl) (fun _ => rfl) (by decide) (by decide) (fun u1 H locs w1r hP hD hS => ?_)
  obtain ⟨u1_uo, rfl⟩ : ∃ z, z = u1 := ⟨_, rfl⟩
  have hP : va_P D vwCl [(h0, .inr (3, [.ref b1, .ref b2, .int (nI n), .int (nI c0), .int ry])), (b1, .inl (cJ, 320, .inr (.inl fw))), (b2, .inl (cI, 9, .inl u1_uo))] H := hP
  have hD : va_D (aA as) [(h0, .inr (3, [.ref b1, .ref b2, .int (nI n), .int (nI c0), .int ry])), (b1, .inl (cJ, 320, .inr (.inl fw))), (b2, .inl (cI, 9, .inl u1_uo))] := hD
  have w1 : ∀ z, z < n → u1_uo z = wZ wo w se z := w1r
  clear w1r
  have hwz := w1
  refine lv_aload_n hx hb dX3_addSome_8 rfl (lv_at hl 0 rfl) ?_
  refine mu_v (n := 3) (wc := [(h0, .inr (3, [.ref b1, .ref b2, .int (nI n), .int (nI c0), .int ry])), (b1, .inl (cJ, 320, .inr (.inl fw)))]) (va_runV (As := []) (rest := []) ⟨hx, hb, hml, hown, hts⟩ (c_X3_wipe l D cI cJ cZ h0 b1 b2 c0 (nI n) ry fw (by first | assumption | omega)) (cwV 0 hts gX3_addSome_X3_wipe rfl rfl rfl (by decide +kernel) ⟨Nat.le_of_ble_eq_true rfl, Nat.le_of_ble_eq_true rfl⟩) ⟨pm_blind, va_recv hK hP (ci := 3) (q0 := 0) rfl rfl, fun U hU hW => ⟨rfl, by rw [hU]; exact hP.sub (ws' := [(h0, .inr (3, [.ref b1, .ref b2, .int (nI n), .int (nI c0), .int ry])), (b1, .inl (cJ, 320, .inr (.inl fw)))]) [0, 1] rfl, hKN.warm hW, (hD.sub (ws' := [(h0, .inr (3, [.ref b1, .ref b2, .int (nI n), .int (nI c0), .int ry])), (b1, .inl (cJ, 320, .inr (.inl fw)))]) [0, 1] (by decide) rfl).weaken (fun _ _ _ _ => trivial)⟩⟩ rfl rfl hl.1 rfl (lv_room (Nat.le_of_ble_eq_true rfl)) dX3_addSome_9 ⟨Nat.le_of_ble_eq_true rfl, Nat.le_of_ble_eq_true rfl⟩) hS hP hD (fun (u : (Nat → Int64)) => [(h0, .inr (3, [.ref b1, .ref b2, .int (nI n), .int (nI c0), .int ry])), (b1, .inl (cJ, 320, .inr (.inl u))), (b2, .inl (cI, 9, .inl u1_uo))]) [0, 1] [2] rfl rfl (fun _ => rfl) (fun _ => rfl) (fun _ => rfl) (fun _ => rfl) (by decide) (by decide) (fun u2 H locs w2r hP hD hS => ?_)
  obtain ⟨u2_uw, rfl⟩ : ∃ z, z = u2 := ⟨_, rfl⟩
  have hP : va_P D vwCl [(h0, .inr (3, [.ref b1, .ref b2, .int (nI n), .int (nI c0), .int ry])), (b1, .inl (cJ, 320, .inr (.inl u2_uw))), (b2, .inl (cI, 9, .inl u1_uo))] H := hP
  have hD : va_D (aA as) [(h0, .inr (3, [.ref b1, .ref b2, .int (nI n), .int (nI c0), .int ry])), (b1, .inl (cJ, 320, .inr (.inl u2_uw))), (b2, .inl (cI, 9, .inl u1_uo))] := hD
  have w2 : ∀ z, u2_uw z = if c0 * 8 ≤ z ∧ z < c0 * 8 + 8 then lN 0 else fw z := w2r
  clear w2r
  have hwp := w2
  refine lv_iconst (v := nI 0) hx hb dX3_addSome_12 (by decide) ?_
  refine lv_istore (lv' := [(6, .int (nI 0)), (0, .ref h0), (1, .int se), (2, .long wo), (4, .int (nI w)), (5, .int kk)]) hx hb dX3_addSome_13 hl (by decide) rfl (fun ls hl => ?_)
  have loop3 : ∀ (fu : Nat) (k : Nat) (uw : Nat → Int64) (H : Heap) (locs : List Loc) (ls : Array Slot), (k ≤ 2 ^ n ∧ 2 ^ n < k + fu) → (RW fw uw c0 (fun t => t < k ∧ (¬ pf (wZ wo w se) (nI t) n < kk))) → va_P D vwCl [(h0, .inr (3, [.ref b1, .ref b2, .int (nI n), .int (nI c0), .int ry])), (b1, .inl (cJ, 320, .inr (.inl uw))), (b2, .inl (cI, 9, .inl u1_uo))] H → va_D (aA as) [(h0, .inr (3, [.ref b1, .ref b2, .int (nI n), .int (nI c0), .int ry])), (b1, .inl (cJ, 320, .inr (.inl uw))), (b2, .inl (cI, 9, .inl u1_uo))] → va_S (aA as) s.heap H locs → lv_has ls 7 [(6, .int (nI k)), (0, .ref h0), (1, .int se), (2, .long wo), (4, .int (nI w)), (5, .int kk)] → W p l e (headSpec wsX3_addSome rm_c_X3_addSome_b).room s m ([.ref h0, .int se, .long wo, .int (nI w), .int kk] : List Value).toArray below meth c H locs 0 0 Q (F0 m 15 ls []) := by
    intro fu
    induction fu with
    | zero => intro k uw H locs ls hk hR; exact absurd hk (by omega)
    | succ fu ih3 =>
      intro k uw H locs ls hk hR hP hD hS hl
      refine lv_iload hx hb dX3_addSome_15 (lv_at hl 0 rfl) ?_
      refine lv_iconst (v := nI 1) hx hb dX3_addSome_17 (by decide) ?_
      refine lv_aload_n hx hb dX3_addSome_18 rfl (lv_at hl 1 rfl) ?_
      refine va_get (D := D) (ci := 3) (v := .int (nI n)) (C := RX3) (T := TX3) (N := 5) hx hb hts hiX3 hown hK hP 0 rfl rfl 2 (by decide) hf23 (fun _ h9 => h9) rfl dX3_addSome_19 ?_
      refine lv_ishl hx hb dX3_addSome_22 ?_
      refine cn_i (y := nI (2 ^ n)) (m_shl1 (by omega)) ?_
      refine lv_icmp_ge (tgt := 49) hx hb dX3_addSome_23 (by decide) (fun c4 => ?_) (fun c4 => ?_)
      · skip
        have d4 := c4
        rw [nI_leI (by omega) (by omega)] at d4
        refine lv_aload_n hx hb dX3_addSome_49 rfl (lv_at hl 1 rfl) ?_
        refine lv_dup hx hb dX3_addSome_50 rfl ?_
        refine va_get (D := D) (ci := 3) (v := .int (nI c0)) (C := RX3) (T := TX3) (N := 5) hx hb hts hiX3 hown hK hP 0 rfl rfl 3 (by decide) hf27 (fun _ h9 => h9) rfl dX3_addSome_51 ?_
        refine lv_dup_x1 hx hb dX3_addSome_54 rfl rfl ?_
        refine lv_iconst (v := nI 1) hx hb dX3_addSome_55 (by decide) ?_
        refine lv_iadd hx hb dX3_addSome_56 ?_
        refine cn_i (y := nI (c0 + 1)) (nI_add c0 1) ?_
        refine va_put (D := D) (ci := 3) (v := .int (nI (c0 + 1))) (ty := tyX3 3) (C := RX3) (T := TX3) (N := 5) hx hb hts hiX3 tyX3 tyX3_ok nmX3 hown hK hP hD hS 0 rfl rfl 3 (by decide) hf27 (fun _ h9 => h9) rfl (by decide +kernel) rfl rfl (Nat.le_of_ble_eq_true rfl) dX3_addSome_57 (fun H locs hP hD hS => ?_)
        have hP : va_P D vwCl [(h0, .inr (3, [.ref b1, .ref b2, .int (nI n), .int (nI (c0 + 1)), .int ry])), (b1, .inl (cJ, 320, .inr (.inl uw))), (b2, .inl (cI, 9, .inl u1_uo))] H := hP
        have hD : va_D (aA as) [(h0, .inr (3, [.ref b1, .ref b2, .int (nI n), .int (nI (c0 + 1)), .int ry])), (b1, .inl (cJ, 320, .inr (.inl uw))), (b2, .inl (cI, 9, .inl u1_uo))] := hD
        rw [← hQ]
        exact W.iret (v := nI c0) hx hb hr (fun tS htS hWS => ⟨⟨(nI c0), (uw, u1_uo), rfl, ⟨rfl, hR.cong (fun t _ => ⟨fun g => ⟨by omega, g.2⟩, fun g => ⟨by omega, g.2⟩⟩)⟩, m_at htS hP⟩, by rw [← has]; exact hS.F htS⟩) (by rw [← has]; exact hS.2.2) dX3_addSome_60
      · skip
        have d4 := c4
        rw [nI_leI (by omega) (by omega)] at d4
        refine lv_aload_n hx hb dX3_addSome_26 rfl (lv_at hl 1 rfl) ?_
        refine lv_iload hx hb dX3_addSome_27 (lv_at hl 0 rfl) ?_
        refine pu_i (va_runV (As := [.int (nI k)]) (rest := []) ⟨hx, hb, hml, hown, hts⟩ (c_X3_worthOf l D cI cJ cZ h0 b1 b2 n (nI c0) ry (nI k) u1_uo (by first | assumption | omega)) (cwV 1 hts gX3_addSome_X3_worthOf rfl rfl rfl (by decide +kernel) ⟨Nat.le_of_ble_eq_true rfl, Nat.le_of_ble_eq_true rfl⟩) ⟨pc_blind, va_recv hK hP (ci := 3) (q0 := 0) rfl rfl, fun U hU hW => ⟨rfl, by rw [hU]; exact hP.sub (ws' := [(h0, .inr (3, [.ref b1, .ref b2, .int (nI n), .int (nI c0), .int ry])), (b2, .inl (cI, 9, .inl u1_uo))]) [0, 2] rfl, hKN.warm hW⟩⟩ rfl rfl hl.1 rfl (lv_room (Nat.le_of_ble_eq_true rfl)) dX3_addSome_29 ⟨Nat.le_of_ble_eq_true rfl, Nat.le_of_ble_eq_true rfl⟩) hS hP (fun r5 H locs w5r hP hS => ?_)
        have w5 : r5 = pf u1_uo (nI k) n := w5r
        clear w5r
        have hpf := w5.trans (pf_congr n hwz)
        refine lv_iload hx hb dX3_addSome_32 (lv_at hl 5 rfl) ?_
        refine lv_icmp_lt (tgt := 43) hx hb dX3_addSome_34 (by decide) (fun c6 => ?_) (fun c6 => ?_)
        · skip
          have hlt := c6
          rw [hpf] at hlt
          refine lv_iinc (v := nI (k + 1)) (lv' := [(6, .int (nI (k + 1))), (0, .ref h0), (1, .int se), (2, .long wo), (4, .int (nI w)), (5, .int kk)]) hx hb dX3_addSome_43 hl (k := 0) rfl (nI_1 k) (by decide) rfl (fun ls hl => ?_)
          refine lv_goto (tgt := 15) hx hb dX3_addSome_46 (by decide) ?_
          exact ih3 (k + 1) uw _ _ _ (by omega) (by first | exact hR.yes (by omega) hlt | exact hR.no (fun g => g hlt)) hP hD hS (lv_sub hl [0, 1, 2, 3, 4, 5] rfl)
        · skip
          have hlt := c6
          rw [hpf] at hlt
          refine lv_aload_n hx hb dX3_addSome_37 rfl (lv_at hl 1 rfl) ?_
          refine lv_iload hx hb dX3_addSome_38 (lv_at hl 0 rfl) ?_
          refine mu_v (n := 3) (wc := [(h0, .inr (3, [.ref b1, .ref b2, .int (nI n), .int (nI c0), .int ry])), (b1, .inl (cJ, 320, .inr (.inl uw)))]) (va_runV (As := [.int (nI k)]) (rest := []) ⟨hx, hb, hml, hown, hts⟩ (c_X3_mark l D cI cJ cZ h0 b1 b2 c0 k (nI n) ry uw (by first | assumption | omega) (by first | assumption | omega)) (cwV 1 hts gX3_addSome_X3_mark rfl rfl rfl (by decide +kernel) ⟨Nat.le_of_ble_eq_true rfl, Nat.le_of_ble_eq_true rfl⟩) ⟨pm_blind, va_recv hK hP (ci := 3) (q0 := 0) rfl rfl, fun U hU hW => ⟨rfl, by rw [hU]; exact hP.sub (ws' := [(h0, .inr (3, [.ref b1, .ref b2, .int (nI n), .int (nI c0), .int ry])), (b1, .inl (cJ, 320, .inr (.inl uw)))]) [0, 1] rfl, hKN.warm hW, (hD.sub (ws' := [(h0, .inr (3, [.ref b1, .ref b2, .int (nI n), .int (nI c0), .int ry])), (b1, .inl (cJ, 320, .inr (.inl uw)))]) [0, 1] (by decide) rfl).weaken (fun _ _ _ _ => trivial)⟩⟩ rfl rfl hl.1 rfl (lv_room (Nat.le_of_ble_eq_true rfl)) dX3_addSome_40 ⟨Nat.le_of_ble_eq_true rfl, Nat.le_of_ble_eq_true rfl⟩) hS hP hD (fun (u : Unit) => [(h0, .inr (3, [.ref b1, .ref b2, .int (nI n), .int (nI c0), .int ry])), (b1, .inl (cJ, 320, .inr (.inl (mkG uw c0 k)))), (b2, .inl (cI, 9, .inl u1_uo))]) [0, 1] [2] rfl rfl (fun _ => rfl) (fun _ => rfl) (fun _ => rfl) (fun _ => rfl) (by decide) (by decide) (fun u7 H locs w7r hP hD hS => ?_)
          have hP : va_P D vwCl [(h0, .inr (3, [.ref b1, .ref b2, .int (nI n), .int (nI c0), .int ry])), (b1, .inl (cJ, 320, .inr (.inl (mkG uw c0 k)))), (b2, .inl (cI, 9, .inl u1_uo))] H := hP
          have hD : va_D (aA as) [(h0, .inr (3, [.ref b1, .ref b2, .int (nI n), .int (nI c0), .int ry])), (b1, .inl (cJ, 320, .inr (.inl (mkG uw c0 k)))), (b2, .inl (cI, 9, .inl u1_uo))] := hD
          have w7 : True := w7r
          clear w7r
          refine lv_iinc (v := nI (k + 1)) (lv' := [(6, .int (nI (k + 1))), (0, .ref h0), (1, .int se), (2, .long wo), (4, .int (nI w)), (5, .int kk)]) hx hb dX3_addSome_43 hl (k := 0) rfl (nI_1 k) (by decide) rfl (fun ls hl => ?_)
          refine lv_goto (tgt := 15) hx hb dX3_addSome_46 (by decide) ?_
          exact ih3 (k + 1) (mkG uw c0 k) _ _ _ (by omega) (by first | exact hR.yes (by omega) hlt | exact hR.no (fun g => g hlt)) hP hD hS (lv_sub hl [0, 1, 2, 3, 4, 5] rfl)
  exact loop3 (2 ^ n + 1) 0 u2_uw _ _ _ (by omega) (RW.wipe (fun t => ¬ pf (wZ wo w se) (nI t) n < kk) hwp) hP hD hS (lv_sub hl [0, 1, 2, 3, 4, 5] rfl)
def rm_c_X3_countLeast_b : Room := { frames := 4, cells := 0, slots := 0, locals := 89 }
set_option maxHeartbeats 400000 in
set_option maxRecDepth 100000 in
theorem c_X3_countLeast_b (l : Launch) (D : va_G) (cI cJ cZ : ClassId) (h0 : Nat) (b1 : Nat) (b2 : Nat) (n : Nat) (y : Nat) (rc : Int32) (gb : Int32) (fw : Nat → Int64) (hn : n ≤ 9) (hy : y < 40) : Met l yX3_countLeast wsX3_countLeast rm_c_X3_countLeast_b (pc_ D cI cJ cZ [.ref h0, .int gb] [(h0, .inr (3, [.ref b1, .ref b2, .int (nI n), .int rc, .int (nI y)])), (b1, .inl (cJ, 320, .inr (.inl fw)))]) (va_Qi (fun (r : Int32) (_ : Unit) => ∃ d, r = nI d ∧ CL (lst fw y n gb) (2 ^ n) d) (fun _ _ => True) aN) 0 0 aN := by
  refine Met.ofW (cc := cX3_countLeast) (maxL := 4) (ret := (some .int)) (by decide) rfl ?_
  intro p e s m args below meth c s₁ B hml hv
  obtain ⟨rfl, hP, hKN⟩ := hv
  have hK := hKN.1
  have hx := B.exec
  have hb := B.bytes
  have hr := B.returns
  have hts := atoms_spec (ws := wsX3_countLeast) B.pre
  have hown : s.vm.findClass RX3 = some m.cls := findClass_of_methodNamed B.named
  have hlocks := B.notSynchronized
  have hiX3 : ∀ w ∈ wsX30, w ∈ wsX3_countLeast := by decide +kernel
  have hf23 := hts (.fieldLink RX3 23 "LookBench$Rules" "parts" "I") (by decide +kernel)
  have hS : va_S aN s.heap s.heap [] := va_S.rf
  have hl := lv_entry ([.ref h0, .int gb]) (n := 4) (Nat.le_of_ble_eq_true rfl)
  rw [lg_entry_eq]
  generalize (lg_sl ([.ref h0, .int gb]) ++ List.replicate (4 - (lg_sl ([.ref h0, .int gb])).length) Slot.unset).toArray = ls at hl ⊢
  have hl : lv_has ls 4 [(0, .ref h0), (1, .int gb)] := hl
  generalize hQ : MQ below _ _ s _ _ _ = Q
  obtain ⟨H, hH⟩ : ∃ z, z = s.heap := ⟨_, rfl⟩
  have hP : va_P D vwCl [(h0, .inr (3, [.ref b1, .ref b2, .int (nI n), .int rc, .int (nI y)])), (b1, .inl (cJ, 320, .inr (.inl fw)))] H := by rw [hH]; exact hP
  have hS : va_S aN s.heap H [] := by rw [hH]; exact hS
  refine m_heap hH ?_
  clear hH
  have h2n := m_pow hn
  have h2p := m_powp n
  refine lv_iconst (v := nI 0) hx hb dX3_countLeast_0 (by decide) ?_
  refine lv_istore_n (lv' := [(2, .int (nI 0)), (0, .ref h0), (1, .int gb)]) hx hb dX3_countLeast_1 rfl hl (by decide) rfl (fun ls hl => ?_)
  refine lv_iconst (v := nI 0) hx hb dX3_countLeast_2 (by decide) ?_
  refine lv_istore_n (lv' := [(3, .int (nI 0)), (2, .int (nI 0)), (0, .ref h0), (1, .int gb)]) hx hb dX3_countLeast_3 rfl hl (by decide) rfl (fun ls hl => ?_)
  have loop1 : ∀ (fu : Nat) (k : Nat) (v : Nat) (H : Heap) (locs : List Loc) (ls : Array Slot), (k ≤ 2 ^ n ∧ 2 ^ n < k + fu) → (CL (lst fw y n gb) k v) → va_P D vwCl [(h0, .inr (3, [.ref b1, .ref b2, .int (nI n), .int rc, .int (nI y)])), (b1, .inl (cJ, 320, .inr (.inl fw)))] H → va_S aN s.heap H locs → lv_has ls 4 [(3, .int (nI k)), (2, .int (nI v)), (0, .ref h0), (1, .int gb)] → W p l e (headSpec wsX3_countLeast rm_c_X3_countLeast_b).room s m ([.ref h0, .int gb] : List Value).toArray below meth c H locs 0 0 Q (F0 m 4 ls []) := by
    intro fu
    induction fu with
    | zero => intro k v H locs ls hk hC; exact absurd hk (by omega)
    | succ fu ih1 =>
      intro k v H locs ls hk hC hP hS hl
      refine lv_iload_n hx hb dX3_countLeast_4 rfl (lv_at hl 0 rfl) ?_
      refine lv_iconst (v := nI 1) hx hb dX3_countLeast_5 (by decide) ?_
      refine lv_aload_n hx hb dX3_countLeast_6 rfl (lv_at hl 2 rfl) ?_
      refine va_get (D := D) (ci := 3) (v := .int (nI n)) (C := RX3) (T := TX3) (N := 5) hx hb hts hiX3 hown hK hP 0 rfl rfl 2 (by decide) hf23 (fun _ h9 => h9) rfl dX3_countLeast_7 ?_
      refine lv_ishl hx hb dX3_countLeast_10 ?_
      refine cn_i (y := nI (2 ^ n)) (m_shl1 (by omega)) ?_
      refine lv_icmp_ge (tgt := 32) hx hb dX3_countLeast_11 (by decide) (fun c2 => ?_) (fun c2 => ?_)
      · skip
        have d2 := c2
        rw [nI_leI (by omega) (by omega)] at d2
        refine lv_iload_n hx hb dX3_countLeast_32 rfl (lv_at hl 1 rfl) ?_
        rw [← hQ]
        exact W.iret (v := nI v) hx hb hr (fun tS htS hWS => ⟨⟨(nI v), (), rfl, ⟨v, rfl, by rw [show 2 ^ n = k by omega]; exact hC⟩, trivial⟩, hS.F htS⟩) hS.2.2 dX3_countLeast_33
      · skip
        have d2 := c2
        rw [nI_leI (by omega) (by omega)] at d2
        refine lv_aload_n hx hb dX3_countLeast_14 rfl (lv_at hl 2 rfl) ?_
        refine lv_iload_n hx hb dX3_countLeast_15 rfl (lv_at hl 3 rfl) ?_
        refine lv_iload_n hx hb dX3_countLeast_16 rfl (lv_at hl 0 rfl) ?_
        refine pu_i (va_runV (As := [.int gb, .int (nI k)]) (rest := []) ⟨hx, hb, hml, hown, hts⟩ (c_X3_isLeast l D cI cJ cZ h0 b1 b2 n y k rc gb fw (by first | assumption | omega) (by first | assumption | omega) (by first | assumption | omega)) (cwV 2 hts gX3_countLeast_X3_isLeast rfl rfl rfl (by decide +kernel) ⟨Nat.le_of_ble_eq_true rfl, Nat.le_of_ble_eq_true rfl⟩) ⟨pc_blind, va_recv hK hP (ci := 3) (q0 := 0) rfl rfl, fun U hU hW => ⟨rfl, by rw [hU]; exact hP.sub (ws' := [(h0, .inr (3, [.ref b1, .ref b2, .int (nI n), .int rc, .int (nI y)])), (b1, .inl (cJ, 320, .inr (.inl fw)))]) [0, 1] rfl, hKN.warm hW⟩⟩ rfl rfl hl.1 rfl (lv_room (Nat.le_of_ble_eq_true rfl)) dX3_countLeast_17 ⟨Nat.le_of_ble_eq_true rfl, Nat.le_of_ble_eq_true rfl⟩) hS hP (fun r3 H locs w3r hP hS => ?_)
        have w3 : B01 r3 (lst fw y n gb k) := w3r
        clear w3r
        rcases w3 with ⟨rfl, w3⟩ | ⟨rfl, w3⟩
        · skip
          refine lv_if_eq (tgt := 26) hx hb dX3_countLeast_20 (by decide) (fun c4 => ?_) (fun c4 => ?_)
          · exact absurd c4 (by first | decide | exact nz_lt (by omega) | exact fun h => h (nz_ge (by omega)))
          · skip
            refine lv_iinc (v := nI (v + 1)) (lv' := [(2, .int (nI (v + 1))), (3, .int (nI k)), (0, .ref h0), (1, .int gb)]) hx hb dX3_countLeast_23 hl (k := 1) rfl (nI_1 v) (by decide) rfl (fun ls hl => ?_)
            refine lv_iinc (v := nI (k + 1)) (lv' := [(3, .int (nI (k + 1))), (2, .int (nI (v + 1))), (0, .ref h0), (1, .int gb)]) hx hb dX3_countLeast_26 hl (k := 1) rfl (nI_1 k) (by decide) rfl (fun ls hl => ?_)
            refine lv_goto (tgt := 4) hx hb dX3_countLeast_29 (by decide) ?_
            exact ih1 (k + 1) (v + 1) _ _ _ (by omega) (by first | exact Or.inl ⟨by assumption, v, rfl, hC⟩ | exact Or.inr ⟨by assumption, hC⟩) hP hS (lv_sub hl [0, 1, 2, 3] rfl)
        · skip
          refine lv_if_eq (tgt := 26) hx hb dX3_countLeast_20 (by decide) (fun c5 => ?_) (fun c5 => ?_)
          · skip
            refine lv_iinc (v := nI (k + 1)) (lv' := [(3, .int (nI (k + 1))), (2, .int (nI v)), (0, .ref h0), (1, .int gb)]) hx hb dX3_countLeast_26 hl (k := 0) rfl (nI_1 k) (by decide) rfl (fun ls hl => ?_)
            refine lv_goto (tgt := 4) hx hb dX3_countLeast_29 (by decide) ?_
            exact ih1 (k + 1) v _ _ _ (by omega) (by first | exact Or.inl ⟨by assumption, v, rfl, hC⟩ | exact Or.inr ⟨by assumption, hC⟩) hP hS (lv_sub hl [0, 1, 2, 3] rfl)
          · exact absurd c5 (by first | decide | exact nz_lt (by omega) | exact fun h => h (nz_ge (by omega)))
  exact loop1 (2 ^ n + 1) 0 0 _ _ _ (by omega) rfl hP hS (lv_sub hl [0, 1, 2, 3] rfl)
def rm_c_X3_findLeast_b : Room := { frames := 4, cells := 0, slots := 0, locals := 89 }
set_option maxHeartbeats 400000 in
set_option maxRecDepth 100000 in
theorem c_X3_findLeast_b (l : Launch) (D : va_G) (cI cJ cZ : ClassId) (h0 : Nat) (b1 : Nat) (b2 : Nat) (n : Nat) (y : Nat) (rc : Int32) (gb : Int32) (ii : Int32) (fw : Nat → Int64) (hn : n ≤ 9) (hy : y < 40) : Met l yX3_findLeast wsX3_findLeast rm_c_X3_findLeast_b (pc_ D cI cJ cZ [.ref h0, .int gb, .int ii] [(h0, .inr (3, [.ref b1, .ref b2, .int (nI n), .int rc, .int (nI y)])), (b1, .inl (cJ, 320, .inr (.inl fw)))]) (va_Qi (fun (r : Int32) (_ : Unit) => FL r ii (2 ^ n) (lst fw y n gb)) (fun _ _ => True) aN) 0 0 aN := by
  refine Met.ofW (cc := cX3_findLeast) (maxL := 5) (ret := (some .int)) (by decide) rfl ?_
  intro p e s m args below meth c s₁ B hml hv
  obtain ⟨rfl, hP, hKN⟩ := hv
  have hK := hKN.1
  have hx := B.exec
  have hb := B.bytes
  have hr := B.returns
  have hts := atoms_spec (ws := wsX3_findLeast) B.pre
  have hown : s.vm.findClass RX3 = some m.cls := findClass_of_methodNamed B.named
  have hlocks := B.notSynchronized
  have hiX3 : ∀ w ∈ wsX30, w ∈ wsX3_findLeast := by decide +kernel
  have hf23 := hts (.fieldLink RX3 23 "LookBench$Rules" "parts" "I") (by decide +kernel)
  have hS : va_S aN s.heap s.heap [] := va_S.rf
  have hl := lv_entry ([.ref h0, .int gb, .int ii]) (n := 5) (Nat.le_of_ble_eq_true rfl)
  rw [lg_entry_eq]
  generalize (lg_sl ([.ref h0, .int gb, .int ii]) ++ List.replicate (5 - (lg_sl ([.ref h0, .int gb, .int ii])).length) Slot.unset).toArray = ls at hl ⊢
  have hl : lv_has ls 5 [(0, .ref h0), (1, .int gb), (2, .int ii)] := hl
  generalize hQ : MQ below _ _ s _ _ _ = Q
  obtain ⟨H, hH⟩ : ∃ z, z = s.heap := ⟨_, rfl⟩
  have hP : va_P D vwCl [(h0, .inr (3, [.ref b1, .ref b2, .int (nI n), .int rc, .int (nI y)])), (b1, .inl (cJ, 320, .inr (.inl fw)))] H := by rw [hH]; exact hP
  have hS : va_S aN s.heap H [] := by rw [hH]; exact hS
  refine m_heap hH ?_
  clear hH
  have h2n := m_pow hn
  have h2p := m_powp n
  refine lv_iconst (v := nI 0) hx hb dX3_findLeast_0 (by decide) ?_
  refine lv_istore_n (lv' := [(3, .int (nI 0)), (0, .ref h0), (1, .int gb), (2, .int ii)]) hx hb dX3_findLeast_1 rfl hl (by decide) rfl (fun ls hl => ?_)
  refine lv_iconst (v := nI 0) hx hb dX3_findLeast_2 (by decide) ?_
  refine lv_istore (lv' := [(4, .int (nI 0)), (3, .int (nI 0)), (0, .ref h0), (1, .int gb), (2, .int ii)]) hx hb dX3_findLeast_3 hl (by decide) rfl (fun ls hl => ?_)
  have loop1 : ∀ (fu : Nat) (k : Nat) (v : Nat) (H : Heap) (locs : List Loc) (ls : Array Slot), (k ≤ 2 ^ n ∧ 2 ^ n < k + fu) → (CL (lst fw y n gb) k v) → (∀ x d, x < k → lst fw y n gb x → CL (lst fw y n gb) x d → ¬ nI d = ii) → va_P D vwCl [(h0, .inr (3, [.ref b1, .ref b2, .int (nI n), .int rc, .int (nI y)])), (b1, .inl (cJ, 320, .inr (.inl fw)))] H → va_S aN s.heap H locs → lv_has ls 5 [(4, .int (nI k)), (3, .int (nI v)), (0, .ref h0), (1, .int gb), (2, .int ii)] → W p l e (headSpec wsX3_findLeast rm_c_X3_findLeast_b).room s m ([.ref h0, .int gb, .int ii] : List Value).toArray below meth c H locs 0 0 Q (F0 m 5 ls []) := by
    intro fu
    induction fu with
    | zero => intro k v H locs ls hk hC hno; exact absurd hk (by omega)
    | succ fu ih1 =>
      intro k v H locs ls hk hC hno hP hS hl
      refine lv_iload hx hb dX3_findLeast_5 (lv_at hl 0 rfl) ?_
      refine lv_iconst (v := nI 1) hx hb dX3_findLeast_7 (by decide) ?_
      refine lv_aload_n hx hb dX3_findLeast_8 rfl (lv_at hl 2 rfl) ?_
      refine va_get (D := D) (ci := 3) (v := .int (nI n)) (C := RX3) (T := TX3) (N := 5) hx hb hts hiX3 hown hK hP 0 rfl rfl 2 (by decide) hf23 (fun _ h9 => h9) rfl dX3_findLeast_9 ?_
      refine lv_ishl hx hb dX3_findLeast_12 ?_
      refine cn_i (y := nI (2 ^ n)) (m_shl1 (by omega)) ?_
      refine lv_icmp_ge (tgt := 43) hx hb dX3_findLeast_13 (by decide) (fun c2 => ?_) (fun c2 => ?_)
      · skip
        have d2 := c2
        rw [nI_leI (by omega) (by omega)] at d2
        refine lv_iconst (v := (-1 : Int32)) hx hb dX3_findLeast_43 (by decide) ?_
        rw [← hQ]
        exact W.iret (v := (-1 : Int32)) hx hb hr (fun tS htS hWS => ⟨⟨(-1 : Int32), (), rfl, Or.inr ⟨rfl, fun x d hx hp hd => hno x d (by omega) hp hd⟩, trivial⟩, hS.F htS⟩) hS.2.2 dX3_findLeast_44
      · skip
        have d2 := c2
        rw [nI_leI (by omega) (by omega)] at d2
        refine lv_aload_n hx hb dX3_findLeast_16 rfl (lv_at hl 2 rfl) ?_
        refine lv_iload_n hx hb dX3_findLeast_17 rfl (lv_at hl 3 rfl) ?_
        refine lv_iload hx hb dX3_findLeast_18 (lv_at hl 0 rfl) ?_
        refine pu_i (va_runV (As := [.int gb, .int (nI k)]) (rest := []) ⟨hx, hb, hml, hown, hts⟩ (c_X3_isLeast l D cI cJ cZ h0 b1 b2 n y k rc gb fw (by first | assumption | omega) (by first | assumption | omega) (by first | assumption | omega)) (cwV 2 hts gX3_findLeast_X3_isLeast rfl rfl rfl (by decide +kernel) ⟨Nat.le_of_ble_eq_true rfl, Nat.le_of_ble_eq_true rfl⟩) ⟨pc_blind, va_recv hK hP (ci := 3) (q0 := 0) rfl rfl, fun U hU hW => ⟨rfl, by rw [hU]; exact hP.sub (ws' := [(h0, .inr (3, [.ref b1, .ref b2, .int (nI n), .int rc, .int (nI y)])), (b1, .inl (cJ, 320, .inr (.inl fw)))]) [0, 1] rfl, hKN.warm hW⟩⟩ rfl rfl hl.1 rfl (lv_room (Nat.le_of_ble_eq_true rfl)) dX3_findLeast_20 ⟨Nat.le_of_ble_eq_true rfl, Nat.le_of_ble_eq_true rfl⟩) hS hP (fun r3 H locs w3r hP hS => ?_)
        have w3 : B01 r3 (lst fw y n gb k) := w3r
        clear w3r
        rcases w3 with ⟨rfl, w3⟩ | ⟨rfl, w3⟩
        · skip
          refine lv_if_eq (tgt := 37) hx hb dX3_findLeast_23 (by decide) (fun c4 => ?_) (fun c4 => ?_)
          · exact absurd c4 (by first | decide | exact nz_lt (by omega) | exact fun h => h (nz_ge (by omega)))
          · skip
            refine lv_iload_n hx hb dX3_findLeast_26 rfl (lv_at hl 1 rfl) ?_
            refine lv_iload_n hx hb dX3_findLeast_27 rfl (lv_at hl 4 rfl) ?_
            refine lv_icmp_ne (tgt := 34) hx hb dX3_findLeast_28 (by decide) (fun c5 => ?_) (fun c5 => ?_)
            · skip
              refine lv_iinc (v := nI (v + 1)) (lv' := [(3, .int (nI (v + 1))), (4, .int (nI k)), (0, .ref h0), (1, .int gb), (2, .int ii)]) hx hb dX3_findLeast_34 hl (k := 1) rfl (nI_1 v) (by decide) rfl (fun ls hl => ?_)
              refine lv_iinc (v := nI (k + 1)) (lv' := [(4, .int (nI (k + 1))), (3, .int (nI (v + 1))), (0, .ref h0), (1, .int gb), (2, .int ii)]) hx hb dX3_findLeast_37 hl (k := 1) rfl (nI_1 k) (by decide) rfl (fun ls hl => ?_)
              refine lv_goto (tgt := 5) hx hb dX3_findLeast_40 (by decide) ?_
              exact ih1 (k + 1) (v + 1) _ _ _ (by omega) (by first | exact Or.inl ⟨by assumption, v, rfl, hC⟩ | exact Or.inr ⟨by assumption, hC⟩) (fun x d hx hp hd e => by rcases Nat.lt_or_ge x k with h | h; exact hno x d h hp hd e; exact (by have e9 : x = k := (by omega); subst e9; first | exact absurd hp (by assumption) | (have e8 := hd.eq hC (fun _ _ => Iff.rfl); subst e8; exact absurd e (by assumption)))) hP hS (lv_sub hl [0, 1, 2, 3, 4] rfl)
            · skip
              refine lv_iload hx hb dX3_findLeast_31 (lv_at hl 0 rfl) ?_
              rw [← hQ]
              exact W.iret (v := nI k) hx hb hr (fun tS htS hWS => ⟨⟨(nI k), (), rfl, Or.inl ⟨k, v, by omega, rfl, by assumption, hC, by assumption⟩, trivial⟩, hS.F htS⟩) hS.2.2 dX3_findLeast_33
        · skip
          refine lv_if_eq (tgt := 37) hx hb dX3_findLeast_23 (by decide) (fun c6 => ?_) (fun c6 => ?_)
          · skip
            refine lv_iinc (v := nI (k + 1)) (lv' := [(4, .int (nI (k + 1))), (3, .int (nI v)), (0, .ref h0), (1, .int gb), (2, .int ii)]) hx hb dX3_findLeast_37 hl (k := 0) rfl (nI_1 k) (by decide) rfl (fun ls hl => ?_)
            refine lv_goto (tgt := 5) hx hb dX3_findLeast_40 (by decide) ?_
            exact ih1 (k + 1) v _ _ _ (by omega) (by first | exact Or.inl ⟨by assumption, v, rfl, hC⟩ | exact Or.inr ⟨by assumption, hC⟩) (fun x d hx hp hd e => by rcases Nat.lt_or_ge x k with h | h; exact hno x d h hp hd e; exact (by have e9 : x = k := (by omega); subst e9; first | exact absurd hp (by assumption) | (have e8 := hd.eq hC (fun _ _ => Iff.rfl); subst e8; exact absurd e (by assumption)))) hP hS (lv_sub hl [0, 1, 2, 3, 4] rfl)
          · exact absurd c6 (by first | decide | exact nz_lt (by omega) | exact fun h => h (nz_ge (by omega)))
  exact loop1 (2 ^ n + 1) 0 0 _ _ _ (by omega) rfl (fun x d hx => absurd hx (by omega)) hP hS (lv_sub hl [0, 1, 2, 3, 4] rfl)
