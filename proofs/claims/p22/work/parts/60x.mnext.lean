def rm_c_X7_orderNext_v : Room := { frames := 1, cells := 0, slots := 0, locals := 22 }
set_option maxHeartbeats 400000 in
set_option maxRecDepth 100000 in
theorem c_X7_orderNext_v (l : Launch) (D : va_G) (cI cJ cZ : ClassId) (m0 : Nat) (g1 : Nat) (g2 : Nat) (g3 : Nat) (g4 : Nat) (g5 : Nat) (g6 : Nat) (g7 : Nat) (g8 : Nat) (g9 : Nat) (g10 : Nat) (g11 : Nat) (g12 : Nat) (n : Nat) (q : Nat) (cv : Nat) (mr : Int32) (my : Int32) (ml : Int32) (fo : Nat → Int32) (th : Nat → Int32) (hn : n ≤ 9) (hcv : cv < 3 ^ n) (hq : q ≤ 9) (hfo : ∀ z, z < q → ∃ x, x < n ∧ fo z = nI x) (hth : ∀ z, z < 9 → th z = nI (3 ^ z)) : Met l yX7_orderNext wsX7_orderNext rm_c_X7_orderNext_v (pc_ D cI cJ cZ [.ref m0, .int (nI cv)] [(m0, .inr (7, [.int (nI n), .ref g1, .ref g2, .ref g3, .int mr, .ref g4, .int my, .ref g5, .int (nI q), .ref g6, .int ml, .ref g7, .ref g8, .ref g9, .ref g10, .ref g11, .ref g12])), (g6, .inl (cI, 9, .inl fo)), (g12, .inl (cI, 9, .inl th))]) (va_Qi (fun (r : Int32) (_ : Unit) => (r = -1 ∧ ∀ z, z < n → ¬ cv / 3 ^ z % 3 = 0) ∨ (∃ x, x < n ∧ r = nI x ∧ cv / 3 ^ x % 3 = 0 ∧ ONR fo q n (fun z => cv / 3 ^ z % 3 = 0) (nI x))) (fun _ _ => True) aN) 0 0 aN := by
  refine Met.ofW (cc := cX7_orderNext) (maxL := 3) (ret := (some .int)) (by decide) rfl ?_
  intro p e s m args below meth c s₁ B hml hv
  obtain ⟨rfl, hP, hKN⟩ := hv
  have hK := hKN.1
  have hx := B.exec
  have hb := B.bytes
  have hr := B.returns
  have hts := atoms_spec (ws := wsX7_orderNext) B.pre
  have hown : s.vm.findClass RX7 = some m.cls := findClass_of_methodNamed B.named
  have hlocks := B.notSynchronized
  have hiX7 : ∀ w ∈ wsX70, w ∈ wsX7_orderNext := by decide +kernel
  have hf7 := hts (.fieldLink RX7 7 "LookBenchModel" "parts" "I") (by decide +kernel)
  have hf33 := hts (.fieldLink RX7 33 "LookBenchModel" "order" "[I") (by decide +kernel)
  have hf64 := hts (.fieldLink RX7 64 "LookBenchModel" "ordered" "I") (by decide +kernel)
  have hS : va_S aN s.heap s.heap [] := va_S.rf
  have hl := lv_entry ([.ref m0, .int (nI cv)]) (n := 3) (Nat.le_of_ble_eq_true rfl)
  rw [lg_entry_eq]
  generalize (lg_sl ([.ref m0, .int (nI cv)]) ++ List.replicate (3 - (lg_sl ([.ref m0, .int (nI cv)])).length) Slot.unset).toArray = ls at hl ⊢
  have hl : lv_has ls 3 [(0, .ref m0), (1, .int (nI cv))] := hl
  generalize hQ : MQ below _ _ s _ _ _ = Q
  obtain ⟨H, hH⟩ : ∃ z, z = s.heap := ⟨_, rfl⟩
  have hP : va_P D vwCl [(m0, .inr (7, [.int (nI n), .ref g1, .ref g2, .ref g3, .int mr, .ref g4, .int my, .ref g5, .int (nI q), .ref g6, .int ml, .ref g7, .ref g8, .ref g9, .ref g10, .ref g11, .ref g12])), (g6, .inl (cI, 9, .inl fo)), (g12, .inl (cI, 9, .inl th))] H := by rw [hH]; exact hP
  have hS : va_S aN s.heap H [] := by rw [hH]; exact hS
  refine m_heap hH ?_
  clear hH
  have h3n := m_p3 hn
  refine lv_iconst (v := nI 0) hx hb dX7_orderNext_0 (by decide) ?_
  refine lv_istore_n (lv' := [(2, .int (nI 0)), (0, .ref m0), (1, .int (nI cv))]) hx hb dX7_orderNext_1 rfl hl (by decide) rfl (fun ls hl => ?_)
  have loop1 : ∀ (fu : Nat) (k : Nat) (H : Heap) (locs : List Loc) (ls : Array Slot), (k ≤ q ∧ q < k + fu) → (∀ j, j < k → ∀ w, w < n → fo j = nI w → ¬ cv / 3 ^ w % 3 = 0) → va_P D vwCl [(m0, .inr (7, [.int (nI n), .ref g1, .ref g2, .ref g3, .int mr, .ref g4, .int my, .ref g5, .int (nI q), .ref g6, .int ml, .ref g7, .ref g8, .ref g9, .ref g10, .ref g11, .ref g12])), (g6, .inl (cI, 9, .inl fo)), (g12, .inl (cI, 9, .inl th))] H → va_S aN s.heap H locs → lv_has ls 3 [(2, .int (nI k)), (0, .ref m0), (1, .int (nI cv))] → W p l e (headSpec wsX7_orderNext rm_c_X7_orderNext_v).room s m ([.ref m0, .int (nI cv)] : List Value).toArray below meth c H locs 0 0 Q (F0 m 2 ls []) := by
    intro fu
    induction fu with
    | zero => intro k H locs ls hk hno; exact absurd hk (by omega)
    | succ fu ih1 =>
      intro k H locs ls hk hno hP hS hl
      refine lv_iload_n hx hb dX7_orderNext_2 rfl (lv_at hl 0 rfl) ?_
      refine lv_aload_n hx hb dX7_orderNext_3 rfl (lv_at hl 1 rfl) ?_
      refine va_get (D := D) (ci := 7) (v := .int (nI q)) (C := RX7) (T := TX7) (N := 17) hx hb hts hiX7 hown hK hP 0 rfl rfl 8 (by decide) hf64 (fun _ h9 => h9) rfl dX7_orderNext_4 ?_
      refine lv_icmp_ge (tgt := 37) hx hb dX7_orderNext_7 (by decide) (fun c2 => ?_) (fun c2 => ?_)
      · skip
        have d2 := c2
        rw [nI_leI (by omega) (by omega)] at d2
        refine lv_iconst (v := nI 0) hx hb dX7_orderNext_37 (by decide) ?_
        refine lv_istore_n (lv' := [(2, .int (nI 0)), (0, .ref m0), (1, .int (nI cv))]) hx hb dX7_orderNext_38 rfl hl (by decide) rfl (fun ls hl => ?_)
        have loop3 : ∀ (fu : Nat) (t : Nat) (H : Heap) (locs : List Loc) (ls : Array Slot), (t ≤ n ∧ n < t + fu) → (∀ z, z < t → ¬ cv / 3 ^ z % 3 = 0) → va_P D vwCl [(m0, .inr (7, [.int (nI n), .ref g1, .ref g2, .ref g3, .int mr, .ref g4, .int my, .ref g5, .int (nI q), .ref g6, .int ml, .ref g7, .ref g8, .ref g9, .ref g10, .ref g11, .ref g12])), (g6, .inl (cI, 9, .inl fo)), (g12, .inl (cI, 9, .inl th))] H → va_S aN s.heap H locs → lv_has ls 3 [(2, .int (nI t)), (0, .ref m0), (1, .int (nI cv))] → W p l e (headSpec wsX7_orderNext rm_c_X7_orderNext_v).room s m ([.ref m0, .int (nI cv)] : List Value).toArray below meth c H locs 0 0 Q (F0 m 39 ls []) := by
          intro fu
          induction fu with
          | zero => intro t H locs ls ht hi; exact absurd ht (by omega)
          | succ fu ih3 =>
            intro t H locs ls ht hi hP hS hl
            refine lv_iload_n hx hb dX7_orderNext_39 rfl (lv_at hl 0 rfl) ?_
            refine lv_aload_n hx hb dX7_orderNext_40 rfl (lv_at hl 1 rfl) ?_
            refine va_get (D := D) (ci := 7) (v := .int (nI n)) (C := RX7) (T := TX7) (N := 17) hx hb hts hiX7 hown hK hP 0 rfl rfl 0 (by decide) hf7 (fun _ h9 => h9) rfl dX7_orderNext_41 ?_
            refine lv_icmp_ge (tgt := 64) hx hb dX7_orderNext_44 (by decide) (fun c4 => ?_) (fun c4 => ?_)
            · skip
              have d4 := c4
              rw [nI_leI (by omega) (by omega)] at d4
              refine lv_iconst (v := (-1 : Int32)) hx hb dX7_orderNext_64 (by decide) ?_
              rw [← hQ]
              exact W.iret (v := (-1 : Int32)) hx hb hr (fun tS htS hWS => ⟨⟨(-1 : Int32), (), rfl, Or.inl ⟨rfl, fun z hz => hi z (by omega)⟩, trivial⟩, hS.F htS⟩) hS.2.2 dX7_orderNext_65
            · skip
              have d4 := c4
              rw [nI_leI (by omega) (by omega)] at d4
              refine lv_aload_n hx hb dX7_orderNext_47 rfl (lv_at hl 1 rfl) ?_
              refine lv_iload_n hx hb dX7_orderNext_48 rfl (lv_at hl 2 rfl) ?_
              refine lv_iload_n hx hb dX7_orderNext_49 rfl (lv_at hl 0 rfl) ?_
              refine pu_i (va_runV (As := [.int (nI cv), .int (nI t)]) (rest := []) ⟨hx, hb, hml, hown, hts⟩ (c_X7_digit_g l D cI cJ cZ m0 g1 g2 g3 g4 g5 g6 g7 g8 g9 g10 g11 g12 t cv (nI n) mr my (nI q) ml th (by first | assumption | omega) (by first | assumption | omega) (by first | assumption | omega)) (cwV 2 hts gX7_orderNext_X7_digit rfl rfl rfl (by decide +kernel) ⟨Nat.le_of_ble_eq_true rfl, Nat.le_of_ble_eq_true rfl⟩) ⟨pc_blind, va_recv hK hP (ci := 7) (q0 := 0) rfl rfl, fun U hU hW => ⟨rfl, by rw [hU]; exact hP.sub (ws' := [(m0, .inr (7, [.int (nI n), .ref g1, .ref g2, .ref g3, .int mr, .ref g4, .int my, .ref g5, .int (nI q), .ref g6, .int ml, .ref g7, .ref g8, .ref g9, .ref g10, .ref g11, .ref g12])), (g12, .inl (cI, 9, .inl th))]) [0, 2] rfl, hKN.warm hW⟩⟩ rfl rfl hl.1 rfl (lv_room (Nat.le_of_ble_eq_true rfl)) dX7_orderNext_50 ⟨Nat.le_of_ble_eq_true rfl, Nat.le_of_ble_eq_true rfl⟩) hS hP (fun r5 H locs w5r hP hS => ?_)
              have w5 : r5 = nI (cv / 3 ^ t % 3) := w5r
              clear w5r
              obtain rfl : r5 = nI (cv / 3 ^ t % 3) := w5
              refine lv_if_ne (tgt := 58) hx hb dX7_orderNext_53 (by decide) (fun c6 => ?_) (fun c6 => ?_)
              · skip
                have d6 := c6
                rw [nz_eq (by omega)] at d6
                refine lv_iinc (v := nI (t + 1)) (lv' := [(2, .int (nI (t + 1))), (0, .ref m0), (1, .int (nI cv))]) hx hb dX7_orderNext_58 hl (k := 0) rfl (nI_1 t) (by decide) rfl (fun ls hl => ?_)
                refine lv_goto (tgt := 39) hx hb dX7_orderNext_61 (by decide) ?_
                exact ih3 (t + 1) _ _ _ (by omega) (fun z hz => by rcases Nat.lt_or_ge z t with h | h; exact hi z h; exact (by have e9 : z = t := (by omega); subst e9; assumption)) hP hS (lv_sub hl [0, 1, 2] rfl)
              · skip
                have d6 := c6
                rw [nz_eq (by omega)] at d6
                refine lv_iload_n hx hb dX7_orderNext_56 rfl (lv_at hl 0 rfl) ?_
                rw [← hQ]
                exact W.iret (v := nI t) hx hb hr (fun tS htS hWS => ⟨⟨(nI t), (), rfl, Or.inr ⟨t, by omega, rfl, by omega, Or.inr ⟨fun j hj => hno j (by omega), Or.inl ⟨t, by omega, rfl, by omega, hi⟩⟩⟩, trivial⟩, hS.F htS⟩) hS.2.2 dX7_orderNext_57
        exact loop3 (n + 1) 0 _ _ _ (by omega) (fun z hz => absurd hz (by omega)) hP hS (lv_sub hl [0, 1, 2] rfl)
      · skip
        have d2 := c2
        rw [nI_leI (by omega) (by omega)] at d2
        refine lv_aload_n hx hb dX7_orderNext_10 rfl (lv_at hl 1 rfl) ?_
        refine lv_iload_n hx hb dX7_orderNext_11 rfl (lv_at hl 2 rfl) ?_
        refine lv_aload_n hx hb dX7_orderNext_12 rfl (lv_at hl 1 rfl) ?_
        refine va_get (D := D) (ci := 7) (v := .ref g6) (C := RX7) (T := TX7) (N := 17) hx hb hts hiX7 hown hK hP 0 rfl rfl 9 (by decide) hf33 (fun _ h9 => h9) rfl dX7_orderNext_13 ?_
        refine lv_iload_n hx hb dX7_orderNext_16 rfl (lv_at hl 0 rfl) ?_
        obtain ⟨x9, hx9, ex9⟩ := hfo k (by omega)
        refine va_iald hx hb hK hP 1 0 rfl rfl (i := nI k) (vp_in_nI (by omega) (by omega)) dX7_orderNext_17 ?_
        refine cn_i (y := nI x9) ((congrArg fo (nI_clamp (by omega))).trans ex9) ?_
        refine pu_i (va_runV (As := [.int (nI cv), .int (nI x9)]) (rest := []) ⟨hx, hb, hml, hown, hts⟩ (c_X7_digit_g l D cI cJ cZ m0 g1 g2 g3 g4 g5 g6 g7 g8 g9 g10 g11 g12 x9 cv (nI n) mr my (nI q) ml th (by first | assumption | omega) (by first | assumption | omega) (by first | assumption | omega)) (cwV 2 hts gX7_orderNext_X7_digit rfl rfl rfl (by decide +kernel) ⟨Nat.le_of_ble_eq_true rfl, Nat.le_of_ble_eq_true rfl⟩) ⟨pc_blind, va_recv hK hP (ci := 7) (q0 := 0) rfl rfl, fun U hU hW => ⟨rfl, by rw [hU]; exact hP.sub (ws' := [(m0, .inr (7, [.int (nI n), .ref g1, .ref g2, .ref g3, .int mr, .ref g4, .int my, .ref g5, .int (nI q), .ref g6, .int ml, .ref g7, .ref g8, .ref g9, .ref g10, .ref g11, .ref g12])), (g12, .inl (cI, 9, .inl th))]) [0, 2] rfl, hKN.warm hW⟩⟩ rfl rfl hl.1 rfl (lv_room (Nat.le_of_ble_eq_true rfl)) dX7_orderNext_18 ⟨Nat.le_of_ble_eq_true rfl, Nat.le_of_ble_eq_true rfl⟩) hS hP (fun r7 H locs w7r hP hS => ?_)
        have w7 : r7 = nI (cv / 3 ^ x9 % 3) := w7r
        clear w7r
        obtain rfl : r7 = nI (cv / 3 ^ x9 % 3) := w7
        refine lv_if_ne (tgt := 31) hx hb dX7_orderNext_21 (by decide) (fun c8 => ?_) (fun c8 => ?_)
        · skip
          have d8 := c8
          rw [nz_eq (by omega)] at d8
          refine lv_iinc (v := nI (k + 1)) (lv' := [(2, .int (nI (k + 1))), (0, .ref m0), (1, .int (nI cv))]) hx hb dX7_orderNext_31 hl (k := 0) rfl (nI_1 k) (by decide) rfl (fun ls hl => ?_)
          refine lv_goto (tgt := 2) hx hb dX7_orderNext_34 (by decide) ?_
          exact ih1 (k + 1) _ _ _ (by omega) (fun j hj w hw e q9 => by by_cases e8 : j = k; exact (by subst e8; have e7 := nI_inn hn hx9 hw (ex9.symm.trans e); subst e7; first | omega | exact absurd q9 (by assumption)); exact hno j (by omega) w hw e q9) hP hS (lv_sub hl [0, 1, 2] rfl)
        · skip
          have d8 := c8
          rw [nz_eq (by omega)] at d8
          refine lv_aload_n hx hb dX7_orderNext_24 rfl (lv_at hl 1 rfl) ?_
          refine va_get (D := D) (ci := 7) (v := .ref g6) (C := RX7) (T := TX7) (N := 17) hx hb hts hiX7 hown hK hP 0 rfl rfl 9 (by decide) hf33 (fun _ h9 => h9) rfl dX7_orderNext_25 ?_
          refine lv_iload_n hx hb dX7_orderNext_28 rfl (lv_at hl 0 rfl) ?_
          refine va_iald hx hb hK hP 1 0 rfl rfl (i := nI k) (vp_in_nI (by omega) (by omega)) dX7_orderNext_29 ?_
          refine cn_i (y := nI x9) ((congrArg fo (nI_clamp (by omega))).trans ex9) ?_
          rw [← hQ]
          exact W.iret (v := nI x9) hx hb hr (fun tS htS hWS => ⟨⟨(nI x9), (), rfl, Or.inr ⟨x9, hx9, rfl, by omega, Or.inl ⟨k, x9, by omega, hx9, ex9, by omega, rfl, hno⟩⟩, trivial⟩, hS.F htS⟩) hS.2.2 dX7_orderNext_30
  exact loop1 (q + 1) 0 _ _ _ (by omega) (fun j hj => absurd hj (by omega)) hP hS (lv_sub hl [0, 1, 2] rfl)
