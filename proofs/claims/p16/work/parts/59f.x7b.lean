def rm_c_X7_single_b : Room := { frames := 2, cells := 0, slots := 0, locals := 46 }
set_option maxHeartbeats 400000 in
set_option maxRecDepth 100000 in
theorem c_X7_single_b (l : Launch) (D : va_G) (cI cJ cZ : ClassId) (m0 : Nat) (g1 : Nat) (g2 : Nat) (g3 : Nat) (g4 : Nat) (g5 : Nat) (g6 : Nat) (g7 : Nat) (g8 : Nat) (g9 : Nat) (g10 : Nat) (g11 : Nat) (g12 : Nat) (n : Nat) (c0 : Nat) (my : Int32) (mo : Int32) (ml : Int32) (p0 : Int32) (fs : Nat → Int32) (hn : n ≤ 9) (h1n : 1 ≤ n) (hc : c0 ≤ 40) (h01 : T01 fs) : Met l yX7_single wsX7_single rm_c_X7_single_b (pm_ D cI cJ cZ [.ref m0, .int p0] [(m0, .inr (7, [.int (nI n), .ref g1, .ref g2, .ref g3, .int (nI c0), .ref g4, .int my, .ref g5, .int mo, .ref g6, .int ml, .ref g7, .ref g8, .ref g9, .ref g10, .ref g11, .ref g12])), (g4, .inl (cZ, 20480, .inl fs))]) (va_Qi (fun (r : Int32) (u : Int32 × (Nat → Int32)) => ADDB r c0 n fs ((0 ≤ p0.toInt ∧ p0.toInt < n) ∧ c0 < 40) u.1 u.2 (fun t => t / 2 ^ p0.toInt.toNat % 2 = 1)) (fun (u : Int32 × (Nat → Int32)) tS => va_P D vwCl [(m0, .inr (7, [.int (nI n), .ref g1, .ref g2, .ref g3, .int u.1, .ref g4, .int my, .ref g5, .int mo, .ref g6, .int ml, .ref g7, .ref g8, .ref g9, .ref g10, .ref g11, .ref g12])), (g4, .inl (cZ, 20480, .inl u.2))] tS.heap) (aA [m0, g4])) 0 0 (aA [m0, g4]) := by
  refine Met.ofW (cc := cX7_single) (maxL := 3) (ret := (some .int)) (by decide) rfl ?_
  intro p e s m args below meth c s₁ B hml hv
  obtain ⟨rfl, hP, hKN, hD0⟩ := hv
  have hK := hKN.1
  have hx := B.exec
  have hb := B.bytes
  have hr := B.returns
  have hts := atoms_spec (ws := wsX7_single) B.pre
  have hown : s.vm.findClass RX7 = some m.cls := findClass_of_methodNamed B.named
  have hlocks := B.notSynchronized
  have hiX7 : ∀ w ∈ wsX70, w ∈ wsX7_single := by decide +kernel
  have hf23 := hts (.fieldLink RX7 23 "LookBenchModel" "says" "[Z") (by decide +kernel)
  have hf59 := hts (.fieldLink RX7 59 "LookBenchModel" "rules" "I") (by decide +kernel)
  obtain ⟨as, has⟩ : ∃ z : List Nat, z = [m0, g4] := ⟨_, rfl⟩
  have hD := hD0.addr (as := as) (by rw [has]; rfl)
  have hS : va_S (aA as) s.heap s.heap [] := va_S.rf
  have hl := lv_entry ([.ref m0, .int p0]) (n := 3) (Nat.le_of_ble_eq_true rfl)
  rw [lg_entry_eq]
  generalize (lg_sl ([.ref m0, .int p0]) ++ List.replicate (3 - (lg_sl ([.ref m0, .int p0])).length) Slot.unset).toArray = ls at hl ⊢
  have hl : lv_has ls 3 [(0, .ref m0), (1, .int p0)] := hl
  generalize hQ : MQ below _ _ s _ _ _ = Q
  obtain ⟨H, hH⟩ : ∃ z, z = s.heap := ⟨_, rfl⟩
  have hP : va_P D vwCl [(m0, .inr (7, [.int (nI n), .ref g1, .ref g2, .ref g3, .int (nI c0), .ref g4, .int my, .ref g5, .int mo, .ref g6, .int ml, .ref g7, .ref g8, .ref g9, .ref g10, .ref g11, .ref g12])), (g4, .inl (cZ, 20480, .inl fs))] H := by rw [hH]; exact hP
  have hS : va_S (aA as) s.heap H [] := by rw [hH]; exact hS
  refine m_heap hH ?_
  clear hH
  have h2n := m_pow hn
  have h2p := m_powp n
  refine lv_aload_n hx hb dX7_single_0 rfl (lv_at hl 0 rfl) ?_
  refine lv_iload_n hx hb dX7_single_1 rfl (lv_at hl 1 rfl) ?_
  refine pu_i (va_runV (As := [.int p0]) (rest := []) ⟨hx, hb, hml, hown, hts⟩ (c_X7_isPart l D cI cJ cZ m0 g1 g2 g3 g4 g5 g6 g7 g8 g9 g10 g11 g12 n (nI c0) my mo ml p0 (by first | assumption | omega) (by first | assumption | omega)) (cwV 1 hts gX7_single_X7_isPart rfl rfl rfl (by decide +kernel) ⟨Nat.le_of_ble_eq_true rfl, Nat.le_of_ble_eq_true rfl⟩) ⟨pc_blind, va_recv hK hP (ci := 7) (q0 := 0) rfl rfl, fun U hU hW => ⟨rfl, by rw [hU]; exact hP.sub (ws' := [(m0, .inr (7, [.int (nI n), .ref g1, .ref g2, .ref g3, .int (nI c0), .ref g4, .int my, .ref g5, .int mo, .ref g6, .int ml, .ref g7, .ref g8, .ref g9, .ref g10, .ref g11, .ref g12]))]) [0] rfl, hKN.warm hW⟩⟩ rfl rfl hl.1 rfl (lv_room (Nat.le_of_ble_eq_true rfl)) dX7_single_2 ⟨Nat.le_of_ble_eq_true rfl, Nat.le_of_ble_eq_true rfl⟩) hS hP (fun r1 H locs w1r hP hS => ?_)
  have w1 : B01 r1 (0 ≤ p0.toInt ∧ p0.toInt < n) := w1r
  clear w1r
  rcases w1 with ⟨rfl, w1⟩ | ⟨rfl, w1⟩
  · skip
    obtain ⟨j9, hj9, rfl⟩ := m_nat w1
    have tj9 : (nI j9).toInt = (j9 : Int) := nI_toInt (by omega)
    refine lv_if_eq (tgt := 17) hx hb dX7_single_5 (by decide) (fun c2 => ?_) (fun c2 => ?_)
    · exact absurd c2 (by first | decide | exact nz_lt (by omega) | exact fun h => h (nz_ge (by omega)))
    · skip
      refine lv_aload_n hx hb dX7_single_8 rfl (lv_at hl 0 rfl) ?_
      refine va_get (D := D) (ci := 7) (v := .int (nI c0)) (C := RX7) (T := TX7) (N := 17) hx hb hts hiX7 hown hK hP 0 rfl rfl 4 (by decide) hf59 (fun _ h9 => h9) rfl dX7_single_9 ?_
      refine lv_bipush (v := nI 40) hx hb dX7_single_12 (by decide) ?_
      refine lv_icmp_ne (tgt := 19) hx hb dX7_single_14 (by decide) (fun c3 => ?_) (fun c3 => ?_)
      · skip
        have d3 := c3
        rw [nI_eq (by omega) (by omega)] at d3
        refine lv_iconst (v := nI 0) hx hb dX7_single_19 (by decide) ?_
        refine lv_istore_n (lv' := [(2, .int (nI 0)), (0, .ref m0), (1, .int (nI j9))]) hx hb dX7_single_20 rfl hl (by decide) rfl (fun ls hl => ?_)
        have loop4 : ∀ (fu : Nat) (k : Nat) (us : Nat → Int32) (H : Heap) (locs : List Loc) (ls : Array Slot), (k ≤ 2 ^ n ∧ 2 ^ n < k + fu) → (T01 us) → (RK fs us c0 k (fun t => t / 2 ^ (nI j9).toInt.toNat % 2 = 1)) → va_P D vwCl [(m0, .inr (7, [.int (nI n), .ref g1, .ref g2, .ref g3, .int (nI c0), .ref g4, .int my, .ref g5, .int mo, .ref g6, .int ml, .ref g7, .ref g8, .ref g9, .ref g10, .ref g11, .ref g12])), (g4, .inl (cZ, 20480, .inl us))] H → va_D (aA as) [(m0, .inr (7, [.int (nI n), .ref g1, .ref g2, .ref g3, .int (nI c0), .ref g4, .int my, .ref g5, .int mo, .ref g6, .int ml, .ref g7, .ref g8, .ref g9, .ref g10, .ref g11, .ref g12])), (g4, .inl (cZ, 20480, .inl us))] → va_S (aA as) s.heap H locs → lv_has ls 3 [(2, .int (nI k)), (0, .ref m0), (1, .int (nI j9))] → W p l e (headSpec wsX7_single rm_c_X7_single_b).room s m ([.ref m0, .int (nI j9)] : List Value).toArray below meth c H locs 0 0 Q (F0 m 21 ls []) := by
          intro fu
          induction fu with
          | zero => intro k us H locs ls hk hT hR; exact absurd hk (by omega)
          | succ fu ih4 =>
            intro k us H locs ls hk hT hR hP hD hS hl
            refine lv_iload_n hx hb dX7_single_21 rfl (lv_at hl 0 rfl) ?_
            refine lv_aload_n hx hb dX7_single_22 rfl (lv_at hl 1 rfl) ?_
            refine pu_i (va_runV (As := []) (rest := [.int (nI k)]) ⟨hx, hb, hml, hown, hts⟩ (c_X7_settings l D cI cJ cZ m0 g1 g2 g3 g4 g5 g6 g7 g8 g9 g10 g11 g12 n (nI c0) my mo ml (by first | assumption | omega)) (cwV 0 hts gX7_single_X7_settings rfl rfl rfl (by decide +kernel) ⟨Nat.le_of_ble_eq_true rfl, Nat.le_of_ble_eq_true rfl⟩) ⟨pc_blind, va_recv hK hP (ci := 7) (q0 := 0) rfl rfl, fun U hU hW => ⟨rfl, by rw [hU]; exact hP.sub (ws' := [(m0, .inr (7, [.int (nI n), .ref g1, .ref g2, .ref g3, .int (nI c0), .ref g4, .int my, .ref g5, .int mo, .ref g6, .int ml, .ref g7, .ref g8, .ref g9, .ref g10, .ref g11, .ref g12]))]) [0] rfl, hKN.warm hW⟩⟩ rfl rfl hl.1 rfl (lv_room (Nat.le_of_ble_eq_true rfl)) dX7_single_23 ⟨Nat.le_of_ble_eq_true rfl, Nat.le_of_ble_eq_true rfl⟩) hS hP (fun r5 H locs w5r hP hS => ?_)
            have w5 : r5 = nI (2 ^ n) := w5r
            clear w5r
            obtain rfl : r5 = nI (2 ^ n) := w5
            refine lv_icmp_ge (tgt := 64) hx hb dX7_single_26 (by decide) (fun c6 => ?_) (fun c6 => ?_)
            · skip
              have d6 := c6
              rw [nI_leI (by omega) (by omega)] at d6
              refine lv_aload_n hx hb dX7_single_64 rfl (lv_at hl 1 rfl) ?_
              refine mu_i (n := 2) (wc := [(m0, .inr (7, [.int (nI n), .ref g1, .ref g2, .ref g3, .int (nI c0), .ref g4, .int my, .ref g5, .int mo, .ref g6, .int ml, .ref g7, .ref g8, .ref g9, .ref g10, .ref g11, .ref g12]))]) (va_runV (As := []) (rest := []) ⟨hx, hb, hml, hown, hts⟩ (c_X7_added l D cI cJ cZ m0 g1 g2 g3 g4 g5 g6 g7 g8 g9 g10 g11 g12 c0 (nI n) my mo ml (by first | assumption | omega)) (cwV 0 hts gX7_single_X7_added rfl rfl rfl (by decide +kernel) ⟨Nat.le_of_ble_eq_true rfl, Nat.le_of_ble_eq_true rfl⟩) ⟨pm_blind, va_recv hK hP (ci := 7) (q0 := 0) rfl rfl, fun U hU hW => ⟨rfl, by rw [hU]; exact hP.sub (ws' := [(m0, .inr (7, [.int (nI n), .ref g1, .ref g2, .ref g3, .int (nI c0), .ref g4, .int my, .ref g5, .int mo, .ref g6, .int ml, .ref g7, .ref g8, .ref g9, .ref g10, .ref g11, .ref g12]))]) [0] rfl, hKN.warm hW, (hD.sub (ws' := [(m0, .inr (7, [.int (nI n), .ref g1, .ref g2, .ref g3, .int (nI c0), .ref g4, .int my, .ref g5, .int mo, .ref g6, .int ml, .ref g7, .ref g8, .ref g9, .ref g10, .ref g11, .ref g12]))]) [0] (by decide) rfl).weaken (fun _ _ _ _ => trivial)⟩⟩ rfl rfl hl.1 rfl (lv_room (Nat.le_of_ble_eq_true rfl)) dX7_single_65 ⟨Nat.le_of_ble_eq_true rfl, Nat.le_of_ble_eq_true rfl⟩) hS hP hD (fun (u : Unit) => [(m0, .inr (7, [.int (nI n), .ref g1, .ref g2, .ref g3, .int (nI (c0 + 1)), .ref g4, .int my, .ref g5, .int mo, .ref g6, .int ml, .ref g7, .ref g8, .ref g9, .ref g10, .ref g11, .ref g12])), (g4, .inl (cZ, 20480, .inl us))]) [0] [1] rfl rfl (fun _ => rfl) (fun _ => rfl) (fun _ => rfl) (fun _ => rfl) (by decide) (by decide) (fun r7 u7 H locs w7r hP hD hS => ?_)
              have hP : va_P D vwCl [(m0, .inr (7, [.int (nI n), .ref g1, .ref g2, .ref g3, .int (nI (c0 + 1)), .ref g4, .int my, .ref g5, .int mo, .ref g6, .int ml, .ref g7, .ref g8, .ref g9, .ref g10, .ref g11, .ref g12])), (g4, .inl (cZ, 20480, .inl us))] H := hP
              have hD : va_D (aA as) [(m0, .inr (7, [.int (nI n), .ref g1, .ref g2, .ref g3, .int (nI (c0 + 1)), .ref g4, .int my, .ref g5, .int mo, .ref g6, .int ml, .ref g7, .ref g8, .ref g9, .ref g10, .ref g11, .ref g12])), (g4, .inl (cZ, 20480, .inl us))] := hD
              have w7 : r7 = nI c0 := w7r
              clear w7r
              rw [← hQ]
              exact W.iret (v := r7) hx hb hr (fun tS htS hWS => ⟨⟨r7, (nI (c0 + 1), us), rfl, Or.inl ⟨by assumption, by omega, rfl, by assumption, by have e9 : k = 2 ^ n := (by omega); rw [e9] at hR; exact hR⟩, m_at htS hP⟩, by rw [← has]; exact hS.F htS⟩) (by rw [← has]; exact hS.2.2) dX7_single_68
            · skip
              have d6 := c6
              rw [nI_leI (by omega) (by omega)] at d6
              refine lv_aload_n hx hb dX7_single_29 rfl (lv_at hl 1 rfl) ?_
              refine va_get (D := D) (ci := 7) (v := .ref g4) (C := RX7) (T := TX7) (N := 17) hx hb hts hiX7 hown hK hP 0 rfl rfl 5 (by decide) hf23 (fun _ h9 => h9) rfl dX7_single_30 ?_
              refine lv_sipush (v := nI 512) hx hb dX7_single_33 (by decide) ?_
              refine lv_aload_n hx hb dX7_single_36 rfl (lv_at hl 1 rfl) ?_
              refine va_get (D := D) (ci := 7) (v := .int (nI c0)) (C := RX7) (T := TX7) (N := 17) hx hb hts hiX7 hown hK hP 0 rfl rfl 4 (by decide) hf59 (fun _ h9 => h9) rfl dX7_single_37 ?_
              refine lv_imul hx hb dX7_single_40 ?_
              refine cn_i (y := nI (512 * c0)) (pk_mul 512 c0) ?_
              refine lv_iload_n hx hb dX7_single_41 rfl (lv_at hl 0 rfl) ?_
              refine lv_iadd hx hb dX7_single_42 ?_
              refine cn_i (y := nI ((512 * c0) + k)) (nI_add (512 * c0) k) ?_
              refine lv_iload_n hx hb dX7_single_43 rfl (lv_at hl 0 rfl) ?_
              refine lv_iload_n hx hb dX7_single_44 rfl (lv_at hl 2 rfl) ?_
              refine lv_ishr hx hb dX7_single_45 ?_
              refine cn_i (y := nI (k / 2 ^ j9)) (m_shr (by omega) (by omega)) ?_
              refine lv_iconst (v := nI 1) hx hb dX7_single_46 (by decide) ?_
              refine lv_iand hx hb dX7_single_47 ?_
              refine cn_i (y := nI ((k / 2 ^ j9) % 2)) (m_andn1 (by first | omega | exact Nat.lt_of_le_of_lt (Nat.div_le_self _ _) (by omega))) ?_
              refine lv_iconst (v := nI 1) hx hb dX7_single_48 (by decide) ?_
              refine lv_icmp_ne (tgt := 56) hx hb dX7_single_49 (by decide) (fun c8 => ?_) (fun c8 => ?_)
              · skip
                have d8 := c8
                rw [nI_eq (by omega) (by omega)] at d8
                refine lv_iconst (v := nI 0) hx hb dX7_single_56 (by decide) ?_
                refine va_zast hx hb hK hP hD hS 1 2 rfl rfl (i := nI ((512 * c0) + k)) (vp_in_nI (by omega) (by omega)) dX7_single_57 (fun H locs hP hD hS => ?_)
                have hP : va_P D vwCl [(m0, .inr (7, [.int (nI n), .ref g1, .ref g2, .ref g3, .int (nI c0), .ref g4, .int my, .ref g5, .int mo, .ref g6, .int ml, .ref g7, .ref g8, .ref g9, .ref g10, .ref g11, .ref g12])), (g4, .inl (cZ, 20480, .inl (upd us (nI ((512 * c0) + k)).toNatClampNeg (vp_nar .boolean (nI 0)))))] H := hP
                have hD : va_D (aA as) [(m0, .inr (7, [.int (nI n), .ref g1, .ref g2, .ref g3, .int (nI c0), .ref g4, .int my, .ref g5, .int mo, .ref g6, .int ml, .ref g7, .ref g8, .ref g9, .ref g10, .ref g11, .ref g12])), (g4, .inl (cZ, 20480, .inl (upd us (nI ((512 * c0) + k)).toNatClampNeg (vp_nar .boolean (nI 0)))))] := hD
                rw [nI_clamp (n := ((512 * c0) + k)) (by omega)] at hP hD
                refine lv_iinc (v := nI (k + 1)) (lv' := [(2, .int (nI (k + 1))), (0, .ref m0), (1, .int (nI j9))]) hx hb dX7_single_58 hl (k := 0) rfl (nI_1 k) (by decide) rfl (fun ls hl => ?_)
                refine lv_goto (tgt := 21) hx hb dX7_single_61 (by decide) ?_
                exact ih4 (k + 1) (upd us ((512 * c0) + k) (vp_nar .boolean (nI 0))) _ _ _ (by omega) (m_u01 hT (by decide)) (by first | exact hR.yes (by show k / 2 ^ (nI j9).toInt.toNat % 2 = 1; rw [m_tn (j := j9) (by omega)]; omega) | exact hR.no (by show ¬ (k / 2 ^ (nI j9).toInt.toNat % 2 = 1); rw [m_tn (j := j9) (by omega)]; omega)) hP hD hS (lv_sub hl [0, 1, 2] rfl)
              · skip
                have d8 := c8
                rw [nI_eq (by omega) (by omega)] at d8
                refine lv_iconst (v := nI 1) hx hb dX7_single_52 (by decide) ?_
                refine lv_goto (tgt := 57) hx hb dX7_single_53 (by decide) ?_
                refine va_zast hx hb hK hP hD hS 1 2 rfl rfl (i := nI ((512 * c0) + k)) (vp_in_nI (by omega) (by omega)) dX7_single_57 (fun H locs hP hD hS => ?_)
                have hP : va_P D vwCl [(m0, .inr (7, [.int (nI n), .ref g1, .ref g2, .ref g3, .int (nI c0), .ref g4, .int my, .ref g5, .int mo, .ref g6, .int ml, .ref g7, .ref g8, .ref g9, .ref g10, .ref g11, .ref g12])), (g4, .inl (cZ, 20480, .inl (upd us (nI ((512 * c0) + k)).toNatClampNeg (vp_nar .boolean (nI 1)))))] H := hP
                have hD : va_D (aA as) [(m0, .inr (7, [.int (nI n), .ref g1, .ref g2, .ref g3, .int (nI c0), .ref g4, .int my, .ref g5, .int mo, .ref g6, .int ml, .ref g7, .ref g8, .ref g9, .ref g10, .ref g11, .ref g12])), (g4, .inl (cZ, 20480, .inl (upd us (nI ((512 * c0) + k)).toNatClampNeg (vp_nar .boolean (nI 1)))))] := hD
                rw [nI_clamp (n := ((512 * c0) + k)) (by omega)] at hP hD
                refine lv_iinc (v := nI (k + 1)) (lv' := [(2, .int (nI (k + 1))), (0, .ref m0), (1, .int (nI j9))]) hx hb dX7_single_58 hl (k := 0) rfl (nI_1 k) (by decide) rfl (fun ls hl => ?_)
                refine lv_goto (tgt := 21) hx hb dX7_single_61 (by decide) ?_
                exact ih4 (k + 1) (upd us ((512 * c0) + k) (vp_nar .boolean (nI 1))) _ _ _ (by omega) (m_u01 hT (by decide)) (by first | exact hR.yes (by show k / 2 ^ (nI j9).toInt.toNat % 2 = 1; rw [m_tn (j := j9) (by omega)]; omega) | exact hR.no (by show ¬ (k / 2 ^ (nI j9).toInt.toNat % 2 = 1); rw [m_tn (j := j9) (by omega)]; omega)) hP hD hS (lv_sub hl [0, 1, 2] rfl)
        exact loop4 (2 ^ n + 1) 0 fs _ _ _ (by omega) h01 (RK.nil fs c0 _) hP hD hS (lv_sub hl [0, 1, 2] rfl)
      · skip
        have d3 := c3
        rw [nI_eq (by omega) (by omega)] at d3
        refine lv_iconst (v := (-1 : Int32)) hx hb dX7_single_17 (by decide) ?_
        rw [← hQ]
        exact W.iret (v := (-1 : Int32)) hx hb hr (fun tS htS hWS => ⟨⟨(-1 : Int32), (nI c0, fs), rfl, Or.inr ⟨rfl, by omega, rfl, rfl⟩, m_at htS hP⟩, by rw [← has]; exact hS.F htS⟩) (by rw [← has]; exact hS.2.2) dX7_single_18
  · skip
    refine lv_if_eq (tgt := 17) hx hb dX7_single_5 (by decide) (fun c9 => ?_) (fun c9 => ?_)
    · skip
      refine lv_iconst (v := (-1 : Int32)) hx hb dX7_single_17 (by decide) ?_
      rw [← hQ]
      exact W.iret (v := (-1 : Int32)) hx hb hr (fun tS htS hWS => ⟨⟨(-1 : Int32), (nI c0, fs), rfl, Or.inr ⟨rfl, by omega, rfl, rfl⟩, m_at htS hP⟩, by rw [← has]; exact hS.F htS⟩) (by rw [← has]; exact hS.2.2) dX7_single_18
    · exact absurd c9 (by first | decide | exact nz_lt (by omega) | exact fun h => h (nz_ge (by omega)))
def rm_c_X7_row_b : Room := { frames := 2, cells := 0, slots := 0, locals := 46 }
set_option maxHeartbeats 400000 in
set_option maxRecDepth 100000 in
theorem c_X7_row_b (l : Launch) (D : va_G) (cI cJ cZ : ClassId) (m0 : Nat) (g1 : Nat) (g2 : Nat) (g3 : Nat) (g4 : Nat) (g5 : Nat) (g6 : Nat) (g7 : Nat) (g8 : Nat) (g9 : Nat) (g10 : Nat) (g11 : Nat) (g12 : Nat) (n : Nat) (c0 : Nat) (my : Int32) (mo : Int32) (ml : Int32) (p0 : Int32) (p1 : Int32) (fs : Nat → Int32) (hn : n ≤ 9) (h1n : 1 ≤ n) (hc : c0 ≤ 40) (h01 : T01 fs) : Met l yX7_row wsX7_row rm_c_X7_row_b (pm_ D cI cJ cZ [.ref m0, .int p0, .int p1] [(m0, .inr (7, [.int (nI n), .ref g1, .ref g2, .ref g3, .int (nI c0), .ref g4, .int my, .ref g5, .int mo, .ref g6, .int ml, .ref g7, .ref g8, .ref g9, .ref g10, .ref g11, .ref g12])), (g4, .inl (cZ, 20480, .inl fs))]) (va_Qi (fun (r : Int32) (u : Int32 × (Nat → Int32)) => ADDB r c0 n fs ((0 ≤ p0.toInt ∧ p0.toInt < c0) ∧ (0 ≤ p1.toInt ∧ p1.toInt < c0) ∧ c0 < 40) u.1 u.2 (fun t => Sg fs p0.toInt.toNat t ∧ Sg fs p1.toInt.toNat t)) (fun (u : Int32 × (Nat → Int32)) tS => va_P D vwCl [(m0, .inr (7, [.int (nI n), .ref g1, .ref g2, .ref g3, .int u.1, .ref g4, .int my, .ref g5, .int mo, .ref g6, .int ml, .ref g7, .ref g8, .ref g9, .ref g10, .ref g11, .ref g12])), (g4, .inl (cZ, 20480, .inl u.2))] tS.heap) (aA [m0, g4])) 0 0 (aA [m0, g4]) := by
  refine Met.ofW (cc := cX7_row) (maxL := 4) (ret := (some .int)) (by decide) rfl ?_
  intro p e s m args below meth c s₁ B hml hv
  obtain ⟨rfl, hP, hKN, hD0⟩ := hv
  have hK := hKN.1
  have hx := B.exec
  have hb := B.bytes
  have hr := B.returns
  have hts := atoms_spec (ws := wsX7_row) B.pre
  have hown : s.vm.findClass RX7 = some m.cls := findClass_of_methodNamed B.named
  have hlocks := B.notSynchronized
  have hiX7 : ∀ w ∈ wsX70, w ∈ wsX7_row := by decide +kernel
  have hf23 := hts (.fieldLink RX7 23 "LookBenchModel" "says" "[Z") (by decide +kernel)
  have hf59 := hts (.fieldLink RX7 59 "LookBenchModel" "rules" "I") (by decide +kernel)
  obtain ⟨as, has⟩ : ∃ z : List Nat, z = [m0, g4] := ⟨_, rfl⟩
  have hD := hD0.addr (as := as) (by rw [has]; rfl)
  have hS : va_S (aA as) s.heap s.heap [] := va_S.rf
  have hl := lv_entry ([.ref m0, .int p0, .int p1]) (n := 4) (Nat.le_of_ble_eq_true rfl)
  rw [lg_entry_eq]
  generalize (lg_sl ([.ref m0, .int p0, .int p1]) ++ List.replicate (4 - (lg_sl ([.ref m0, .int p0, .int p1])).length) Slot.unset).toArray = ls at hl ⊢
  have hl : lv_has ls 4 [(0, .ref m0), (1, .int p0), (2, .int p1)] := hl
  generalize hQ : MQ below _ _ s _ _ _ = Q
  obtain ⟨H, hH⟩ : ∃ z, z = s.heap := ⟨_, rfl⟩
  have hP : va_P D vwCl [(m0, .inr (7, [.int (nI n), .ref g1, .ref g2, .ref g3, .int (nI c0), .ref g4, .int my, .ref g5, .int mo, .ref g6, .int ml, .ref g7, .ref g8, .ref g9, .ref g10, .ref g11, .ref g12])), (g4, .inl (cZ, 20480, .inl fs))] H := by rw [hH]; exact hP
  have hS : va_S (aA as) s.heap H [] := by rw [hH]; exact hS
  refine m_heap hH ?_
  clear hH
  have h2n := m_pow hn
  have h2p := m_powp n
  refine lv_aload_n hx hb dX7_row_0 rfl (lv_at hl 0 rfl) ?_
  refine lv_iload_n hx hb dX7_row_1 rfl (lv_at hl 1 rfl) ?_
  refine pu_i (va_runV (As := [.int p0]) (rest := []) ⟨hx, hb, hml, hown, hts⟩ (c_X7_isRule l D cI cJ cZ m0 g1 g2 g3 g4 g5 g6 g7 g8 g9 g10 g11 g12 c0 (nI n) my mo ml p0 (by first | assumption | omega)) (cwV 1 hts gX7_row_X7_isRule rfl rfl rfl (by decide +kernel) ⟨Nat.le_of_ble_eq_true rfl, Nat.le_of_ble_eq_true rfl⟩) ⟨pc_blind, va_recv hK hP (ci := 7) (q0 := 0) rfl rfl, fun U hU hW => ⟨rfl, by rw [hU]; exact hP.sub (ws' := [(m0, .inr (7, [.int (nI n), .ref g1, .ref g2, .ref g3, .int (nI c0), .ref g4, .int my, .ref g5, .int mo, .ref g6, .int ml, .ref g7, .ref g8, .ref g9, .ref g10, .ref g11, .ref g12]))]) [0] rfl, hKN.warm hW⟩⟩ rfl rfl hl.1 rfl (lv_room (Nat.le_of_ble_eq_true rfl)) dX7_row_2 ⟨Nat.le_of_ble_eq_true rfl, Nat.le_of_ble_eq_true rfl⟩) hS hP (fun r1 H locs w1r hP hS => ?_)
  have w1 : B01 r1 (0 ≤ p0.toInt ∧ p0.toInt < c0) := w1r
  clear w1r
  rcases w1 with ⟨rfl, w1⟩ | ⟨rfl, w1⟩
  · skip
    obtain ⟨j9, hj9, rfl⟩ := m_nat w1
    have tj9 : (nI j9).toInt = (j9 : Int) := nI_toInt (by omega)
    refine lv_if_eq (tgt := 25) hx hb dX7_row_5 (by decide) (fun c2 => ?_) (fun c2 => ?_)
    · exact absurd c2 (by first | decide | exact nz_lt (by omega) | exact fun h => h (nz_ge (by omega)))
    · skip
      refine lv_aload_n hx hb dX7_row_8 rfl (lv_at hl 0 rfl) ?_
      refine lv_iload_n hx hb dX7_row_9 rfl (lv_at hl 2 rfl) ?_
      refine pu_i (va_runV (As := [.int p1]) (rest := []) ⟨hx, hb, hml, hown, hts⟩ (c_X7_isRule l D cI cJ cZ m0 g1 g2 g3 g4 g5 g6 g7 g8 g9 g10 g11 g12 c0 (nI n) my mo ml p1 (by first | assumption | omega)) (cwV 1 hts gX7_row_X7_isRule rfl rfl rfl (by decide +kernel) ⟨Nat.le_of_ble_eq_true rfl, Nat.le_of_ble_eq_true rfl⟩) ⟨pc_blind, va_recv hK hP (ci := 7) (q0 := 0) rfl rfl, fun U hU hW => ⟨rfl, by rw [hU]; exact hP.sub (ws' := [(m0, .inr (7, [.int (nI n), .ref g1, .ref g2, .ref g3, .int (nI c0), .ref g4, .int my, .ref g5, .int mo, .ref g6, .int ml, .ref g7, .ref g8, .ref g9, .ref g10, .ref g11, .ref g12]))]) [0] rfl, hKN.warm hW⟩⟩ rfl rfl hl.1 rfl (lv_room (Nat.le_of_ble_eq_true rfl)) dX7_row_10 ⟨Nat.le_of_ble_eq_true rfl, Nat.le_of_ble_eq_true rfl⟩) hS hP (fun r3 H locs w3r hP hS => ?_)
      have w3 : B01 r3 (0 ≤ p1.toInt ∧ p1.toInt < c0) := w3r
      clear w3r
      rcases w3 with ⟨rfl, w3⟩ | ⟨rfl, w3⟩
      · skip
        obtain ⟨j8, hj8, rfl⟩ := m_nat w3
        have tj8 : (nI j8).toInt = (j8 : Int) := nI_toInt (by omega)
        refine lv_if_eq (tgt := 25) hx hb dX7_row_13 (by decide) (fun c4 => ?_) (fun c4 => ?_)
        · exact absurd c4 (by first | decide | exact nz_lt (by omega) | exact fun h => h (nz_ge (by omega)))
        · skip
          refine lv_aload_n hx hb dX7_row_16 rfl (lv_at hl 0 rfl) ?_
          refine va_get (D := D) (ci := 7) (v := .int (nI c0)) (C := RX7) (T := TX7) (N := 17) hx hb hts hiX7 hown hK hP 0 rfl rfl 4 (by decide) hf59 (fun _ h9 => h9) rfl dX7_row_17 ?_
          refine lv_bipush (v := nI 40) hx hb dX7_row_20 (by decide) ?_
          refine lv_icmp_ne (tgt := 27) hx hb dX7_row_22 (by decide) (fun c5 => ?_) (fun c5 => ?_)
          · skip
            have d5 := c5
            rw [nI_eq (by omega) (by omega)] at d5
            refine lv_iconst (v := nI 0) hx hb dX7_row_27 (by decide) ?_
            refine lv_istore_n (lv' := [(3, .int (nI 0)), (0, .ref m0), (1, .int (nI j9)), (2, .int (nI j8))]) hx hb dX7_row_28 rfl hl (by decide) rfl (fun ls hl => ?_)
            have loop6 : ∀ (fu : Nat) (k : Nat) (us : Nat → Int32) (H : Heap) (locs : List Loc) (ls : Array Slot), (k ≤ 2 ^ n ∧ 2 ^ n < k + fu) → (T01 us) → (RK fs us c0 k (fun t => Sg fs (nI j9).toInt.toNat t ∧ Sg fs (nI j8).toInt.toNat t)) → va_P D vwCl [(m0, .inr (7, [.int (nI n), .ref g1, .ref g2, .ref g3, .int (nI c0), .ref g4, .int my, .ref g5, .int mo, .ref g6, .int ml, .ref g7, .ref g8, .ref g9, .ref g10, .ref g11, .ref g12])), (g4, .inl (cZ, 20480, .inl us))] H → va_D (aA as) [(m0, .inr (7, [.int (nI n), .ref g1, .ref g2, .ref g3, .int (nI c0), .ref g4, .int my, .ref g5, .int mo, .ref g6, .int ml, .ref g7, .ref g8, .ref g9, .ref g10, .ref g11, .ref g12])), (g4, .inl (cZ, 20480, .inl us))] → va_S (aA as) s.heap H locs → lv_has ls 4 [(3, .int (nI k)), (0, .ref m0), (1, .int (nI j9)), (2, .int (nI j8))] → W p l e (headSpec wsX7_row rm_c_X7_row_b).room s m ([.ref m0, .int (nI j9), .int (nI j8)] : List Value).toArray below meth c H locs 0 0 Q (F0 m 29 ls []) := by
              intro fu
              induction fu with
              | zero => intro k us H locs ls hk hT hR; exact absurd hk (by omega)
              | succ fu ih6 =>
                intro k us H locs ls hk hT hR hP hD hS hl
                refine lv_iload_n hx hb dX7_row_29 rfl (lv_at hl 0 rfl) ?_
                refine lv_aload_n hx hb dX7_row_30 rfl (lv_at hl 1 rfl) ?_
                refine pu_i (va_runV (As := []) (rest := [.int (nI k)]) ⟨hx, hb, hml, hown, hts⟩ (c_X7_settings l D cI cJ cZ m0 g1 g2 g3 g4 g5 g6 g7 g8 g9 g10 g11 g12 n (nI c0) my mo ml (by first | assumption | omega)) (cwV 0 hts gX7_row_X7_settings rfl rfl rfl (by decide +kernel) ⟨Nat.le_of_ble_eq_true rfl, Nat.le_of_ble_eq_true rfl⟩) ⟨pc_blind, va_recv hK hP (ci := 7) (q0 := 0) rfl rfl, fun U hU hW => ⟨rfl, by rw [hU]; exact hP.sub (ws' := [(m0, .inr (7, [.int (nI n), .ref g1, .ref g2, .ref g3, .int (nI c0), .ref g4, .int my, .ref g5, .int mo, .ref g6, .int ml, .ref g7, .ref g8, .ref g9, .ref g10, .ref g11, .ref g12]))]) [0] rfl, hKN.warm hW⟩⟩ rfl rfl hl.1 rfl (lv_room (Nat.le_of_ble_eq_true rfl)) dX7_row_31 ⟨Nat.le_of_ble_eq_true rfl, Nat.le_of_ble_eq_true rfl⟩) hS hP (fun r7 H locs w7r hP hS => ?_)
                have w7 : r7 = nI (2 ^ n) := w7r
                clear w7r
                obtain rfl : r7 = nI (2 ^ n) := w7
                refine lv_icmp_ge (tgt := 93) hx hb dX7_row_34 (by decide) (fun c8 => ?_) (fun c8 => ?_)
                · skip
                  have d8 := c8
                  rw [nI_leI (by omega) (by omega)] at d8
                  refine lv_aload_n hx hb dX7_row_93 rfl (lv_at hl 1 rfl) ?_
                  refine mu_i (n := 2) (wc := [(m0, .inr (7, [.int (nI n), .ref g1, .ref g2, .ref g3, .int (nI c0), .ref g4, .int my, .ref g5, .int mo, .ref g6, .int ml, .ref g7, .ref g8, .ref g9, .ref g10, .ref g11, .ref g12]))]) (va_runV (As := []) (rest := []) ⟨hx, hb, hml, hown, hts⟩ (c_X7_added l D cI cJ cZ m0 g1 g2 g3 g4 g5 g6 g7 g8 g9 g10 g11 g12 c0 (nI n) my mo ml (by first | assumption | omega)) (cwV 0 hts gX7_row_X7_added rfl rfl rfl (by decide +kernel) ⟨Nat.le_of_ble_eq_true rfl, Nat.le_of_ble_eq_true rfl⟩) ⟨pm_blind, va_recv hK hP (ci := 7) (q0 := 0) rfl rfl, fun U hU hW => ⟨rfl, by rw [hU]; exact hP.sub (ws' := [(m0, .inr (7, [.int (nI n), .ref g1, .ref g2, .ref g3, .int (nI c0), .ref g4, .int my, .ref g5, .int mo, .ref g6, .int ml, .ref g7, .ref g8, .ref g9, .ref g10, .ref g11, .ref g12]))]) [0] rfl, hKN.warm hW, (hD.sub (ws' := [(m0, .inr (7, [.int (nI n), .ref g1, .ref g2, .ref g3, .int (nI c0), .ref g4, .int my, .ref g5, .int mo, .ref g6, .int ml, .ref g7, .ref g8, .ref g9, .ref g10, .ref g11, .ref g12]))]) [0] (by decide) rfl).weaken (fun _ _ _ _ => trivial)⟩⟩ rfl rfl hl.1 rfl (lv_room (Nat.le_of_ble_eq_true rfl)) dX7_row_94 ⟨Nat.le_of_ble_eq_true rfl, Nat.le_of_ble_eq_true rfl⟩) hS hP hD (fun (u : Unit) => [(m0, .inr (7, [.int (nI n), .ref g1, .ref g2, .ref g3, .int (nI (c0 + 1)), .ref g4, .int my, .ref g5, .int mo, .ref g6, .int ml, .ref g7, .ref g8, .ref g9, .ref g10, .ref g11, .ref g12])), (g4, .inl (cZ, 20480, .inl us))]) [0] [1] rfl rfl (fun _ => rfl) (fun _ => rfl) (fun _ => rfl) (fun _ => rfl) (by decide) (by decide) (fun r9 u9 H locs w9r hP hD hS => ?_)
                  have hP : va_P D vwCl [(m0, .inr (7, [.int (nI n), .ref g1, .ref g2, .ref g3, .int (nI (c0 + 1)), .ref g4, .int my, .ref g5, .int mo, .ref g6, .int ml, .ref g7, .ref g8, .ref g9, .ref g10, .ref g11, .ref g12])), (g4, .inl (cZ, 20480, .inl us))] H := hP
                  have hD : va_D (aA as) [(m0, .inr (7, [.int (nI n), .ref g1, .ref g2, .ref g3, .int (nI (c0 + 1)), .ref g4, .int my, .ref g5, .int mo, .ref g6, .int ml, .ref g7, .ref g8, .ref g9, .ref g10, .ref g11, .ref g12])), (g4, .inl (cZ, 20480, .inl us))] := hD
                  have w9 : r9 = nI c0 := w9r
                  clear w9r
                  rw [← hQ]
                  exact W.iret (v := r9) hx hb hr (fun tS htS hWS => ⟨⟨r9, (nI (c0 + 1), us), rfl, Or.inl ⟨by assumption, by omega, rfl, by assumption, by have e9 : k = 2 ^ n := (by omega); rw [e9] at hR; exact hR⟩, m_at htS hP⟩, by rw [← has]; exact hS.F htS⟩) (by rw [← has]; exact hS.2.2) dX7_row_97
                · skip
                  have d8 := c8
                  rw [nI_leI (by omega) (by omega)] at d8
                  refine lv_aload_n hx hb dX7_row_37 rfl (lv_at hl 1 rfl) ?_
                  refine va_get (D := D) (ci := 7) (v := .ref g4) (C := RX7) (T := TX7) (N := 17) hx hb hts hiX7 hown hK hP 0 rfl rfl 5 (by decide) hf23 (fun _ h9 => h9) rfl dX7_row_38 ?_
                  refine lv_sipush (v := nI 512) hx hb dX7_row_41 (by decide) ?_
                  refine lv_aload_n hx hb dX7_row_44 rfl (lv_at hl 1 rfl) ?_
                  refine va_get (D := D) (ci := 7) (v := .int (nI c0)) (C := RX7) (T := TX7) (N := 17) hx hb hts hiX7 hown hK hP 0 rfl rfl 4 (by decide) hf59 (fun _ h9 => h9) rfl dX7_row_45 ?_
                  refine lv_imul hx hb dX7_row_48 ?_
                  refine cn_i (y := nI (512 * c0)) (pk_mul 512 c0) ?_
                  refine lv_iload_n hx hb dX7_row_49 rfl (lv_at hl 0 rfl) ?_
                  refine lv_iadd hx hb dX7_row_50 ?_
                  refine cn_i (y := nI ((512 * c0) + k)) (nI_add (512 * c0) k) ?_
                  refine lv_aload_n hx hb dX7_row_51 rfl (lv_at hl 1 rfl) ?_
                  refine va_get (D := D) (ci := 7) (v := .ref g4) (C := RX7) (T := TX7) (N := 17) hx hb hts hiX7 hown hK hP 0 rfl rfl 5 (by decide) hf23 (fun _ h9 => h9) rfl dX7_row_52 ?_
                  refine lv_sipush (v := nI 512) hx hb dX7_row_55 (by decide) ?_
                  refine lv_iload_n hx hb dX7_row_58 rfl (lv_at hl 2 rfl) ?_
                  refine lv_imul hx hb dX7_row_59 ?_
                  refine cn_i (y := nI (512 * j9)) (pk_mul 512 j9) ?_
                  refine lv_iload_n hx hb dX7_row_60 rfl (lv_at hl 0 rfl) ?_
                  refine lv_iadd hx hb dX7_row_61 ?_
                  refine cn_i (y := nI ((512 * j9) + k)) (nI_add (512 * j9) k) ?_
                  refine va_zald hx hb hK hP 1 2 rfl rfl (i := nI ((512 * j9) + k)) (vp_in_nI (by omega) (by omega)) dX7_row_62 ?_
                  refine cn_i (y := us ((512 * j9) + k)) (congrArg us (nI_clamp (by omega))) ?_
                  refine lv_if_eq (tgt := 85) hx hb dX7_row_63 (by decide) (fun c10 => ?_) (fun c10 => ?_)
                  · skip
                    have hA9 : ¬ Sg fs j9 k := sg0 (hR.2 (512 * j9 + k) (by omega)) c10
                    refine lv_iconst (v := nI 0) hx hb dX7_row_85 (by decide) ?_
                    refine va_zast hx hb hK hP hD hS 1 2 rfl rfl (i := nI ((512 * c0) + k)) (vp_in_nI (by omega) (by omega)) dX7_row_86 (fun H locs hP hD hS => ?_)
                    have hP : va_P D vwCl [(m0, .inr (7, [.int (nI n), .ref g1, .ref g2, .ref g3, .int (nI c0), .ref g4, .int my, .ref g5, .int mo, .ref g6, .int ml, .ref g7, .ref g8, .ref g9, .ref g10, .ref g11, .ref g12])), (g4, .inl (cZ, 20480, .inl (upd us (nI ((512 * c0) + k)).toNatClampNeg (vp_nar .boolean (nI 0)))))] H := hP
                    have hD : va_D (aA as) [(m0, .inr (7, [.int (nI n), .ref g1, .ref g2, .ref g3, .int (nI c0), .ref g4, .int my, .ref g5, .int mo, .ref g6, .int ml, .ref g7, .ref g8, .ref g9, .ref g10, .ref g11, .ref g12])), (g4, .inl (cZ, 20480, .inl (upd us (nI ((512 * c0) + k)).toNatClampNeg (vp_nar .boolean (nI 0)))))] := hD
                    rw [nI_clamp (n := ((512 * c0) + k)) (by omega)] at hP hD
                    refine lv_iinc (v := nI (k + 1)) (lv' := [(3, .int (nI (k + 1))), (0, .ref m0), (1, .int (nI j9)), (2, .int (nI j8))]) hx hb dX7_row_87 hl (k := 0) rfl (nI_1 k) (by decide) rfl (fun ls hl => ?_)
                    refine lv_goto (tgt := 29) hx hb dX7_row_90 (by decide) ?_
                    exact ih6 (k + 1) (upd us ((512 * c0) + k) (vp_nar .boolean (nI 0))) _ _ _ (by omega) (m_u01 hT (by decide)) (by first | exact hR.yes (by show Sg fs (nI j9).toInt.toNat k ∧ Sg fs (nI j8).toInt.toNat k; rw [m_tn (j := j9) (by omega), m_tn (j := j8) (by omega)]; first | exact ⟨hA9, hB9⟩ | exact Or.inl hA9 | exact Or.inr hB9) | exact hR.no (by show ¬ (Sg fs (nI j9).toInt.toNat k ∧ Sg fs (nI j8).toInt.toNat k); rw [m_tn (j := j9) (by omega), m_tn (j := j8) (by omega)]; first | exact fun g => hA9 g.1 | exact fun g => hB9 g.2 | exact fun g => g.elim hA9 hB9)) hP hD hS (lv_sub hl [0, 1, 2, 3] rfl)
                  · skip
                    have hA9 : Sg fs j9 k := sg1 hT (hR.2 (512 * j9 + k) (by omega)) c10
                    refine lv_aload_n hx hb dX7_row_66 rfl (lv_at hl 1 rfl) ?_
                    refine va_get (D := D) (ci := 7) (v := .ref g4) (C := RX7) (T := TX7) (N := 17) hx hb hts hiX7 hown hK hP 0 rfl rfl 5 (by decide) hf23 (fun _ h9 => h9) rfl dX7_row_67 ?_
                    refine lv_sipush (v := nI 512) hx hb dX7_row_70 (by decide) ?_
                    refine lv_iload_n hx hb dX7_row_73 rfl (lv_at hl 3 rfl) ?_
                    refine lv_imul hx hb dX7_row_74 ?_
                    refine cn_i (y := nI (512 * j8)) (pk_mul 512 j8) ?_
                    refine lv_iload_n hx hb dX7_row_75 rfl (lv_at hl 0 rfl) ?_
                    refine lv_iadd hx hb dX7_row_76 ?_
                    refine cn_i (y := nI ((512 * j8) + k)) (nI_add (512 * j8) k) ?_
                    refine va_zald hx hb hK hP 1 2 rfl rfl (i := nI ((512 * j8) + k)) (vp_in_nI (by omega) (by omega)) dX7_row_77 ?_
                    refine cn_i (y := us ((512 * j8) + k)) (congrArg us (nI_clamp (by omega))) ?_
                    refine lv_if_eq (tgt := 85) hx hb dX7_row_78 (by decide) (fun c11 => ?_) (fun c11 => ?_)
                    · skip
                      have hB9 : ¬ Sg fs j8 k := sg0 (hR.2 (512 * j8 + k) (by omega)) c11
                      refine lv_iconst (v := nI 0) hx hb dX7_row_85 (by decide) ?_
                      refine va_zast hx hb hK hP hD hS 1 2 rfl rfl (i := nI ((512 * c0) + k)) (vp_in_nI (by omega) (by omega)) dX7_row_86 (fun H locs hP hD hS => ?_)
                      have hP : va_P D vwCl [(m0, .inr (7, [.int (nI n), .ref g1, .ref g2, .ref g3, .int (nI c0), .ref g4, .int my, .ref g5, .int mo, .ref g6, .int ml, .ref g7, .ref g8, .ref g9, .ref g10, .ref g11, .ref g12])), (g4, .inl (cZ, 20480, .inl (upd us (nI ((512 * c0) + k)).toNatClampNeg (vp_nar .boolean (nI 0)))))] H := hP
                      have hD : va_D (aA as) [(m0, .inr (7, [.int (nI n), .ref g1, .ref g2, .ref g3, .int (nI c0), .ref g4, .int my, .ref g5, .int mo, .ref g6, .int ml, .ref g7, .ref g8, .ref g9, .ref g10, .ref g11, .ref g12])), (g4, .inl (cZ, 20480, .inl (upd us (nI ((512 * c0) + k)).toNatClampNeg (vp_nar .boolean (nI 0)))))] := hD
                      rw [nI_clamp (n := ((512 * c0) + k)) (by omega)] at hP hD
                      refine lv_iinc (v := nI (k + 1)) (lv' := [(3, .int (nI (k + 1))), (0, .ref m0), (1, .int (nI j9)), (2, .int (nI j8))]) hx hb dX7_row_87 hl (k := 0) rfl (nI_1 k) (by decide) rfl (fun ls hl => ?_)
                      refine lv_goto (tgt := 29) hx hb dX7_row_90 (by decide) ?_
                      exact ih6 (k + 1) (upd us ((512 * c0) + k) (vp_nar .boolean (nI 0))) _ _ _ (by omega) (m_u01 hT (by decide)) (by first | exact hR.yes (by show Sg fs (nI j9).toInt.toNat k ∧ Sg fs (nI j8).toInt.toNat k; rw [m_tn (j := j9) (by omega), m_tn (j := j8) (by omega)]; first | exact ⟨hA9, hB9⟩ | exact Or.inl hA9 | exact Or.inr hB9) | exact hR.no (by show ¬ (Sg fs (nI j9).toInt.toNat k ∧ Sg fs (nI j8).toInt.toNat k); rw [m_tn (j := j9) (by omega), m_tn (j := j8) (by omega)]; first | exact fun g => hA9 g.1 | exact fun g => hB9 g.2 | exact fun g => g.elim hA9 hB9)) hP hD hS (lv_sub hl [0, 1, 2, 3] rfl)
                    · skip
                      have hB9 : Sg fs j8 k := sg1 hT (hR.2 (512 * j8 + k) (by omega)) c11
                      refine lv_iconst (v := nI 1) hx hb dX7_row_81 (by decide) ?_
                      refine lv_goto (tgt := 86) hx hb dX7_row_82 (by decide) ?_
                      refine va_zast hx hb hK hP hD hS 1 2 rfl rfl (i := nI ((512 * c0) + k)) (vp_in_nI (by omega) (by omega)) dX7_row_86 (fun H locs hP hD hS => ?_)
                      have hP : va_P D vwCl [(m0, .inr (7, [.int (nI n), .ref g1, .ref g2, .ref g3, .int (nI c0), .ref g4, .int my, .ref g5, .int mo, .ref g6, .int ml, .ref g7, .ref g8, .ref g9, .ref g10, .ref g11, .ref g12])), (g4, .inl (cZ, 20480, .inl (upd us (nI ((512 * c0) + k)).toNatClampNeg (vp_nar .boolean (nI 1)))))] H := hP
                      have hD : va_D (aA as) [(m0, .inr (7, [.int (nI n), .ref g1, .ref g2, .ref g3, .int (nI c0), .ref g4, .int my, .ref g5, .int mo, .ref g6, .int ml, .ref g7, .ref g8, .ref g9, .ref g10, .ref g11, .ref g12])), (g4, .inl (cZ, 20480, .inl (upd us (nI ((512 * c0) + k)).toNatClampNeg (vp_nar .boolean (nI 1)))))] := hD
                      rw [nI_clamp (n := ((512 * c0) + k)) (by omega)] at hP hD
                      refine lv_iinc (v := nI (k + 1)) (lv' := [(3, .int (nI (k + 1))), (0, .ref m0), (1, .int (nI j9)), (2, .int (nI j8))]) hx hb dX7_row_87 hl (k := 0) rfl (nI_1 k) (by decide) rfl (fun ls hl => ?_)
                      refine lv_goto (tgt := 29) hx hb dX7_row_90 (by decide) ?_
                      exact ih6 (k + 1) (upd us ((512 * c0) + k) (vp_nar .boolean (nI 1))) _ _ _ (by omega) (m_u01 hT (by decide)) (by first | exact hR.yes (by show Sg fs (nI j9).toInt.toNat k ∧ Sg fs (nI j8).toInt.toNat k; rw [m_tn (j := j9) (by omega), m_tn (j := j8) (by omega)]; first | exact ⟨hA9, hB9⟩ | exact Or.inl hA9 | exact Or.inr hB9) | exact hR.no (by show ¬ (Sg fs (nI j9).toInt.toNat k ∧ Sg fs (nI j8).toInt.toNat k); rw [m_tn (j := j9) (by omega), m_tn (j := j8) (by omega)]; first | exact fun g => hA9 g.1 | exact fun g => hB9 g.2 | exact fun g => g.elim hA9 hB9)) hP hD hS (lv_sub hl [0, 1, 2, 3] rfl)
            exact loop6 (2 ^ n + 1) 0 fs _ _ _ (by omega) h01 (RK.nil fs c0 _) hP hD hS (lv_sub hl [0, 1, 2, 3] rfl)
          · skip
            have d5 := c5
            rw [nI_eq (by omega) (by omega)] at d5
            refine lv_iconst (v := (-1 : Int32)) hx hb dX7_row_25 (by decide) ?_
            rw [← hQ]
            exact W.iret (v := (-1 : Int32)) hx hb hr (fun tS htS hWS => ⟨⟨(-1 : Int32), (nI c0, fs), rfl, Or.inr ⟨rfl, by omega, rfl, rfl⟩, m_at htS hP⟩, by rw [← has]; exact hS.F htS⟩) (by rw [← has]; exact hS.2.2) dX7_row_26
      · skip
        refine lv_if_eq (tgt := 25) hx hb dX7_row_13 (by decide) (fun c12 => ?_) (fun c12 => ?_)
        · skip
          refine lv_iconst (v := (-1 : Int32)) hx hb dX7_row_25 (by decide) ?_
          rw [← hQ]
          exact W.iret (v := (-1 : Int32)) hx hb hr (fun tS htS hWS => ⟨⟨(-1 : Int32), (nI c0, fs), rfl, Or.inr ⟨rfl, by omega, rfl, rfl⟩, m_at htS hP⟩, by rw [← has]; exact hS.F htS⟩) (by rw [← has]; exact hS.2.2) dX7_row_26
        · exact absurd c12 (by first | decide | exact nz_lt (by omega) | exact fun h => h (nz_ge (by omega)))
  · skip
    refine lv_if_eq (tgt := 25) hx hb dX7_row_5 (by decide) (fun c13 => ?_) (fun c13 => ?_)
    · skip
      refine lv_iconst (v := (-1 : Int32)) hx hb dX7_row_25 (by decide) ?_
      rw [← hQ]
      exact W.iret (v := (-1 : Int32)) hx hb hr (fun tS htS hWS => ⟨⟨(-1 : Int32), (nI c0, fs), rfl, Or.inr ⟨rfl, by omega, rfl, rfl⟩, m_at htS hP⟩, by rw [← has]; exact hS.F htS⟩) (by rw [← has]; exact hS.2.2) dX7_row_26
    · exact absurd c13 (by first | decide | exact nz_lt (by omega) | exact fun h => h (nz_ge (by omega)))
def rm_c_X7_side_b : Room := { frames := 2, cells := 0, slots := 0, locals := 46 }
set_option maxHeartbeats 400000 in
set_option maxRecDepth 100000 in
theorem c_X7_side_b (l : Launch) (D : va_G) (cI cJ cZ : ClassId) (m0 : Nat) (g1 : Nat) (g2 : Nat) (g3 : Nat) (g4 : Nat) (g5 : Nat) (g6 : Nat) (g7 : Nat) (g8 : Nat) (g9 : Nat) (g10 : Nat) (g11 : Nat) (g12 : Nat) (n : Nat) (c0 : Nat) (my : Int32) (mo : Int32) (ml : Int32) (p0 : Int32) (p1 : Int32) (fs : Nat → Int32) (hn : n ≤ 9) (h1n : 1 ≤ n) (hc : c0 ≤ 40) (h01 : T01 fs) : Met l yX7_side wsX7_side rm_c_X7_side_b (pm_ D cI cJ cZ [.ref m0, .int p0, .int p1] [(m0, .inr (7, [.int (nI n), .ref g1, .ref g2, .ref g3, .int (nI c0), .ref g4, .int my, .ref g5, .int mo, .ref g6, .int ml, .ref g7, .ref g8, .ref g9, .ref g10, .ref g11, .ref g12])), (g4, .inl (cZ, 20480, .inl fs))]) (va_Qi (fun (r : Int32) (u : Int32 × (Nat → Int32)) => ADDB r c0 n fs ((0 ≤ p0.toInt ∧ p0.toInt < c0) ∧ (0 ≤ p1.toInt ∧ p1.toInt < c0) ∧ c0 < 40) u.1 u.2 (fun t => Sg fs p0.toInt.toNat t ∨ Sg fs p1.toInt.toNat t)) (fun (u : Int32 × (Nat → Int32)) tS => va_P D vwCl [(m0, .inr (7, [.int (nI n), .ref g1, .ref g2, .ref g3, .int u.1, .ref g4, .int my, .ref g5, .int mo, .ref g6, .int ml, .ref g7, .ref g8, .ref g9, .ref g10, .ref g11, .ref g12])), (g4, .inl (cZ, 20480, .inl u.2))] tS.heap) (aA [m0, g4])) 0 0 (aA [m0, g4]) := by
  refine Met.ofW (cc := cX7_side) (maxL := 4) (ret := (some .int)) (by decide) rfl ?_
  intro p e s m args below meth c s₁ B hml hv
  obtain ⟨rfl, hP, hKN, hD0⟩ := hv
  have hK := hKN.1
  have hx := B.exec
  have hb := B.bytes
  have hr := B.returns
  have hts := atoms_spec (ws := wsX7_side) B.pre
  have hown : s.vm.findClass RX7 = some m.cls := findClass_of_methodNamed B.named
  have hlocks := B.notSynchronized
  have hiX7 : ∀ w ∈ wsX70, w ∈ wsX7_side := by decide +kernel
  have hf23 := hts (.fieldLink RX7 23 "LookBenchModel" "says" "[Z") (by decide +kernel)
  have hf59 := hts (.fieldLink RX7 59 "LookBenchModel" "rules" "I") (by decide +kernel)
  obtain ⟨as, has⟩ : ∃ z : List Nat, z = [m0, g4] := ⟨_, rfl⟩
  have hD := hD0.addr (as := as) (by rw [has]; rfl)
  have hS : va_S (aA as) s.heap s.heap [] := va_S.rf
  have hl := lv_entry ([.ref m0, .int p0, .int p1]) (n := 4) (Nat.le_of_ble_eq_true rfl)
  rw [lg_entry_eq]
  generalize (lg_sl ([.ref m0, .int p0, .int p1]) ++ List.replicate (4 - (lg_sl ([.ref m0, .int p0, .int p1])).length) Slot.unset).toArray = ls at hl ⊢
  have hl : lv_has ls 4 [(0, .ref m0), (1, .int p0), (2, .int p1)] := hl
  generalize hQ : MQ below _ _ s _ _ _ = Q
  obtain ⟨H, hH⟩ : ∃ z, z = s.heap := ⟨_, rfl⟩
  have hP : va_P D vwCl [(m0, .inr (7, [.int (nI n), .ref g1, .ref g2, .ref g3, .int (nI c0), .ref g4, .int my, .ref g5, .int mo, .ref g6, .int ml, .ref g7, .ref g8, .ref g9, .ref g10, .ref g11, .ref g12])), (g4, .inl (cZ, 20480, .inl fs))] H := by rw [hH]; exact hP
  have hS : va_S (aA as) s.heap H [] := by rw [hH]; exact hS
  refine m_heap hH ?_
  clear hH
  have h2n := m_pow hn
  have h2p := m_powp n
  refine lv_aload_n hx hb dX7_side_0 rfl (lv_at hl 0 rfl) ?_
  refine lv_iload_n hx hb dX7_side_1 rfl (lv_at hl 1 rfl) ?_
  refine pu_i (va_runV (As := [.int p0]) (rest := []) ⟨hx, hb, hml, hown, hts⟩ (c_X7_isRule l D cI cJ cZ m0 g1 g2 g3 g4 g5 g6 g7 g8 g9 g10 g11 g12 c0 (nI n) my mo ml p0 (by first | assumption | omega)) (cwV 1 hts gX7_side_X7_isRule rfl rfl rfl (by decide +kernel) ⟨Nat.le_of_ble_eq_true rfl, Nat.le_of_ble_eq_true rfl⟩) ⟨pc_blind, va_recv hK hP (ci := 7) (q0 := 0) rfl rfl, fun U hU hW => ⟨rfl, by rw [hU]; exact hP.sub (ws' := [(m0, .inr (7, [.int (nI n), .ref g1, .ref g2, .ref g3, .int (nI c0), .ref g4, .int my, .ref g5, .int mo, .ref g6, .int ml, .ref g7, .ref g8, .ref g9, .ref g10, .ref g11, .ref g12]))]) [0] rfl, hKN.warm hW⟩⟩ rfl rfl hl.1 rfl (lv_room (Nat.le_of_ble_eq_true rfl)) dX7_side_2 ⟨Nat.le_of_ble_eq_true rfl, Nat.le_of_ble_eq_true rfl⟩) hS hP (fun r1 H locs w1r hP hS => ?_)
  have w1 : B01 r1 (0 ≤ p0.toInt ∧ p0.toInt < c0) := w1r
  clear w1r
  rcases w1 with ⟨rfl, w1⟩ | ⟨rfl, w1⟩
  · skip
    obtain ⟨j9, hj9, rfl⟩ := m_nat w1
    have tj9 : (nI j9).toInt = (j9 : Int) := nI_toInt (by omega)
    refine lv_if_eq (tgt := 25) hx hb dX7_side_5 (by decide) (fun c2 => ?_) (fun c2 => ?_)
    · exact absurd c2 (by first | decide | exact nz_lt (by omega) | exact fun h => h (nz_ge (by omega)))
    · skip
      refine lv_aload_n hx hb dX7_side_8 rfl (lv_at hl 0 rfl) ?_
      refine lv_iload_n hx hb dX7_side_9 rfl (lv_at hl 2 rfl) ?_
      refine pu_i (va_runV (As := [.int p1]) (rest := []) ⟨hx, hb, hml, hown, hts⟩ (c_X7_isRule l D cI cJ cZ m0 g1 g2 g3 g4 g5 g6 g7 g8 g9 g10 g11 g12 c0 (nI n) my mo ml p1 (by first | assumption | omega)) (cwV 1 hts gX7_side_X7_isRule rfl rfl rfl (by decide +kernel) ⟨Nat.le_of_ble_eq_true rfl, Nat.le_of_ble_eq_true rfl⟩) ⟨pc_blind, va_recv hK hP (ci := 7) (q0 := 0) rfl rfl, fun U hU hW => ⟨rfl, by rw [hU]; exact hP.sub (ws' := [(m0, .inr (7, [.int (nI n), .ref g1, .ref g2, .ref g3, .int (nI c0), .ref g4, .int my, .ref g5, .int mo, .ref g6, .int ml, .ref g7, .ref g8, .ref g9, .ref g10, .ref g11, .ref g12]))]) [0] rfl, hKN.warm hW⟩⟩ rfl rfl hl.1 rfl (lv_room (Nat.le_of_ble_eq_true rfl)) dX7_side_10 ⟨Nat.le_of_ble_eq_true rfl, Nat.le_of_ble_eq_true rfl⟩) hS hP (fun r3 H locs w3r hP hS => ?_)
      have w3 : B01 r3 (0 ≤ p1.toInt ∧ p1.toInt < c0) := w3r
      clear w3r
      rcases w3 with ⟨rfl, w3⟩ | ⟨rfl, w3⟩
      · skip
        obtain ⟨j8, hj8, rfl⟩ := m_nat w3
        have tj8 : (nI j8).toInt = (j8 : Int) := nI_toInt (by omega)
        refine lv_if_eq (tgt := 25) hx hb dX7_side_13 (by decide) (fun c4 => ?_) (fun c4 => ?_)
        · exact absurd c4 (by first | decide | exact nz_lt (by omega) | exact fun h => h (nz_ge (by omega)))
        · skip
          refine lv_aload_n hx hb dX7_side_16 rfl (lv_at hl 0 rfl) ?_
          refine va_get (D := D) (ci := 7) (v := .int (nI c0)) (C := RX7) (T := TX7) (N := 17) hx hb hts hiX7 hown hK hP 0 rfl rfl 4 (by decide) hf59 (fun _ h9 => h9) rfl dX7_side_17 ?_
          refine lv_bipush (v := nI 40) hx hb dX7_side_20 (by decide) ?_
          refine lv_icmp_ne (tgt := 27) hx hb dX7_side_22 (by decide) (fun c5 => ?_) (fun c5 => ?_)
          · skip
            have d5 := c5
            rw [nI_eq (by omega) (by omega)] at d5
            refine lv_iconst (v := nI 0) hx hb dX7_side_27 (by decide) ?_
            refine lv_istore_n (lv' := [(3, .int (nI 0)), (0, .ref m0), (1, .int (nI j9)), (2, .int (nI j8))]) hx hb dX7_side_28 rfl hl (by decide) rfl (fun ls hl => ?_)
            have loop6 : ∀ (fu : Nat) (k : Nat) (us : Nat → Int32) (H : Heap) (locs : List Loc) (ls : Array Slot), (k ≤ 2 ^ n ∧ 2 ^ n < k + fu) → (T01 us) → (RK fs us c0 k (fun t => Sg fs (nI j9).toInt.toNat t ∨ Sg fs (nI j8).toInt.toNat t)) → va_P D vwCl [(m0, .inr (7, [.int (nI n), .ref g1, .ref g2, .ref g3, .int (nI c0), .ref g4, .int my, .ref g5, .int mo, .ref g6, .int ml, .ref g7, .ref g8, .ref g9, .ref g10, .ref g11, .ref g12])), (g4, .inl (cZ, 20480, .inl us))] H → va_D (aA as) [(m0, .inr (7, [.int (nI n), .ref g1, .ref g2, .ref g3, .int (nI c0), .ref g4, .int my, .ref g5, .int mo, .ref g6, .int ml, .ref g7, .ref g8, .ref g9, .ref g10, .ref g11, .ref g12])), (g4, .inl (cZ, 20480, .inl us))] → va_S (aA as) s.heap H locs → lv_has ls 4 [(3, .int (nI k)), (0, .ref m0), (1, .int (nI j9)), (2, .int (nI j8))] → W p l e (headSpec wsX7_side rm_c_X7_side_b).room s m ([.ref m0, .int (nI j9), .int (nI j8)] : List Value).toArray below meth c H locs 0 0 Q (F0 m 29 ls []) := by
              intro fu
              induction fu with
              | zero => intro k us H locs ls hk hT hR; exact absurd hk (by omega)
              | succ fu ih6 =>
                intro k us H locs ls hk hT hR hP hD hS hl
                refine lv_iload_n hx hb dX7_side_29 rfl (lv_at hl 0 rfl) ?_
                refine lv_aload_n hx hb dX7_side_30 rfl (lv_at hl 1 rfl) ?_
                refine pu_i (va_runV (As := []) (rest := [.int (nI k)]) ⟨hx, hb, hml, hown, hts⟩ (c_X7_settings l D cI cJ cZ m0 g1 g2 g3 g4 g5 g6 g7 g8 g9 g10 g11 g12 n (nI c0) my mo ml (by first | assumption | omega)) (cwV 0 hts gX7_side_X7_settings rfl rfl rfl (by decide +kernel) ⟨Nat.le_of_ble_eq_true rfl, Nat.le_of_ble_eq_true rfl⟩) ⟨pc_blind, va_recv hK hP (ci := 7) (q0 := 0) rfl rfl, fun U hU hW => ⟨rfl, by rw [hU]; exact hP.sub (ws' := [(m0, .inr (7, [.int (nI n), .ref g1, .ref g2, .ref g3, .int (nI c0), .ref g4, .int my, .ref g5, .int mo, .ref g6, .int ml, .ref g7, .ref g8, .ref g9, .ref g10, .ref g11, .ref g12]))]) [0] rfl, hKN.warm hW⟩⟩ rfl rfl hl.1 rfl (lv_room (Nat.le_of_ble_eq_true rfl)) dX7_side_31 ⟨Nat.le_of_ble_eq_true rfl, Nat.le_of_ble_eq_true rfl⟩) hS hP (fun r7 H locs w7r hP hS => ?_)
                have w7 : r7 = nI (2 ^ n) := w7r
                clear w7r
                obtain rfl : r7 = nI (2 ^ n) := w7
                refine lv_icmp_ge (tgt := 93) hx hb dX7_side_34 (by decide) (fun c8 => ?_) (fun c8 => ?_)
                · skip
                  have d8 := c8
                  rw [nI_leI (by omega) (by omega)] at d8
                  refine lv_aload_n hx hb dX7_side_93 rfl (lv_at hl 1 rfl) ?_
                  refine mu_i (n := 2) (wc := [(m0, .inr (7, [.int (nI n), .ref g1, .ref g2, .ref g3, .int (nI c0), .ref g4, .int my, .ref g5, .int mo, .ref g6, .int ml, .ref g7, .ref g8, .ref g9, .ref g10, .ref g11, .ref g12]))]) (va_runV (As := []) (rest := []) ⟨hx, hb, hml, hown, hts⟩ (c_X7_added l D cI cJ cZ m0 g1 g2 g3 g4 g5 g6 g7 g8 g9 g10 g11 g12 c0 (nI n) my mo ml (by first | assumption | omega)) (cwV 0 hts gX7_side_X7_added rfl rfl rfl (by decide +kernel) ⟨Nat.le_of_ble_eq_true rfl, Nat.le_of_ble_eq_true rfl⟩) ⟨pm_blind, va_recv hK hP (ci := 7) (q0 := 0) rfl rfl, fun U hU hW => ⟨rfl, by rw [hU]; exact hP.sub (ws' := [(m0, .inr (7, [.int (nI n), .ref g1, .ref g2, .ref g3, .int (nI c0), .ref g4, .int my, .ref g5, .int mo, .ref g6, .int ml, .ref g7, .ref g8, .ref g9, .ref g10, .ref g11, .ref g12]))]) [0] rfl, hKN.warm hW, (hD.sub (ws' := [(m0, .inr (7, [.int (nI n), .ref g1, .ref g2, .ref g3, .int (nI c0), .ref g4, .int my, .ref g5, .int mo, .ref g6, .int ml, .ref g7, .ref g8, .ref g9, .ref g10, .ref g11, .ref g12]))]) [0] (by decide) rfl).weaken (fun _ _ _ _ => trivial)⟩⟩ rfl rfl hl.1 rfl (lv_room (Nat.le_of_ble_eq_true rfl)) dX7_side_94 ⟨Nat.le_of_ble_eq_true rfl, Nat.le_of_ble_eq_true rfl⟩) hS hP hD (fun (u : Unit) => [(m0, .inr (7, [.int (nI n), .ref g1, .ref g2, .ref g3, .int (nI (c0 + 1)), .ref g4, .int my, .ref g5, .int mo, .ref g6, .int ml, .ref g7, .ref g8, .ref g9, .ref g10, .ref g11, .ref g12])), (g4, .inl (cZ, 20480, .inl us))]) [0] [1] rfl rfl (fun _ => rfl) (fun _ => rfl) (fun _ => rfl) (fun _ => rfl) (by decide) (by decide) (fun r9 u9 H locs w9r hP hD hS => ?_)
                  have hP : va_P D vwCl [(m0, .inr (7, [.int (nI n), .ref g1, .ref g2, .ref g3, .int (nI (c0 + 1)), .ref g4, .int my, .ref g5, .int mo, .ref g6, .int ml, .ref g7, .ref g8, .ref g9, .ref g10, .ref g11, .ref g12])), (g4, .inl (cZ, 20480, .inl us))] H := hP
                  have hD : va_D (aA as) [(m0, .inr (7, [.int (nI n), .ref g1, .ref g2, .ref g3, .int (nI (c0 + 1)), .ref g4, .int my, .ref g5, .int mo, .ref g6, .int ml, .ref g7, .ref g8, .ref g9, .ref g10, .ref g11, .ref g12])), (g4, .inl (cZ, 20480, .inl us))] := hD
                  have w9 : r9 = nI c0 := w9r
                  clear w9r
                  rw [← hQ]
                  exact W.iret (v := r9) hx hb hr (fun tS htS hWS => ⟨⟨r9, (nI (c0 + 1), us), rfl, Or.inl ⟨by assumption, by omega, rfl, by assumption, by have e9 : k = 2 ^ n := (by omega); rw [e9] at hR; exact hR⟩, m_at htS hP⟩, by rw [← has]; exact hS.F htS⟩) (by rw [← has]; exact hS.2.2) dX7_side_97
                · skip
                  have d8 := c8
                  rw [nI_leI (by omega) (by omega)] at d8
                  refine lv_aload_n hx hb dX7_side_37 rfl (lv_at hl 1 rfl) ?_
                  refine va_get (D := D) (ci := 7) (v := .ref g4) (C := RX7) (T := TX7) (N := 17) hx hb hts hiX7 hown hK hP 0 rfl rfl 5 (by decide) hf23 (fun _ h9 => h9) rfl dX7_side_38 ?_
                  refine lv_sipush (v := nI 512) hx hb dX7_side_41 (by decide) ?_
                  refine lv_aload_n hx hb dX7_side_44 rfl (lv_at hl 1 rfl) ?_
                  refine va_get (D := D) (ci := 7) (v := .int (nI c0)) (C := RX7) (T := TX7) (N := 17) hx hb hts hiX7 hown hK hP 0 rfl rfl 4 (by decide) hf59 (fun _ h9 => h9) rfl dX7_side_45 ?_
                  refine lv_imul hx hb dX7_side_48 ?_
                  refine cn_i (y := nI (512 * c0)) (pk_mul 512 c0) ?_
                  refine lv_iload_n hx hb dX7_side_49 rfl (lv_at hl 0 rfl) ?_
                  refine lv_iadd hx hb dX7_side_50 ?_
                  refine cn_i (y := nI ((512 * c0) + k)) (nI_add (512 * c0) k) ?_
                  refine lv_aload_n hx hb dX7_side_51 rfl (lv_at hl 1 rfl) ?_
                  refine va_get (D := D) (ci := 7) (v := .ref g4) (C := RX7) (T := TX7) (N := 17) hx hb hts hiX7 hown hK hP 0 rfl rfl 5 (by decide) hf23 (fun _ h9 => h9) rfl dX7_side_52 ?_
                  refine lv_sipush (v := nI 512) hx hb dX7_side_55 (by decide) ?_
                  refine lv_iload_n hx hb dX7_side_58 rfl (lv_at hl 2 rfl) ?_
                  refine lv_imul hx hb dX7_side_59 ?_
                  refine cn_i (y := nI (512 * j9)) (pk_mul 512 j9) ?_
                  refine lv_iload_n hx hb dX7_side_60 rfl (lv_at hl 0 rfl) ?_
                  refine lv_iadd hx hb dX7_side_61 ?_
                  refine cn_i (y := nI ((512 * j9) + k)) (nI_add (512 * j9) k) ?_
                  refine va_zald hx hb hK hP 1 2 rfl rfl (i := nI ((512 * j9) + k)) (vp_in_nI (by omega) (by omega)) dX7_side_62 ?_
                  refine cn_i (y := us ((512 * j9) + k)) (congrArg us (nI_clamp (by omega))) ?_
                  refine lv_if_ne (tgt := 81) hx hb dX7_side_63 (by decide) (fun c10 => ?_) (fun c10 => ?_)
                  · skip
                    have hA9 : Sg fs j9 k := sg1 hT (hR.2 (512 * j9 + k) (by omega)) c10
                    refine lv_iconst (v := nI 1) hx hb dX7_side_81 (by decide) ?_
                    refine lv_goto (tgt := 86) hx hb dX7_side_82 (by decide) ?_
                    refine va_zast hx hb hK hP hD hS 1 2 rfl rfl (i := nI ((512 * c0) + k)) (vp_in_nI (by omega) (by omega)) dX7_side_86 (fun H locs hP hD hS => ?_)
                    have hP : va_P D vwCl [(m0, .inr (7, [.int (nI n), .ref g1, .ref g2, .ref g3, .int (nI c0), .ref g4, .int my, .ref g5, .int mo, .ref g6, .int ml, .ref g7, .ref g8, .ref g9, .ref g10, .ref g11, .ref g12])), (g4, .inl (cZ, 20480, .inl (upd us (nI ((512 * c0) + k)).toNatClampNeg (vp_nar .boolean (nI 1)))))] H := hP
                    have hD : va_D (aA as) [(m0, .inr (7, [.int (nI n), .ref g1, .ref g2, .ref g3, .int (nI c0), .ref g4, .int my, .ref g5, .int mo, .ref g6, .int ml, .ref g7, .ref g8, .ref g9, .ref g10, .ref g11, .ref g12])), (g4, .inl (cZ, 20480, .inl (upd us (nI ((512 * c0) + k)).toNatClampNeg (vp_nar .boolean (nI 1)))))] := hD
                    rw [nI_clamp (n := ((512 * c0) + k)) (by omega)] at hP hD
                    refine lv_iinc (v := nI (k + 1)) (lv' := [(3, .int (nI (k + 1))), (0, .ref m0), (1, .int (nI j9)), (2, .int (nI j8))]) hx hb dX7_side_87 hl (k := 0) rfl (nI_1 k) (by decide) rfl (fun ls hl => ?_)
                    refine lv_goto (tgt := 29) hx hb dX7_side_90 (by decide) ?_
                    exact ih6 (k + 1) (upd us ((512 * c0) + k) (vp_nar .boolean (nI 1))) _ _ _ (by omega) (m_u01 hT (by decide)) (by first | exact hR.yes (by show Sg fs (nI j9).toInt.toNat k ∨ Sg fs (nI j8).toInt.toNat k; rw [m_tn (j := j9) (by omega), m_tn (j := j8) (by omega)]; first | exact ⟨hA9, hB9⟩ | exact Or.inl hA9 | exact Or.inr hB9) | exact hR.no (by show ¬ (Sg fs (nI j9).toInt.toNat k ∨ Sg fs (nI j8).toInt.toNat k); rw [m_tn (j := j9) (by omega), m_tn (j := j8) (by omega)]; first | exact fun g => hA9 g.1 | exact fun g => hB9 g.2 | exact fun g => g.elim hA9 hB9)) hP hD hS (lv_sub hl [0, 1, 2, 3] rfl)
                  · skip
                    have hA9 : ¬ Sg fs j9 k := sg0 (hR.2 (512 * j9 + k) (by omega)) c10
                    refine lv_aload_n hx hb dX7_side_66 rfl (lv_at hl 1 rfl) ?_
                    refine va_get (D := D) (ci := 7) (v := .ref g4) (C := RX7) (T := TX7) (N := 17) hx hb hts hiX7 hown hK hP 0 rfl rfl 5 (by decide) hf23 (fun _ h9 => h9) rfl dX7_side_67 ?_
                    refine lv_sipush (v := nI 512) hx hb dX7_side_70 (by decide) ?_
                    refine lv_iload_n hx hb dX7_side_73 rfl (lv_at hl 3 rfl) ?_
                    refine lv_imul hx hb dX7_side_74 ?_
                    refine cn_i (y := nI (512 * j8)) (pk_mul 512 j8) ?_
                    refine lv_iload_n hx hb dX7_side_75 rfl (lv_at hl 0 rfl) ?_
                    refine lv_iadd hx hb dX7_side_76 ?_
                    refine cn_i (y := nI ((512 * j8) + k)) (nI_add (512 * j8) k) ?_
                    refine va_zald hx hb hK hP 1 2 rfl rfl (i := nI ((512 * j8) + k)) (vp_in_nI (by omega) (by omega)) dX7_side_77 ?_
                    refine cn_i (y := us ((512 * j8) + k)) (congrArg us (nI_clamp (by omega))) ?_
                    refine lv_if_eq (tgt := 85) hx hb dX7_side_78 (by decide) (fun c11 => ?_) (fun c11 => ?_)
                    · skip
                      have hB9 : ¬ Sg fs j8 k := sg0 (hR.2 (512 * j8 + k) (by omega)) c11
                      refine lv_iconst (v := nI 0) hx hb dX7_side_85 (by decide) ?_
                      refine va_zast hx hb hK hP hD hS 1 2 rfl rfl (i := nI ((512 * c0) + k)) (vp_in_nI (by omega) (by omega)) dX7_side_86 (fun H locs hP hD hS => ?_)
                      have hP : va_P D vwCl [(m0, .inr (7, [.int (nI n), .ref g1, .ref g2, .ref g3, .int (nI c0), .ref g4, .int my, .ref g5, .int mo, .ref g6, .int ml, .ref g7, .ref g8, .ref g9, .ref g10, .ref g11, .ref g12])), (g4, .inl (cZ, 20480, .inl (upd us (nI ((512 * c0) + k)).toNatClampNeg (vp_nar .boolean (nI 0)))))] H := hP
                      have hD : va_D (aA as) [(m0, .inr (7, [.int (nI n), .ref g1, .ref g2, .ref g3, .int (nI c0), .ref g4, .int my, .ref g5, .int mo, .ref g6, .int ml, .ref g7, .ref g8, .ref g9, .ref g10, .ref g11, .ref g12])), (g4, .inl (cZ, 20480, .inl (upd us (nI ((512 * c0) + k)).toNatClampNeg (vp_nar .boolean (nI 0)))))] := hD
                      rw [nI_clamp (n := ((512 * c0) + k)) (by omega)] at hP hD
                      refine lv_iinc (v := nI (k + 1)) (lv' := [(3, .int (nI (k + 1))), (0, .ref m0), (1, .int (nI j9)), (2, .int (nI j8))]) hx hb dX7_side_87 hl (k := 0) rfl (nI_1 k) (by decide) rfl (fun ls hl => ?_)
                      refine lv_goto (tgt := 29) hx hb dX7_side_90 (by decide) ?_
                      exact ih6 (k + 1) (upd us ((512 * c0) + k) (vp_nar .boolean (nI 0))) _ _ _ (by omega) (m_u01 hT (by decide)) (by first | exact hR.yes (by show Sg fs (nI j9).toInt.toNat k ∨ Sg fs (nI j8).toInt.toNat k; rw [m_tn (j := j9) (by omega), m_tn (j := j8) (by omega)]; first | exact ⟨hA9, hB9⟩ | exact Or.inl hA9 | exact Or.inr hB9) | exact hR.no (by show ¬ (Sg fs (nI j9).toInt.toNat k ∨ Sg fs (nI j8).toInt.toNat k); rw [m_tn (j := j9) (by omega), m_tn (j := j8) (by omega)]; first | exact fun g => hA9 g.1 | exact fun g => hB9 g.2 | exact fun g => g.elim hA9 hB9)) hP hD hS (lv_sub hl [0, 1, 2, 3] rfl)
                    · skip
                      have hB9 : Sg fs j8 k := sg1 hT (hR.2 (512 * j8 + k) (by omega)) c11
                      refine lv_iconst (v := nI 1) hx hb dX7_side_81 (by decide) ?_
                      refine lv_goto (tgt := 86) hx hb dX7_side_82 (by decide) ?_
                      refine va_zast hx hb hK hP hD hS 1 2 rfl rfl (i := nI ((512 * c0) + k)) (vp_in_nI (by omega) (by omega)) dX7_side_86 (fun H locs hP hD hS => ?_)
                      have hP : va_P D vwCl [(m0, .inr (7, [.int (nI n), .ref g1, .ref g2, .ref g3, .int (nI c0), .ref g4, .int my, .ref g5, .int mo, .ref g6, .int ml, .ref g7, .ref g8, .ref g9, .ref g10, .ref g11, .ref g12])), (g4, .inl (cZ, 20480, .inl (upd us (nI ((512 * c0) + k)).toNatClampNeg (vp_nar .boolean (nI 1)))))] H := hP
                      have hD : va_D (aA as) [(m0, .inr (7, [.int (nI n), .ref g1, .ref g2, .ref g3, .int (nI c0), .ref g4, .int my, .ref g5, .int mo, .ref g6, .int ml, .ref g7, .ref g8, .ref g9, .ref g10, .ref g11, .ref g12])), (g4, .inl (cZ, 20480, .inl (upd us (nI ((512 * c0) + k)).toNatClampNeg (vp_nar .boolean (nI 1)))))] := hD
                      rw [nI_clamp (n := ((512 * c0) + k)) (by omega)] at hP hD
                      refine lv_iinc (v := nI (k + 1)) (lv' := [(3, .int (nI (k + 1))), (0, .ref m0), (1, .int (nI j9)), (2, .int (nI j8))]) hx hb dX7_side_87 hl (k := 0) rfl (nI_1 k) (by decide) rfl (fun ls hl => ?_)
                      refine lv_goto (tgt := 29) hx hb dX7_side_90 (by decide) ?_
                      exact ih6 (k + 1) (upd us ((512 * c0) + k) (vp_nar .boolean (nI 1))) _ _ _ (by omega) (m_u01 hT (by decide)) (by first | exact hR.yes (by show Sg fs (nI j9).toInt.toNat k ∨ Sg fs (nI j8).toInt.toNat k; rw [m_tn (j := j9) (by omega), m_tn (j := j8) (by omega)]; first | exact ⟨hA9, hB9⟩ | exact Or.inl hA9 | exact Or.inr hB9) | exact hR.no (by show ¬ (Sg fs (nI j9).toInt.toNat k ∨ Sg fs (nI j8).toInt.toNat k); rw [m_tn (j := j9) (by omega), m_tn (j := j8) (by omega)]; first | exact fun g => hA9 g.1 | exact fun g => hB9 g.2 | exact fun g => g.elim hA9 hB9)) hP hD hS (lv_sub hl [0, 1, 2, 3] rfl)
            exact loop6 (2 ^ n + 1) 0 fs _ _ _ (by omega) h01 (RK.nil fs c0 _) hP hD hS (lv_sub hl [0, 1, 2, 3] rfl)
          · skip
            have d5 := c5
            rw [nI_eq (by omega) (by omega)] at d5
            refine lv_iconst (v := (-1 : Int32)) hx hb dX7_side_25 (by decide) ?_
            rw [← hQ]
            exact W.iret (v := (-1 : Int32)) hx hb hr (fun tS htS hWS => ⟨⟨(-1 : Int32), (nI c0, fs), rfl, Or.inr ⟨rfl, by omega, rfl, rfl⟩, m_at htS hP⟩, by rw [← has]; exact hS.F htS⟩) (by rw [← has]; exact hS.2.2) dX7_side_26
      · skip
        refine lv_if_eq (tgt := 25) hx hb dX7_side_13 (by decide) (fun c12 => ?_) (fun c12 => ?_)
        · skip
          refine lv_iconst (v := (-1 : Int32)) hx hb dX7_side_25 (by decide) ?_
          rw [← hQ]
          exact W.iret (v := (-1 : Int32)) hx hb hr (fun tS htS hWS => ⟨⟨(-1 : Int32), (nI c0, fs), rfl, Or.inr ⟨rfl, by omega, rfl, rfl⟩, m_at htS hP⟩, by rw [← has]; exact hS.F htS⟩) (by rw [← has]; exact hS.2.2) dX7_side_26
        · exact absurd c12 (by first | decide | exact nz_lt (by omega) | exact fun h => h (nz_ge (by omega)))
  · skip
    refine lv_if_eq (tgt := 25) hx hb dX7_side_5 (by decide) (fun c13 => ?_) (fun c13 => ?_)
    · skip
      refine lv_iconst (v := (-1 : Int32)) hx hb dX7_side_25 (by decide) ?_
      rw [← hQ]
      exact W.iret (v := (-1 : Int32)) hx hb hr (fun tS htS hWS => ⟨⟨(-1 : Int32), (nI c0, fs), rfl, Or.inr ⟨rfl, by omega, rfl, rfl⟩, m_at htS hP⟩, by rw [← has]; exact hS.F htS⟩) (by rw [← has]; exact hS.2.2) dX7_side_26
    · exact absurd c13 (by first | decide | exact nz_lt (by omega) | exact fun h => h (nz_ge (by omega)))
def rm_c_X7_dual_b : Room := { frames := 2, cells := 0, slots := 0, locals := 46 }
set_option maxHeartbeats 400000 in
set_option maxRecDepth 100000 in
theorem c_X7_dual_b (l : Launch) (D : va_G) (cI cJ cZ : ClassId) (m0 : Nat) (g1 : Nat) (g2 : Nat) (g3 : Nat) (g4 : Nat) (g5 : Nat) (g6 : Nat) (g7 : Nat) (g8 : Nat) (g9 : Nat) (g10 : Nat) (g11 : Nat) (g12 : Nat) (n : Nat) (c0 : Nat) (my : Int32) (mo : Int32) (ml : Int32) (p0 : Int32) (fs : Nat → Int32) (hn : n ≤ 9) (h1n : 1 ≤ n) (hc : c0 ≤ 40) (h01 : T01 fs) : Met l yX7_dual wsX7_dual rm_c_X7_dual_b (pm_ D cI cJ cZ [.ref m0, .int p0] [(m0, .inr (7, [.int (nI n), .ref g1, .ref g2, .ref g3, .int (nI c0), .ref g4, .int my, .ref g5, .int mo, .ref g6, .int ml, .ref g7, .ref g8, .ref g9, .ref g10, .ref g11, .ref g12])), (g4, .inl (cZ, 20480, .inl fs))]) (va_Qi (fun (r : Int32) (u : Int32 × (Nat → Int32)) => ADDB r c0 n fs ((0 ≤ p0.toInt ∧ p0.toInt < c0) ∧ c0 < 40) u.1 u.2 (fun t => ¬ Sg fs p0.toInt.toNat (2 ^ n - 1 - t))) (fun (u : Int32 × (Nat → Int32)) tS => va_P D vwCl [(m0, .inr (7, [.int (nI n), .ref g1, .ref g2, .ref g3, .int u.1, .ref g4, .int my, .ref g5, .int mo, .ref g6, .int ml, .ref g7, .ref g8, .ref g9, .ref g10, .ref g11, .ref g12])), (g4, .inl (cZ, 20480, .inl u.2))] tS.heap) (aA [m0, g4])) 0 0 (aA [m0, g4]) := by
  refine Met.ofW (cc := cX7_dual) (maxL := 3) (ret := (some .int)) (by decide) rfl ?_
  intro p e s m args below meth c s₁ B hml hv
  obtain ⟨rfl, hP, hKN, hD0⟩ := hv
  have hK := hKN.1
  have hx := B.exec
  have hb := B.bytes
  have hr := B.returns
  have hts := atoms_spec (ws := wsX7_dual) B.pre
  have hown : s.vm.findClass RX7 = some m.cls := findClass_of_methodNamed B.named
  have hlocks := B.notSynchronized
  have hiX7 : ∀ w ∈ wsX70, w ∈ wsX7_dual := by decide +kernel
  have hf23 := hts (.fieldLink RX7 23 "LookBenchModel" "says" "[Z") (by decide +kernel)
  have hf59 := hts (.fieldLink RX7 59 "LookBenchModel" "rules" "I") (by decide +kernel)
  obtain ⟨as, has⟩ : ∃ z : List Nat, z = [m0, g4] := ⟨_, rfl⟩
  have hD := hD0.addr (as := as) (by rw [has]; rfl)
  have hS : va_S (aA as) s.heap s.heap [] := va_S.rf
  have hl := lv_entry ([.ref m0, .int p0]) (n := 3) (Nat.le_of_ble_eq_true rfl)
  rw [lg_entry_eq]
  generalize (lg_sl ([.ref m0, .int p0]) ++ List.replicate (3 - (lg_sl ([.ref m0, .int p0])).length) Slot.unset).toArray = ls at hl ⊢
  have hl : lv_has ls 3 [(0, .ref m0), (1, .int p0)] := hl
  generalize hQ : MQ below _ _ s _ _ _ = Q
  obtain ⟨H, hH⟩ : ∃ z, z = s.heap := ⟨_, rfl⟩
  have hP : va_P D vwCl [(m0, .inr (7, [.int (nI n), .ref g1, .ref g2, .ref g3, .int (nI c0), .ref g4, .int my, .ref g5, .int mo, .ref g6, .int ml, .ref g7, .ref g8, .ref g9, .ref g10, .ref g11, .ref g12])), (g4, .inl (cZ, 20480, .inl fs))] H := by rw [hH]; exact hP
  have hS : va_S (aA as) s.heap H [] := by rw [hH]; exact hS
  refine m_heap hH ?_
  clear hH
  have h2n := m_pow hn
  have h2p := m_powp n
  refine lv_aload_n hx hb dX7_dual_0 rfl (lv_at hl 0 rfl) ?_
  refine lv_iload_n hx hb dX7_dual_1 rfl (lv_at hl 1 rfl) ?_
  refine pu_i (va_runV (As := [.int p0]) (rest := []) ⟨hx, hb, hml, hown, hts⟩ (c_X7_isRule l D cI cJ cZ m0 g1 g2 g3 g4 g5 g6 g7 g8 g9 g10 g11 g12 c0 (nI n) my mo ml p0 (by first | assumption | omega)) (cwV 1 hts gX7_dual_X7_isRule rfl rfl rfl (by decide +kernel) ⟨Nat.le_of_ble_eq_true rfl, Nat.le_of_ble_eq_true rfl⟩) ⟨pc_blind, va_recv hK hP (ci := 7) (q0 := 0) rfl rfl, fun U hU hW => ⟨rfl, by rw [hU]; exact hP.sub (ws' := [(m0, .inr (7, [.int (nI n), .ref g1, .ref g2, .ref g3, .int (nI c0), .ref g4, .int my, .ref g5, .int mo, .ref g6, .int ml, .ref g7, .ref g8, .ref g9, .ref g10, .ref g11, .ref g12]))]) [0] rfl, hKN.warm hW⟩⟩ rfl rfl hl.1 rfl (lv_room (Nat.le_of_ble_eq_true rfl)) dX7_dual_2 ⟨Nat.le_of_ble_eq_true rfl, Nat.le_of_ble_eq_true rfl⟩) hS hP (fun r1 H locs w1r hP hS => ?_)
  have w1 : B01 r1 (0 ≤ p0.toInt ∧ p0.toInt < c0) := w1r
  clear w1r
  rcases w1 with ⟨rfl, w1⟩ | ⟨rfl, w1⟩
  · skip
    obtain ⟨j9, hj9, rfl⟩ := m_nat w1
    have tj9 : (nI j9).toInt = (j9 : Int) := nI_toInt (by omega)
    refine lv_if_eq (tgt := 17) hx hb dX7_dual_5 (by decide) (fun c2 => ?_) (fun c2 => ?_)
    · exact absurd c2 (by first | decide | exact nz_lt (by omega) | exact fun h => h (nz_ge (by omega)))
    · skip
      refine lv_aload_n hx hb dX7_dual_8 rfl (lv_at hl 0 rfl) ?_
      refine va_get (D := D) (ci := 7) (v := .int (nI c0)) (C := RX7) (T := TX7) (N := 17) hx hb hts hiX7 hown hK hP 0 rfl rfl 4 (by decide) hf59 (fun _ h9 => h9) rfl dX7_dual_9 ?_
      refine lv_bipush (v := nI 40) hx hb dX7_dual_12 (by decide) ?_
      refine lv_icmp_ne (tgt := 19) hx hb dX7_dual_14 (by decide) (fun c3 => ?_) (fun c3 => ?_)
      · skip
        have d3 := c3
        rw [nI_eq (by omega) (by omega)] at d3
        refine lv_iconst (v := nI 0) hx hb dX7_dual_19 (by decide) ?_
        refine lv_istore_n (lv' := [(2, .int (nI 0)), (0, .ref m0), (1, .int (nI j9))]) hx hb dX7_dual_20 rfl hl (by decide) rfl (fun ls hl => ?_)
        have loop4 : ∀ (fu : Nat) (k : Nat) (us : Nat → Int32) (H : Heap) (locs : List Loc) (ls : Array Slot), (k ≤ 2 ^ n ∧ 2 ^ n < k + fu) → (T01 us) → (RK fs us c0 k (fun t => ¬ Sg fs (nI j9).toInt.toNat (2 ^ n - 1 - t))) → va_P D vwCl [(m0, .inr (7, [.int (nI n), .ref g1, .ref g2, .ref g3, .int (nI c0), .ref g4, .int my, .ref g5, .int mo, .ref g6, .int ml, .ref g7, .ref g8, .ref g9, .ref g10, .ref g11, .ref g12])), (g4, .inl (cZ, 20480, .inl us))] H → va_D (aA as) [(m0, .inr (7, [.int (nI n), .ref g1, .ref g2, .ref g3, .int (nI c0), .ref g4, .int my, .ref g5, .int mo, .ref g6, .int ml, .ref g7, .ref g8, .ref g9, .ref g10, .ref g11, .ref g12])), (g4, .inl (cZ, 20480, .inl us))] → va_S (aA as) s.heap H locs → lv_has ls 3 [(2, .int (nI k)), (0, .ref m0), (1, .int (nI j9))] → W p l e (headSpec wsX7_dual rm_c_X7_dual_b).room s m ([.ref m0, .int (nI j9)] : List Value).toArray below meth c H locs 0 0 Q (F0 m 21 ls []) := by
          intro fu
          induction fu with
          | zero => intro k us H locs ls hk hT hR; exact absurd hk (by omega)
          | succ fu ih4 =>
            intro k us H locs ls hk hT hR hP hD hS hl
            refine lv_iload_n hx hb dX7_dual_21 rfl (lv_at hl 0 rfl) ?_
            refine lv_aload_n hx hb dX7_dual_22 rfl (lv_at hl 1 rfl) ?_
            refine pu_i (va_runV (As := []) (rest := [.int (nI k)]) ⟨hx, hb, hml, hown, hts⟩ (c_X7_settings l D cI cJ cZ m0 g1 g2 g3 g4 g5 g6 g7 g8 g9 g10 g11 g12 n (nI c0) my mo ml (by first | assumption | omega)) (cwV 0 hts gX7_dual_X7_settings rfl rfl rfl (by decide +kernel) ⟨Nat.le_of_ble_eq_true rfl, Nat.le_of_ble_eq_true rfl⟩) ⟨pc_blind, va_recv hK hP (ci := 7) (q0 := 0) rfl rfl, fun U hU hW => ⟨rfl, by rw [hU]; exact hP.sub (ws' := [(m0, .inr (7, [.int (nI n), .ref g1, .ref g2, .ref g3, .int (nI c0), .ref g4, .int my, .ref g5, .int mo, .ref g6, .int ml, .ref g7, .ref g8, .ref g9, .ref g10, .ref g11, .ref g12]))]) [0] rfl, hKN.warm hW⟩⟩ rfl rfl hl.1 rfl (lv_room (Nat.le_of_ble_eq_true rfl)) dX7_dual_23 ⟨Nat.le_of_ble_eq_true rfl, Nat.le_of_ble_eq_true rfl⟩) hS hP (fun r5 H locs w5r hP hS => ?_)
            have w5 : r5 = nI (2 ^ n) := w5r
            clear w5r
            obtain rfl : r5 = nI (2 ^ n) := w5
            refine lv_icmp_ge (tgt := 77) hx hb dX7_dual_26 (by decide) (fun c6 => ?_) (fun c6 => ?_)
            · skip
              have d6 := c6
              rw [nI_leI (by omega) (by omega)] at d6
              refine lv_aload_n hx hb dX7_dual_77 rfl (lv_at hl 1 rfl) ?_
              refine mu_i (n := 2) (wc := [(m0, .inr (7, [.int (nI n), .ref g1, .ref g2, .ref g3, .int (nI c0), .ref g4, .int my, .ref g5, .int mo, .ref g6, .int ml, .ref g7, .ref g8, .ref g9, .ref g10, .ref g11, .ref g12]))]) (va_runV (As := []) (rest := []) ⟨hx, hb, hml, hown, hts⟩ (c_X7_added l D cI cJ cZ m0 g1 g2 g3 g4 g5 g6 g7 g8 g9 g10 g11 g12 c0 (nI n) my mo ml (by first | assumption | omega)) (cwV 0 hts gX7_dual_X7_added rfl rfl rfl (by decide +kernel) ⟨Nat.le_of_ble_eq_true rfl, Nat.le_of_ble_eq_true rfl⟩) ⟨pm_blind, va_recv hK hP (ci := 7) (q0 := 0) rfl rfl, fun U hU hW => ⟨rfl, by rw [hU]; exact hP.sub (ws' := [(m0, .inr (7, [.int (nI n), .ref g1, .ref g2, .ref g3, .int (nI c0), .ref g4, .int my, .ref g5, .int mo, .ref g6, .int ml, .ref g7, .ref g8, .ref g9, .ref g10, .ref g11, .ref g12]))]) [0] rfl, hKN.warm hW, (hD.sub (ws' := [(m0, .inr (7, [.int (nI n), .ref g1, .ref g2, .ref g3, .int (nI c0), .ref g4, .int my, .ref g5, .int mo, .ref g6, .int ml, .ref g7, .ref g8, .ref g9, .ref g10, .ref g11, .ref g12]))]) [0] (by decide) rfl).weaken (fun _ _ _ _ => trivial)⟩⟩ rfl rfl hl.1 rfl (lv_room (Nat.le_of_ble_eq_true rfl)) dX7_dual_78 ⟨Nat.le_of_ble_eq_true rfl, Nat.le_of_ble_eq_true rfl⟩) hS hP hD (fun (u : Unit) => [(m0, .inr (7, [.int (nI n), .ref g1, .ref g2, .ref g3, .int (nI (c0 + 1)), .ref g4, .int my, .ref g5, .int mo, .ref g6, .int ml, .ref g7, .ref g8, .ref g9, .ref g10, .ref g11, .ref g12])), (g4, .inl (cZ, 20480, .inl us))]) [0] [1] rfl rfl (fun _ => rfl) (fun _ => rfl) (fun _ => rfl) (fun _ => rfl) (by decide) (by decide) (fun r7 u7 H locs w7r hP hD hS => ?_)
              have hP : va_P D vwCl [(m0, .inr (7, [.int (nI n), .ref g1, .ref g2, .ref g3, .int (nI (c0 + 1)), .ref g4, .int my, .ref g5, .int mo, .ref g6, .int ml, .ref g7, .ref g8, .ref g9, .ref g10, .ref g11, .ref g12])), (g4, .inl (cZ, 20480, .inl us))] H := hP
              have hD : va_D (aA as) [(m0, .inr (7, [.int (nI n), .ref g1, .ref g2, .ref g3, .int (nI (c0 + 1)), .ref g4, .int my, .ref g5, .int mo, .ref g6, .int ml, .ref g7, .ref g8, .ref g9, .ref g10, .ref g11, .ref g12])), (g4, .inl (cZ, 20480, .inl us))] := hD
              have w7 : r7 = nI c0 := w7r
              clear w7r
              rw [← hQ]
              exact W.iret (v := r7) hx hb hr (fun tS htS hWS => ⟨⟨r7, (nI (c0 + 1), us), rfl, Or.inl ⟨by assumption, by omega, rfl, by assumption, by have e9 : k = 2 ^ n := (by omega); rw [e9] at hR; exact hR⟩, m_at htS hP⟩, by rw [← has]; exact hS.F htS⟩) (by rw [← has]; exact hS.2.2) dX7_dual_81
            · skip
              have d6 := c6
              rw [nI_leI (by omega) (by omega)] at d6
              refine lv_aload_n hx hb dX7_dual_29 rfl (lv_at hl 1 rfl) ?_
              refine va_get (D := D) (ci := 7) (v := .ref g4) (C := RX7) (T := TX7) (N := 17) hx hb hts hiX7 hown hK hP 0 rfl rfl 5 (by decide) hf23 (fun _ h9 => h9) rfl dX7_dual_30 ?_
              refine lv_sipush (v := nI 512) hx hb dX7_dual_33 (by decide) ?_
              refine lv_aload_n hx hb dX7_dual_36 rfl (lv_at hl 1 rfl) ?_
              refine va_get (D := D) (ci := 7) (v := .int (nI c0)) (C := RX7) (T := TX7) (N := 17) hx hb hts hiX7 hown hK hP 0 rfl rfl 4 (by decide) hf59 (fun _ h9 => h9) rfl dX7_dual_37 ?_
              refine lv_imul hx hb dX7_dual_40 ?_
              refine cn_i (y := nI (512 * c0)) (pk_mul 512 c0) ?_
              refine lv_iload_n hx hb dX7_dual_41 rfl (lv_at hl 0 rfl) ?_
              refine lv_iadd hx hb dX7_dual_42 ?_
              refine cn_i (y := nI ((512 * c0) + k)) (nI_add (512 * c0) k) ?_
              refine lv_aload_n hx hb dX7_dual_43 rfl (lv_at hl 1 rfl) ?_
              refine va_get (D := D) (ci := 7) (v := .ref g4) (C := RX7) (T := TX7) (N := 17) hx hb hts hiX7 hown hK hP 0 rfl rfl 5 (by decide) hf23 (fun _ h9 => h9) rfl dX7_dual_44 ?_
              refine lv_sipush (v := nI 512) hx hb dX7_dual_47 (by decide) ?_
              refine lv_iload_n hx hb dX7_dual_50 rfl (lv_at hl 2 rfl) ?_
              refine lv_imul hx hb dX7_dual_51 ?_
              refine cn_i (y := nI (512 * j9)) (pk_mul 512 j9) ?_
              refine lv_aload_n hx hb dX7_dual_52 rfl (lv_at hl 1 rfl) ?_
              refine pu_i (va_runV (As := []) (rest := [.int (nI (512 * j9)), .ref g4, .int (nI ((512 * c0) + k)), .ref g4]) ⟨hx, hb, hml, hown, hts⟩ (c_X7_settings l D cI cJ cZ m0 g1 g2 g3 g4 g5 g6 g7 g8 g9 g10 g11 g12 n (nI c0) my mo ml (by first | assumption | omega)) (cwV 0 hts gX7_dual_X7_settings rfl rfl rfl (by decide +kernel) ⟨Nat.le_of_ble_eq_true rfl, Nat.le_of_ble_eq_true rfl⟩) ⟨pc_blind, va_recv hK hP (ci := 7) (q0 := 0) rfl rfl, fun U hU hW => ⟨rfl, by rw [hU]; exact hP.sub (ws' := [(m0, .inr (7, [.int (nI n), .ref g1, .ref g2, .ref g3, .int (nI c0), .ref g4, .int my, .ref g5, .int mo, .ref g6, .int ml, .ref g7, .ref g8, .ref g9, .ref g10, .ref g11, .ref g12]))]) [0] rfl, hKN.warm hW⟩⟩ rfl rfl hl.1 rfl (lv_room (Nat.le_of_ble_eq_true rfl)) dX7_dual_53 ⟨Nat.le_of_ble_eq_true rfl, Nat.le_of_ble_eq_true rfl⟩) hS hP (fun r8 H locs w8r hP hS => ?_)
              have w8 : r8 = nI (2 ^ n) := w8r
              clear w8r
              obtain rfl : r8 = nI (2 ^ n) := w8
              refine lv_iadd hx hb dX7_dual_56 ?_
              refine cn_i (y := nI ((512 * j9) + (2 ^ n))) (nI_add (512 * j9) (2 ^ n)) ?_
              refine lv_iconst (v := nI 1) hx hb dX7_dual_57 (by decide) ?_
              refine lv_isub hx hb dX7_dual_58 ?_
              refine cn_i (y := nI (((512 * j9) + (2 ^ n)) - 1)) (pk_sub (a := ((512 * j9) + (2 ^ n))) (b := 1) (by omega)) ?_
              refine lv_iload_n hx hb dX7_dual_59 rfl (lv_at hl 0 rfl) ?_
              refine lv_isub hx hb dX7_dual_60 ?_
              refine cn_i (y := nI ((((512 * j9) + (2 ^ n)) - 1) - k)) (pk_sub (a := (((512 * j9) + (2 ^ n)) - 1)) (b := k) (by omega)) ?_
              refine va_zald hx hb hK hP 1 2 rfl rfl (i := nI ((((512 * j9) + (2 ^ n)) - 1) - k)) (vp_in_nI (by omega) (by omega)) dX7_dual_61 ?_
              refine cn_i (y := us ((((512 * j9) + (2 ^ n)) - 1) - k)) (congrArg us (nI_clamp (by omega))) ?_
              refine lv_if_ne (tgt := 69) hx hb dX7_dual_62 (by decide) (fun c9 => ?_) (fun c9 => ?_)
              · skip
                have hA9 : Sg fs j9 (2 ^ n - 1 - k) := by unfold Sg; rw [show 512 * j9 + (2 ^ n - 1 - k) = 512 * j9 + 2 ^ n - 1 - k by omega]; exact sg1 hT (hR.2 (512 * j9 + 2 ^ n - 1 - k) (by omega)) c9
                refine lv_iconst (v := nI 0) hx hb dX7_dual_69 (by decide) ?_
                refine va_zast hx hb hK hP hD hS 1 2 rfl rfl (i := nI ((512 * c0) + k)) (vp_in_nI (by omega) (by omega)) dX7_dual_70 (fun H locs hP hD hS => ?_)
                have hP : va_P D vwCl [(m0, .inr (7, [.int (nI n), .ref g1, .ref g2, .ref g3, .int (nI c0), .ref g4, .int my, .ref g5, .int mo, .ref g6, .int ml, .ref g7, .ref g8, .ref g9, .ref g10, .ref g11, .ref g12])), (g4, .inl (cZ, 20480, .inl (upd us (nI ((512 * c0) + k)).toNatClampNeg (vp_nar .boolean (nI 0)))))] H := hP
                have hD : va_D (aA as) [(m0, .inr (7, [.int (nI n), .ref g1, .ref g2, .ref g3, .int (nI c0), .ref g4, .int my, .ref g5, .int mo, .ref g6, .int ml, .ref g7, .ref g8, .ref g9, .ref g10, .ref g11, .ref g12])), (g4, .inl (cZ, 20480, .inl (upd us (nI ((512 * c0) + k)).toNatClampNeg (vp_nar .boolean (nI 0)))))] := hD
                rw [nI_clamp (n := ((512 * c0) + k)) (by omega)] at hP hD
                refine lv_iinc (v := nI (k + 1)) (lv' := [(2, .int (nI (k + 1))), (0, .ref m0), (1, .int (nI j9))]) hx hb dX7_dual_71 hl (k := 0) rfl (nI_1 k) (by decide) rfl (fun ls hl => ?_)
                refine lv_goto (tgt := 21) hx hb dX7_dual_74 (by decide) ?_
                exact ih4 (k + 1) (upd us ((512 * c0) + k) (vp_nar .boolean (nI 0))) _ _ _ (by omega) (m_u01 hT (by decide)) (by first | exact hR.yes (by show ¬ Sg fs (nI j9).toInt.toNat (2 ^ n - 1 - k); rw [m_tn (j := j9) (by omega)]; exact hA9) | exact hR.no (by show ¬ (¬ Sg fs (nI j9).toInt.toNat (2 ^ n - 1 - k)); rw [m_tn (j := j9) (by omega)]; exact fun g => g hA9)) hP hD hS (lv_sub hl [0, 1, 2] rfl)
              · skip
                have hA9 : ¬ Sg fs j9 (2 ^ n - 1 - k) := by unfold Sg; rw [show 512 * j9 + (2 ^ n - 1 - k) = 512 * j9 + 2 ^ n - 1 - k by omega]; exact sg0 (hR.2 (512 * j9 + 2 ^ n - 1 - k) (by omega)) c9
                refine lv_iconst (v := nI 1) hx hb dX7_dual_65 (by decide) ?_
                refine lv_goto (tgt := 70) hx hb dX7_dual_66 (by decide) ?_
                refine va_zast hx hb hK hP hD hS 1 2 rfl rfl (i := nI ((512 * c0) + k)) (vp_in_nI (by omega) (by omega)) dX7_dual_70 (fun H locs hP hD hS => ?_)
                have hP : va_P D vwCl [(m0, .inr (7, [.int (nI n), .ref g1, .ref g2, .ref g3, .int (nI c0), .ref g4, .int my, .ref g5, .int mo, .ref g6, .int ml, .ref g7, .ref g8, .ref g9, .ref g10, .ref g11, .ref g12])), (g4, .inl (cZ, 20480, .inl (upd us (nI ((512 * c0) + k)).toNatClampNeg (vp_nar .boolean (nI 1)))))] H := hP
                have hD : va_D (aA as) [(m0, .inr (7, [.int (nI n), .ref g1, .ref g2, .ref g3, .int (nI c0), .ref g4, .int my, .ref g5, .int mo, .ref g6, .int ml, .ref g7, .ref g8, .ref g9, .ref g10, .ref g11, .ref g12])), (g4, .inl (cZ, 20480, .inl (upd us (nI ((512 * c0) + k)).toNatClampNeg (vp_nar .boolean (nI 1)))))] := hD
                rw [nI_clamp (n := ((512 * c0) + k)) (by omega)] at hP hD
                refine lv_iinc (v := nI (k + 1)) (lv' := [(2, .int (nI (k + 1))), (0, .ref m0), (1, .int (nI j9))]) hx hb dX7_dual_71 hl (k := 0) rfl (nI_1 k) (by decide) rfl (fun ls hl => ?_)
                refine lv_goto (tgt := 21) hx hb dX7_dual_74 (by decide) ?_
                exact ih4 (k + 1) (upd us ((512 * c0) + k) (vp_nar .boolean (nI 1))) _ _ _ (by omega) (m_u01 hT (by decide)) (by first | exact hR.yes (by show ¬ Sg fs (nI j9).toInt.toNat (2 ^ n - 1 - k); rw [m_tn (j := j9) (by omega)]; exact hA9) | exact hR.no (by show ¬ (¬ Sg fs (nI j9).toInt.toNat (2 ^ n - 1 - k)); rw [m_tn (j := j9) (by omega)]; exact fun g => g hA9)) hP hD hS (lv_sub hl [0, 1, 2] rfl)
        exact loop4 (2 ^ n + 1) 0 fs _ _ _ (by omega) h01 (RK.nil fs c0 _) hP hD hS (lv_sub hl [0, 1, 2] rfl)
      · skip
        have d3 := c3
        rw [nI_eq (by omega) (by omega)] at d3
        refine lv_iconst (v := (-1 : Int32)) hx hb dX7_dual_17 (by decide) ?_
        rw [← hQ]
        exact W.iret (v := (-1 : Int32)) hx hb hr (fun tS htS hWS => ⟨⟨(-1 : Int32), (nI c0, fs), rfl, Or.inr ⟨rfl, by omega, rfl, rfl⟩, m_at htS hP⟩, by rw [← has]; exact hS.F htS⟩) (by rw [← has]; exact hS.2.2) dX7_dual_18
  · skip
    refine lv_if_eq (tgt := 17) hx hb dX7_dual_5 (by decide) (fun c10 => ?_) (fun c10 => ?_)
    · skip
      refine lv_iconst (v := (-1 : Int32)) hx hb dX7_dual_17 (by decide) ?_
      rw [← hQ]
      exact W.iret (v := (-1 : Int32)) hx hb hr (fun tS htS hWS => ⟨⟨(-1 : Int32), (nI c0, fs), rfl, Or.inr ⟨rfl, by omega, rfl, rfl⟩, m_at htS hP⟩, by rw [← has]; exact hS.F htS⟩) (by rw [← has]; exact hS.2.2) dX7_dual_18
    · exact absurd c10 (by first | decide | exact nz_lt (by omega) | exact fun h => h (nz_ge (by omega)))
def rm_c_X7_some_b : Room := { frames := 1, cells := 0, slots := 0, locals := 25 }
set_option maxHeartbeats 400000 in
set_option maxRecDepth 100000 in
theorem c_X7_some_b (l : Launch) (D : va_G) (cI cJ cZ : ClassId) (m0 : Nat) (g1 : Nat) (g2 : Nat) (g3 : Nat) (g4 : Nat) (g5 : Nat) (g6 : Nat) (g7 : Nat) (g8 : Nat) (g9 : Nat) (g10 : Nat) (g11 : Nat) (g12 : Nat) (n : Nat) (c0 : Nat) (my : Int32) (mo : Int32) (ml : Int32) (se : Int32) (wi : Int32) (kk : Int32) (wo : Int64) (fs : Nat → Int32) (hn : n ≤ 9) (h1n : 1 ≤ n) (hc : c0 ≤ 40) (h01 : T01 fs) : Met l yX7_some wsX7_some rm_c_X7_some_b (pm_ D cI cJ cZ [.ref m0, .int se, .long wo, .int wi, .int kk] [(m0, .inr (7, [.int (nI n), .ref g1, .ref g2, .ref g3, .int (nI c0), .ref g4, .int my, .ref g5, .int mo, .ref g6, .int ml, .ref g7, .ref g8, .ref g9, .ref g10, .ref g11, .ref g12])), (g4, .inl (cZ, 20480, .inl fs))]) (va_Qi (fun (r : Int32) (u : Int32 × (Nat → Int32)) => ADDB r c0 n fs (0 ≤ se.toInt ∧ se.toInt < (2 ^ n : Nat) ∧ 0 ≤ wo.toInt ∧ 0 ≤ wi.toInt ∧ wi.toInt ≤ 3 ∧ 0 ≤ kk.toInt ∧ kk.toInt ≤ 100 ∧ c0 < 40) u.1 u.2 (fun t => ¬ pf (wZ wo wi.toInt.toNat se) (nI t) n < kk)) (fun (u : Int32 × (Nat → Int32)) tS => va_P D vwCl [(m0, .inr (7, [.int (nI n), .ref g1, .ref g2, .ref g3, .int u.1, .ref g4, .int my, .ref g5, .int mo, .ref g6, .int ml, .ref g7, .ref g8, .ref g9, .ref g10, .ref g11, .ref g12])), (g4, .inl (cZ, 20480, .inl u.2))] tS.heap) (aA [m0, g4])) 0 0 (aA [m0, g4]) := by
  refine Met.ofW (cc := cX7_some) (maxL := 11) (ret := (some .int)) (by decide) rfl ?_
  intro p e s m args below meth c s₁ B hml hv
  obtain ⟨rfl, hP, hKN, hD0⟩ := hv
  have hK := hKN.1
  have hx := B.exec
  have hb := B.bytes
  have hr := B.returns
  have hts := atoms_spec (ws := wsX7_some) B.pre
  have hown : s.vm.findClass RX7 = some m.cls := findClass_of_methodNamed B.named
  have hlocks := B.notSynchronized
  have hiX7 : ∀ w ∈ wsX70, w ∈ wsX7_some := by decide +kernel
  have hf7 := hts (.fieldLink RX7 7 "LookBenchModel" "parts" "I") (by decide +kernel)
  have hf23 := hts (.fieldLink RX7 23 "LookBenchModel" "says" "[Z") (by decide +kernel)
  have hf59 := hts (.fieldLink RX7 59 "LookBenchModel" "rules" "I") (by decide +kernel)
  obtain ⟨as, has⟩ : ∃ z : List Nat, z = [m0, g4] := ⟨_, rfl⟩
  have hD := hD0.addr (as := as) (by rw [has]; rfl)
  have hS : va_S (aA as) s.heap s.heap [] := va_S.rf
  have hl := lv_entry ([.ref m0, .int se, .long wo, .int wi, .int kk]) (n := 11) (Nat.le_of_ble_eq_true rfl)
  rw [lg_entry_eq]
  generalize (lg_sl ([.ref m0, .int se, .long wo, .int wi, .int kk]) ++ List.replicate (11 - (lg_sl ([.ref m0, .int se, .long wo, .int wi, .int kk])).length) Slot.unset).toArray = ls at hl ⊢
  have hl : lv_has ls 11 [(0, .ref m0), (1, .int se), (2, .long wo), (4, .int wi), (5, .int kk)] := hl
  generalize hQ : MQ below _ _ s _ _ _ = Q
  obtain ⟨H, hH⟩ : ∃ z, z = s.heap := ⟨_, rfl⟩
  have hP : va_P D vwCl [(m0, .inr (7, [.int (nI n), .ref g1, .ref g2, .ref g3, .int (nI c0), .ref g4, .int my, .ref g5, .int mo, .ref g6, .int ml, .ref g7, .ref g8, .ref g9, .ref g10, .ref g11, .ref g12])), (g4, .inl (cZ, 20480, .inl fs))] H := by rw [hH]; exact hP
  have hS : va_S (aA as) s.heap H [] := by rw [hH]; exact hS
  refine m_heap hH ?_
  clear hH
  have h2n := m_pow hn
  have h2p := m_powp n
  refine lv_iload_n hx hb dX7_some_0 rfl (lv_at hl 1 rfl) ?_
  refine lv_i2l hx hb dX7_some_1 rfl ?_
  refine lv_lconst (v := lN 0) hx hb dX7_some_2 (by decide) ?_
  refine lv_aload_n hx hb dX7_some_3 rfl (lv_at hl 0 rfl) ?_
  refine pu_i (va_runV (As := []) (rest := [.long (lN 0), .long se.toInt64]) ⟨hx, hb, hml, hown, hts⟩ (c_X7_settings l D cI cJ cZ m0 g1 g2 g3 g4 g5 g6 g7 g8 g9 g10 g11 g12 n (nI c0) my mo ml (by first | assumption | omega)) (cwV 0 hts gX7_some_X7_settings rfl rfl rfl (by decide +kernel) ⟨Nat.le_of_ble_eq_true rfl, Nat.le_of_ble_eq_true rfl⟩) ⟨pc_blind, va_recv hK hP (ci := 7) (q0 := 0) rfl rfl, fun U hU hW => ⟨rfl, by rw [hU]; exact hP.sub (ws' := [(m0, .inr (7, [.int (nI n), .ref g1, .ref g2, .ref g3, .int (nI c0), .ref g4, .int my, .ref g5, .int mo, .ref g6, .int ml, .ref g7, .ref g8, .ref g9, .ref g10, .ref g11, .ref g12]))]) [0] rfl, hKN.warm hW⟩⟩ rfl rfl hl.1 rfl (lv_room (Nat.le_of_ble_eq_true rfl)) dX7_some_4 ⟨Nat.le_of_ble_eq_true rfl, Nat.le_of_ble_eq_true rfl⟩) hS hP (fun r1 H locs w1r hP hS => ?_)
  have w1 : r1 = nI (2 ^ n) := w1r
  clear w1r
  obtain rfl : r1 = nI (2 ^ n) := w1
  refine lv_iconst (v := nI 1) hx hb dX7_some_7 (by decide) ?_
  refine lv_isub hx hb dX7_some_8 ?_
  refine cn_i (y := nI ((2 ^ n) - 1)) (pk_sub (a := (2 ^ n)) (b := 1) (by omega)) ?_
  refine lv_i2l hx hb dX7_some_9 rfl ?_
  refine cn_l (y := lN ((2 ^ n) - 1)) (nI_l (by omega)) ?_
  refine pu_i (va_runS (As := [.long se.toInt64, .long (lN 0), .long (lN ((2 ^ n) - 1))]) (rest := []) ⟨hx, hb, hml, hown, hts⟩ (c_X7_in l D cI cJ cZ se.toInt64 (lN 0) (lN ((2 ^ n) - 1))) (va_cwS 3 hts gX7_some_X7_in rfl rfl rfl (by decide +kernel) ⟨Nat.le_of_ble_eq_true rfl, Nat.le_of_ble_eq_true rfl⟩) ⟨pc_blind, fun U hU hW => ⟨rfl, by rw [hU]; exact hP.sub (ws' := []) [] rfl, hKN.warm hW⟩⟩ rfl rfl hl.1 rfl (lv_room (Nat.le_of_ble_eq_true rfl)) dX7_some_10 ⟨Nat.le_of_ble_eq_true rfl, Nat.le_of_ble_eq_true rfl⟩) hS hP (fun r2 H locs w2r hP hS => ?_)
  have w2 : B01 r2 ((lN 0).toInt ≤ se.toInt64.toInt ∧ se.toInt64.toInt ≤ (lN ((2 ^ n) - 1)).toInt) := w2r
  clear w2r
  rw [lN_toInt (n := 0) (by omega), j2 se, lN_toInt (n := ((2 ^ n) - 1)) (by omega)] at w2
  rcases w2 with ⟨rfl, w2⟩ | ⟨rfl, w2⟩
  · skip
    refine lv_if_eq (tgt := 57) hx hb dX7_some_13 (by decide) (fun c3 => ?_) (fun c3 => ?_)
    · exact absurd c3 (by first | decide | exact nz_lt (by omega) | exact fun h => h (nz_ge (by omega)))
    · skip
      refine lv_iload hx hb dX7_some_16 (lv_at hl 3 rfl) ?_
      refine lv_i2l hx hb dX7_some_18 rfl ?_
      refine lv_lconst (v := lN 0) hx hb dX7_some_19 (by decide) ?_
      refine lv_ldc2 (v := lN 3) hx hb hown (hts (.constantLong RX7 86 (lN 3)) (by decide +kernel)) dX7_some_20 ?_
      refine pu_i (va_runS (As := [.long wi.toInt64, .long (lN 0), .long (lN 3)]) (rest := []) ⟨hx, hb, hml, hown, hts⟩ (c_X7_in l D cI cJ cZ wi.toInt64 (lN 0) (lN 3)) (va_cwS 3 hts gX7_some_X7_in rfl rfl rfl (by decide +kernel) ⟨Nat.le_of_ble_eq_true rfl, Nat.le_of_ble_eq_true rfl⟩) ⟨pc_blind, fun U hU hW => ⟨rfl, by rw [hU]; exact hP.sub (ws' := []) [] rfl, hKN.warm hW⟩⟩ rfl rfl hl.1 rfl (lv_room (Nat.le_of_ble_eq_true rfl)) dX7_some_23 ⟨Nat.le_of_ble_eq_true rfl, Nat.le_of_ble_eq_true rfl⟩) hS hP (fun r4 H locs w4r hP hS => ?_)
      have w4 : B01 r4 ((lN 0).toInt ≤ wi.toInt64.toInt ∧ wi.toInt64.toInt ≤ (lN 3).toInt) := w4r
      clear w4r
      rw [lN_toInt (n := 0) (by omega), j2 wi, lN_toInt (n := 3) (by omega)] at w4
      rcases w4 with ⟨rfl, w4⟩ | ⟨rfl, w4⟩
      · skip
        refine lv_if_eq (tgt := 57) hx hb dX7_some_26 (by decide) (fun c5 => ?_) (fun c5 => ?_)
        · exact absurd c5 (by first | decide | exact nz_lt (by omega) | exact fun h => h (nz_ge (by omega)))
        · skip
          refine lv_iload hx hb dX7_some_29 (lv_at hl 4 rfl) ?_
          refine lv_i2l hx hb dX7_some_31 rfl ?_
          refine lv_lconst (v := lN 0) hx hb dX7_some_32 (by decide) ?_
          refine lv_ldc2 (v := lN 100) hx hb hown (hts (.constantLong RX7 88 (lN 100)) (by decide +kernel)) dX7_some_33 ?_
          refine pu_i (va_runS (As := [.long kk.toInt64, .long (lN 0), .long (lN 100)]) (rest := []) ⟨hx, hb, hml, hown, hts⟩ (c_X7_in l D cI cJ cZ kk.toInt64 (lN 0) (lN 100)) (va_cwS 3 hts gX7_some_X7_in rfl rfl rfl (by decide +kernel) ⟨Nat.le_of_ble_eq_true rfl, Nat.le_of_ble_eq_true rfl⟩) ⟨pc_blind, fun U hU hW => ⟨rfl, by rw [hU]; exact hP.sub (ws' := []) [] rfl, hKN.warm hW⟩⟩ rfl rfl hl.1 rfl (lv_room (Nat.le_of_ble_eq_true rfl)) dX7_some_36 ⟨Nat.le_of_ble_eq_true rfl, Nat.le_of_ble_eq_true rfl⟩) hS hP (fun r6 H locs w6r hP hS => ?_)
          have w6 : B01 r6 ((lN 0).toInt ≤ kk.toInt64.toInt ∧ kk.toInt64.toInt ≤ (lN 100).toInt) := w6r
          clear w6r
          rw [lN_toInt (n := 0) (by omega), j2 kk, lN_toInt (n := 100) (by omega)] at w6
          rcases w6 with ⟨rfl, w6⟩ | ⟨rfl, w6⟩
          · skip
            refine lv_if_eq (tgt := 57) hx hb dX7_some_39 (by decide) (fun c7 => ?_) (fun c7 => ?_)
            · exact absurd c7 (by first | decide | exact nz_lt (by omega) | exact fun h => h (nz_ge (by omega)))
            · skip
              refine lv_lload_n hx hb dX7_some_42 rfl (lv_at hl 2 rfl) ?_
              refine lv_lconst (v := lN 0) hx hb dX7_some_43 (by decide) ?_
              refine W.lcmp hx hb dX7_some_44 ?_
              refine lv_if_lt (tgt := 57) hx hb dX7_some_45 (by decide) (fun c8 => ?_) (fun c8 => ?_)
              · skip
                have d8 := c8
                rw [lc_lt, j_lt, lN_toInt (n := 0) (by omega)] at d8
                refine lv_iconst (v := (-1 : Int32)) hx hb dX7_some_57 (by decide) ?_
                rw [← hQ]
                exact W.iret (v := (-1 : Int32)) hx hb hr (fun tS htS hWS => ⟨⟨(-1 : Int32), (nI c0, fs), rfl, Or.inr ⟨rfl, by omega, rfl, rfl⟩, m_at htS hP⟩, by rw [← has]; exact hS.F htS⟩) (by rw [← has]; exact hS.2.2) dX7_some_58
              · skip
                have d8 := c8
                rw [lc_lt, j_lt, lN_toInt (n := 0) (by omega)] at d8
                refine lv_aload_n hx hb dX7_some_48 rfl (lv_at hl 0 rfl) ?_
                refine va_get (D := D) (ci := 7) (v := .int (nI c0)) (C := RX7) (T := TX7) (N := 17) hx hb hts hiX7 hown hK hP 0 rfl rfl 4 (by decide) hf59 (fun _ h9 => h9) rfl dX7_some_49 ?_
                refine lv_bipush (v := nI 40) hx hb dX7_some_52 (by decide) ?_
                refine lv_icmp_ne (tgt := 59) hx hb dX7_some_54 (by decide) (fun c9 => ?_) (fun c9 => ?_)
                · skip
                  have d9 := c9
                  rw [nI_eq (by omega) (by omega)] at d9
                  obtain ⟨w9, hw9, rfl⟩ := m_nat (x := wi) (n := 4) (by omega)
                  refine lv_iconst (v := nI 0) hx hb dX7_some_59 (by decide) ?_
                  refine lv_istore (lv' := [(6, .int (nI 0)), (0, .ref m0), (1, .int se), (2, .long wo), (4, .int (nI w9)), (5, .int kk)]) hx hb dX7_some_60 hl (by decide) rfl (fun ls hl => ?_)
                  have loop10 : ∀ (fu : Nat) (k : Nat) (us : Nat → Int32) (H : Heap) (locs : List Loc) (ls : Array Slot), (k ≤ 2 ^ n ∧ 2 ^ n < k + fu) → (T01 us) → (RK fs us c0 k (fun t => ¬ pf (wZ wo (nI w9).toInt.toNat se) (nI t) n < kk)) → va_P D vwCl [(m0, .inr (7, [.int (nI n), .ref g1, .ref g2, .ref g3, .int (nI c0), .ref g4, .int my, .ref g5, .int mo, .ref g6, .int ml, .ref g7, .ref g8, .ref g9, .ref g10, .ref g11, .ref g12])), (g4, .inl (cZ, 20480, .inl us))] H → va_D (aA as) [(m0, .inr (7, [.int (nI n), .ref g1, .ref g2, .ref g3, .int (nI c0), .ref g4, .int my, .ref g5, .int mo, .ref g6, .int ml, .ref g7, .ref g8, .ref g9, .ref g10, .ref g11, .ref g12])), (g4, .inl (cZ, 20480, .inl us))] → va_S (aA as) s.heap H locs → lv_has ls 11 [(6, .int (nI k)), (0, .ref m0), (1, .int se), (2, .long wo), (4, .int (nI w9)), (5, .int kk)] → W p l e (headSpec wsX7_some rm_c_X7_some_b).room s m ([.ref m0, .int se, .long wo, .int (nI w9), .int kk] : List Value).toArray below meth c H locs 0 0 Q (F0 m 62 ls []) := by
                    intro fu
                    induction fu with
                    | zero => intro k us H locs ls hk hT hR; exact absurd hk (by omega)
                    | succ fu ih10 =>
                      intro k us H locs ls hk hT hR hP hD hS hl
                      refine lv_iload hx hb dX7_some_62 (lv_at hl 0 rfl) ?_
                      refine lv_aload_n hx hb dX7_some_64 rfl (lv_at hl 1 rfl) ?_
                      refine pu_i (va_runV (As := []) (rest := [.int (nI k)]) ⟨hx, hb, hml, hown, hts⟩ (c_X7_settings l D cI cJ cZ m0 g1 g2 g3 g4 g5 g6 g7 g8 g9 g10 g11 g12 n (nI c0) my mo ml (by first | assumption | omega)) (cwV 0 hts gX7_some_X7_settings rfl rfl rfl (by decide +kernel) ⟨Nat.le_of_ble_eq_true rfl, Nat.le_of_ble_eq_true rfl⟩) ⟨pc_blind, va_recv hK hP (ci := 7) (q0 := 0) rfl rfl, fun U hU hW => ⟨rfl, by rw [hU]; exact hP.sub (ws' := [(m0, .inr (7, [.int (nI n), .ref g1, .ref g2, .ref g3, .int (nI c0), .ref g4, .int my, .ref g5, .int mo, .ref g6, .int ml, .ref g7, .ref g8, .ref g9, .ref g10, .ref g11, .ref g12]))]) [0] rfl, hKN.warm hW⟩⟩ rfl rfl hl.1 rfl (lv_room (Nat.le_of_ble_eq_true rfl)) dX7_some_65 ⟨Nat.le_of_ble_eq_true rfl, Nat.le_of_ble_eq_true rfl⟩) hS hP (fun r11 H locs w11r hP hS => ?_)
                      have w11 : r11 = nI (2 ^ n) := w11r
                      clear w11r
                      obtain rfl : r11 = nI (2 ^ n) := w11
                      refine lv_icmp_ge (tgt := 193) hx hb dX7_some_68 (by decide) (fun c12 => ?_) (fun c12 => ?_)
                      · skip
                        have d12 := c12
                        rw [nI_leI (by omega) (by omega)] at d12
                        refine lv_aload_n hx hb dX7_some_193 rfl (lv_at hl 1 rfl) ?_
                        refine mu_i (n := 2) (wc := [(m0, .inr (7, [.int (nI n), .ref g1, .ref g2, .ref g3, .int (nI c0), .ref g4, .int my, .ref g5, .int mo, .ref g6, .int ml, .ref g7, .ref g8, .ref g9, .ref g10, .ref g11, .ref g12]))]) (va_runV (As := []) (rest := []) ⟨hx, hb, hml, hown, hts⟩ (c_X7_added l D cI cJ cZ m0 g1 g2 g3 g4 g5 g6 g7 g8 g9 g10 g11 g12 c0 (nI n) my mo ml (by first | assumption | omega)) (cwV 0 hts gX7_some_X7_added rfl rfl rfl (by decide +kernel) ⟨Nat.le_of_ble_eq_true rfl, Nat.le_of_ble_eq_true rfl⟩) ⟨pm_blind, va_recv hK hP (ci := 7) (q0 := 0) rfl rfl, fun U hU hW => ⟨rfl, by rw [hU]; exact hP.sub (ws' := [(m0, .inr (7, [.int (nI n), .ref g1, .ref g2, .ref g3, .int (nI c0), .ref g4, .int my, .ref g5, .int mo, .ref g6, .int ml, .ref g7, .ref g8, .ref g9, .ref g10, .ref g11, .ref g12]))]) [0] rfl, hKN.warm hW, (hD.sub (ws' := [(m0, .inr (7, [.int (nI n), .ref g1, .ref g2, .ref g3, .int (nI c0), .ref g4, .int my, .ref g5, .int mo, .ref g6, .int ml, .ref g7, .ref g8, .ref g9, .ref g10, .ref g11, .ref g12]))]) [0] (by decide) rfl).weaken (fun _ _ _ _ => trivial)⟩⟩ rfl rfl hl.1 rfl (lv_room (Nat.le_of_ble_eq_true rfl)) dX7_some_194 ⟨Nat.le_of_ble_eq_true rfl, Nat.le_of_ble_eq_true rfl⟩) hS hP hD (fun (u : Unit) => [(m0, .inr (7, [.int (nI n), .ref g1, .ref g2, .ref g3, .int (nI (c0 + 1)), .ref g4, .int my, .ref g5, .int mo, .ref g6, .int ml, .ref g7, .ref g8, .ref g9, .ref g10, .ref g11, .ref g12])), (g4, .inl (cZ, 20480, .inl us))]) [0] [1] rfl rfl (fun _ => rfl) (fun _ => rfl) (fun _ => rfl) (fun _ => rfl) (by decide) (by decide) (fun r13 u13 H locs w13r hP hD hS => ?_)
                        have hP : va_P D vwCl [(m0, .inr (7, [.int (nI n), .ref g1, .ref g2, .ref g3, .int (nI (c0 + 1)), .ref g4, .int my, .ref g5, .int mo, .ref g6, .int ml, .ref g7, .ref g8, .ref g9, .ref g10, .ref g11, .ref g12])), (g4, .inl (cZ, 20480, .inl us))] H := hP
                        have hD : va_D (aA as) [(m0, .inr (7, [.int (nI n), .ref g1, .ref g2, .ref g3, .int (nI (c0 + 1)), .ref g4, .int my, .ref g5, .int mo, .ref g6, .int ml, .ref g7, .ref g8, .ref g9, .ref g10, .ref g11, .ref g12])), (g4, .inl (cZ, 20480, .inl us))] := hD
                        have w13 : r13 = nI c0 := w13r
                        clear w13r
                        rw [← hQ]
                        exact W.iret (v := r13) hx hb hr (fun tS htS hWS => ⟨⟨r13, (nI (c0 + 1), us), rfl, Or.inl ⟨by assumption, by omega, rfl, by assumption, by have e9 : k = 2 ^ n := (by omega); rw [e9] at hR; exact hR⟩, m_at htS hP⟩, by rw [← has]; exact hS.F htS⟩) (by rw [← has]; exact hS.2.2) dX7_some_197
                      · skip
                        have d12 := c12
                        rw [nI_leI (by omega) (by omega)] at d12
                        refine lv_iconst (v := nI 0) hx hb dX7_some_71 (by decide) ?_
                        refine lv_istore (lv' := [(7, .int (nI 0)), (6, .int (nI k)), (0, .ref m0), (1, .int se), (2, .long wo), (4, .int (nI w9)), (5, .int kk)]) hx hb dX7_some_72 hl (by decide) rfl (fun ls hl => ?_)
                        refine lv_iconst (v := nI 0) hx hb dX7_some_74 (by decide) ?_
                        refine lv_istore (lv' := [(8, .int (nI 0)), (7, .int (nI 0)), (6, .int (nI k)), (0, .ref m0), (1, .int se), (2, .long wo), (4, .int (nI w9)), (5, .int kk)]) hx hb dX7_some_75 hl (by decide) rfl (fun ls hl => ?_)
                        refine lv_iconst (v := nI 0) hx hb dX7_some_77 (by decide) ?_
                        refine lv_istore (lv' := [(9, .int (nI 0)), (8, .int (nI 0)), (7, .int (nI 0)), (6, .int (nI k)), (0, .ref m0), (1, .int se), (2, .long wo), (4, .int (nI w9)), (5, .int kk)]) hx hb dX7_some_78 hl (by decide) rfl (fun ls hl => ?_)
                        have loop14 : ∀ (fu : Nat) (k2 : Nat) (v7 : Int32) (v8 : Nat) (H : Heap) (locs : List Loc) (ls : Array Slot), (k2 ≤ n ∧ n < k2 + fu) → (v7 = pf (wZ wo w9 se) (nI k) k2) → (v8 = w9 * cnB se k2) → va_P D vwCl [(m0, .inr (7, [.int (nI n), .ref g1, .ref g2, .ref g3, .int (nI c0), .ref g4, .int my, .ref g5, .int mo, .ref g6, .int ml, .ref g7, .ref g8, .ref g9, .ref g10, .ref g11, .ref g12])), (g4, .inl (cZ, 20480, .inl us))] H → va_D (aA as) [(m0, .inr (7, [.int (nI n), .ref g1, .ref g2, .ref g3, .int (nI c0), .ref g4, .int my, .ref g5, .int mo, .ref g6, .int ml, .ref g7, .ref g8, .ref g9, .ref g10, .ref g11, .ref g12])), (g4, .inl (cZ, 20480, .inl us))] → va_S (aA as) s.heap H locs → lv_has ls 11 [(9, .int (nI k2)), (8, .int (nI v8)), (7, .int v7), (6, .int (nI k)), (0, .ref m0), (1, .int se), (2, .long wo), (4, .int (nI w9)), (5, .int kk)] → W p l e (headSpec wsX7_some rm_c_X7_some_b).room s m ([.ref m0, .int se, .long wo, .int (nI w9), .int kk] : List Value).toArray below meth c H locs 0 0 Q (F0 m 80 ls []) := by
                          intro fu
                          induction fu with
                          | zero => intro k2 v7 v8 H locs ls hk2 hv7 hv8; exact absurd hk2 (by omega)
                          | succ fu ih14 =>
                            intro k2 v7 v8 H locs ls hk2 hv7 hv8 hP hD hS hl
                            have hs1 := sb_lt se k2
                            have hcn := cnB_le se k2
                            have hwc : w9 * cnB se k2 ≤ 3 * 9 := Nat.mul_le_mul (by omega) (by omega)
                            have hbk := mb_sb (a := k) (j := k2) (by omega) (by omega)
                            refine lv_iload hx hb dX7_some_80 (lv_at hl 0 rfl) ?_
                            refine lv_aload_n hx hb dX7_some_82 rfl (lv_at hl 4 rfl) ?_
                            refine va_get (D := D) (ci := 7) (v := .int (nI n)) (C := RX7) (T := TX7) (N := 17) hx hb hts hiX7 hown hK hP 0 rfl rfl 0 (by decide) hf7 (fun _ h9 => h9) rfl dX7_some_83 ?_
                            refine lv_icmp_ge (tgt := 159) hx hb dX7_some_86 (by decide) (fun c15 => ?_) (fun c15 => ?_)
                            · skip
                              have d15 := c15
                              rw [nI_leI (by omega) (by omega)] at d15
                              refine lv_aload_n hx hb dX7_some_159 rfl (lv_at hl 4 rfl) ?_
                              refine va_get (D := D) (ci := 7) (v := .ref g4) (C := RX7) (T := TX7) (N := 17) hx hb hts hiX7 hown hK hP 0 rfl rfl 5 (by decide) hf23 (fun _ h9 => h9) rfl dX7_some_160 ?_
                              refine lv_sipush (v := nI 512) hx hb dX7_some_163 (by decide) ?_
                              refine lv_aload_n hx hb dX7_some_166 rfl (lv_at hl 4 rfl) ?_
                              refine va_get (D := D) (ci := 7) (v := .int (nI c0)) (C := RX7) (T := TX7) (N := 17) hx hb hts hiX7 hown hK hP 0 rfl rfl 4 (by decide) hf59 (fun _ h9 => h9) rfl dX7_some_167 ?_
                              refine lv_imul hx hb dX7_some_170 ?_
                              refine cn_i (y := nI (512 * c0)) (pk_mul 512 c0) ?_
                              refine lv_iload hx hb dX7_some_171 (lv_at hl 3 rfl) ?_
                              refine lv_iadd hx hb dX7_some_173 ?_
                              refine cn_i (y := nI ((512 * c0) + k)) (nI_add (512 * c0) k) ?_
                              refine lv_iload hx hb dX7_some_174 (lv_at hl 2 rfl) ?_
                              refine lv_iload hx hb dX7_some_176 (lv_at hl 8 rfl) ?_
                              refine lv_icmp_lt (tgt := 185) hx hb dX7_some_178 (by decide) (fun c16 => ?_) (fun c16 => ?_)
                              · skip
                                have hlt := c16
                                rw [hv7, show k2 = n by omega] at hlt
                                refine lv_iconst (v := nI 0) hx hb dX7_some_185 (by decide) ?_
                                refine va_zast hx hb hK hP hD hS 1 2 rfl rfl (i := nI ((512 * c0) + k)) (vp_in_nI (by omega) (by omega)) dX7_some_186 (fun H locs hP hD hS => ?_)
                                have hP : va_P D vwCl [(m0, .inr (7, [.int (nI n), .ref g1, .ref g2, .ref g3, .int (nI c0), .ref g4, .int my, .ref g5, .int mo, .ref g6, .int ml, .ref g7, .ref g8, .ref g9, .ref g10, .ref g11, .ref g12])), (g4, .inl (cZ, 20480, .inl (upd us (nI ((512 * c0) + k)).toNatClampNeg (vp_nar .boolean (nI 0)))))] H := hP
                                have hD : va_D (aA as) [(m0, .inr (7, [.int (nI n), .ref g1, .ref g2, .ref g3, .int (nI c0), .ref g4, .int my, .ref g5, .int mo, .ref g6, .int ml, .ref g7, .ref g8, .ref g9, .ref g10, .ref g11, .ref g12])), (g4, .inl (cZ, 20480, .inl (upd us (nI ((512 * c0) + k)).toNatClampNeg (vp_nar .boolean (nI 0)))))] := hD
                                rw [nI_clamp (n := ((512 * c0) + k)) (by omega)] at hP hD
                                refine lv_iinc (v := nI (k + 1)) (lv' := [(6, .int (nI (k + 1))), (9, .int (nI k2)), (8, .int (nI v8)), (7, .int v7), (0, .ref m0), (1, .int se), (2, .long wo), (4, .int (nI w9)), (5, .int kk)]) hx hb dX7_some_187 hl (k := 3) rfl (nI_1 k) (by decide) rfl (fun ls hl => ?_)
                                refine lv_goto (tgt := 62) hx hb dX7_some_190 (by decide) ?_
                                exact ih10 (k + 1) (upd us ((512 * c0) + k) (vp_nar .boolean (nI 0))) _ _ _ (by omega) (m_u01 hT (by decide)) (by first | exact hR.yes (by show ¬ pf (wZ wo (nI w9).toInt.toNat se) (nI k) n < kk; rw [m_tn (j := w9) (by omega)]; exact hlt) | exact hR.no (by show ¬ (¬ pf (wZ wo (nI w9).toInt.toNat se) (nI k) n < kk); rw [m_tn (j := w9) (by omega)]; exact fun g => g hlt)) hP hD hS (lv_sub hl [0, 4, 5, 6, 7, 8] rfl)
                              · skip
                                have hlt := c16
                                rw [hv7, show k2 = n by omega] at hlt
                                refine lv_iconst (v := nI 1) hx hb dX7_some_181 (by decide) ?_
                                refine lv_goto (tgt := 186) hx hb dX7_some_182 (by decide) ?_
                                refine va_zast hx hb hK hP hD hS 1 2 rfl rfl (i := nI ((512 * c0) + k)) (vp_in_nI (by omega) (by omega)) dX7_some_186 (fun H locs hP hD hS => ?_)
                                have hP : va_P D vwCl [(m0, .inr (7, [.int (nI n), .ref g1, .ref g2, .ref g3, .int (nI c0), .ref g4, .int my, .ref g5, .int mo, .ref g6, .int ml, .ref g7, .ref g8, .ref g9, .ref g10, .ref g11, .ref g12])), (g4, .inl (cZ, 20480, .inl (upd us (nI ((512 * c0) + k)).toNatClampNeg (vp_nar .boolean (nI 1)))))] H := hP
                                have hD : va_D (aA as) [(m0, .inr (7, [.int (nI n), .ref g1, .ref g2, .ref g3, .int (nI c0), .ref g4, .int my, .ref g5, .int mo, .ref g6, .int ml, .ref g7, .ref g8, .ref g9, .ref g10, .ref g11, .ref g12])), (g4, .inl (cZ, 20480, .inl (upd us (nI ((512 * c0) + k)).toNatClampNeg (vp_nar .boolean (nI 1)))))] := hD
                                rw [nI_clamp (n := ((512 * c0) + k)) (by omega)] at hP hD
                                refine lv_iinc (v := nI (k + 1)) (lv' := [(6, .int (nI (k + 1))), (9, .int (nI k2)), (8, .int (nI v8)), (7, .int v7), (0, .ref m0), (1, .int se), (2, .long wo), (4, .int (nI w9)), (5, .int kk)]) hx hb dX7_some_187 hl (k := 3) rfl (nI_1 k) (by decide) rfl (fun ls hl => ?_)
                                refine lv_goto (tgt := 62) hx hb dX7_some_190 (by decide) ?_
                                exact ih10 (k + 1) (upd us ((512 * c0) + k) (vp_nar .boolean (nI 1))) _ _ _ (by omega) (m_u01 hT (by decide)) (by first | exact hR.yes (by show ¬ pf (wZ wo (nI w9).toInt.toNat se) (nI k) n < kk; rw [m_tn (j := w9) (by omega)]; exact hlt) | exact hR.no (by show ¬ (¬ pf (wZ wo (nI w9).toInt.toNat se) (nI k) n < kk); rw [m_tn (j := w9) (by omega)]; exact fun g => g hlt)) hP hD hS (lv_sub hl [0, 4, 5, 6, 7, 8] rfl)
                            · skip
                              have d15 := c15
                              rw [nI_leI (by omega) (by omega)] at d15
                              refine lv_iload_n hx hb dX7_some_89 rfl (lv_at hl 5 rfl) ?_
                              refine lv_iload hx hb dX7_some_90 (lv_at hl 0 rfl) ?_
                              refine lv_ishr hx hb dX7_some_92 ?_
                              refine lv_iconst (v := nI 1) hx hb dX7_some_93 (by decide) ?_
                              refine lv_iand hx hb dX7_some_94 ?_
                              refine cn_i (y := nI (sb se k2)) (sb_ok se k2) ?_
                              refine lv_if_ne (tgt := 101) hx hb dX7_some_95 (by decide) (fun c17 => ?_) (fun c17 => ?_)
                              · skip
                                have d17 := c17
                                rw [nz_eq (by omega)] at d17
                                refine lv_iload hx hb dX7_some_101 (lv_at hl 7 rfl) ?_
                                refine lv_if_ne (tgt := 110) hx hb dX7_some_103 (by decide) (fun c18 => ?_) (fun c18 => ?_)
                                · skip
                                  have d18 := c18
                                  rw [nz_eq (by omega)] at d18
                                  refine lv_lload_n hx hb dX7_some_110 rfl (lv_at hl 6 rfl) ?_
                                  refine lv_iload hx hb dX7_some_111 (lv_at hl 1 rfl) ?_
                                  refine lv_lshr hx hb dX7_some_113 rfl ?_
                                  refine lv_lconst (v := lN 1) hx hb dX7_some_114 (by decide) ?_
                                  refine lv_iload hx hb dX7_some_115 (lv_at hl 7 rfl) ?_
                                  refine lv_lshl hx hb dX7_some_117 rfl ?_
                                  refine lv_lconst (v := lN 1) hx hb dX7_some_118 (by decide) ?_
                                  refine lv_lsub hx hb dX7_some_119 ?_
                                  refine lv_land hx hb dX7_some_120 ?_
                                  refine lv_l2i hx hb dX7_some_121 rfl ?_
                                  refine lv_istore (lv' := [(10, .int (((wo >>> ((nI v8).toInt64 &&& 63)) &&& (((lN 1) <<< ((nI w9).toInt64 &&& 63)) - (lN 1))).toInt32)), (9, .int (nI k2)), (8, .int (nI v8)), (7, .int v7), (6, .int (nI k)), (0, .ref m0), (1, .int se), (2, .long wo), (4, .int (nI w9)), (5, .int kk)]) hx hb dX7_some_122 hl (by decide) rfl (fun ls hl => ?_)
                                  refine lv_iload hx hb dX7_some_124 (lv_at hl 2 rfl) ?_
                                  refine lv_iload hx hb dX7_some_126 (lv_at hl 8 rfl) ?_
                                  refine lv_iadd hx hb dX7_some_128 ?_
                                  refine cn_i (y := nI (v8 + w9)) (nI_add v8 w9) ?_
                                  refine lv_istore (lv' := [(8, .int (nI (v8 + w9))), (10, .int (((wo >>> ((nI v8).toInt64 &&& 63)) &&& (((lN 1) <<< ((nI w9).toInt64 &&& 63)) - (lN 1))).toInt32)), (9, .int (nI k2)), (7, .int v7), (6, .int (nI k)), (0, .ref m0), (1, .int se), (2, .long wo), (4, .int (nI w9)), (5, .int kk)]) hx hb dX7_some_129 hl (by decide) rfl (fun ls hl => ?_)
                                  refine lv_iload hx hb dX7_some_131 (lv_at hl 3 rfl) ?_
                                  refine lv_iload hx hb dX7_some_133 (lv_at hl 4 rfl) ?_
                                  refine lv_iload hx hb dX7_some_135 (lv_at hl 2 rfl) ?_
                                  refine lv_ishr hx hb dX7_some_137 ?_
                                  refine cn_i (y := nI (k / 2 ^ k2)) (m_shr (by omega) (by omega)) ?_
                                  refine lv_iconst (v := nI 1) hx hb dX7_some_138 (by decide) ?_
                                  refine lv_iand hx hb dX7_some_139 ?_
                                  refine cn_i (y := nI ((k / 2 ^ k2) % 2)) (m_andn1 (by first | omega | exact Nat.lt_of_le_of_lt (Nat.div_le_self _ _) (by omega))) ?_
                                  refine lv_iconst (v := nI 1) hx hb dX7_some_140 (by decide) ?_
                                  refine lv_icmp_ne (tgt := 149) hx hb dX7_some_141 (by decide) (fun c19 => ?_) (fun c19 => ?_)
                                  · skip
                                    have d19 := c19
                                    rw [nI_eq (by omega) (by omega)] at d19
                                    refine lv_iconst (v := nI 0) hx hb dX7_some_149 (by decide) ?_
                                    refine lv_iadd hx hb dX7_some_150 ?_
                                    refine lv_istore (lv' := [(7, .int (v7 + (nI 0))), (8, .int (nI (v8 + w9))), (10, .int (((wo >>> ((nI v8).toInt64 &&& 63)) &&& (((lN 1) <<< ((nI w9).toInt64 &&& 63)) - (lN 1))).toInt32)), (9, .int (nI k2)), (6, .int (nI k)), (0, .ref m0), (1, .int se), (2, .long wo), (4, .int (nI w9)), (5, .int kk)]) hx hb dX7_some_151 hl (by decide) rfl (fun ls hl => ?_)
                                    refine lv_iinc (v := nI (k2 + 1)) (lv' := [(9, .int (nI (k2 + 1))), (7, .int (v7 + (nI 0))), (8, .int (nI (v8 + w9))), (10, .int (((wo >>> ((nI v8).toInt64 &&& 63)) &&& (((lN 1) <<< ((nI w9).toInt64 &&& 63)) - (lN 1))).toInt32)), (6, .int (nI k)), (0, .ref m0), (1, .int se), (2, .long wo), (4, .int (nI w9)), (5, .int kk)]) hx hb dX7_some_153 hl (k := 3) rfl (nI_1 k2) (by decide) rfl (fun ls hl => ?_)
                                    refine lv_goto (tgt := 80) hx hb dX7_some_156 (by decide) ?_
                                    exact ih14 (k2 + 1) (v7 + (nI 0)) (v8 + w9) _ _ _ (by omega) (by simp only [pf, wZ]; rw [← hv7]; first | (rw [if_neg (show ¬ sb se k2 = 1 by omega), add_n0, ite_self]) | (rw [if_pos (by omega), if_pos (by omega), if_pos (by omega)]) | (rw [if_pos (by omega), if_pos (by omega), if_neg (by omega)]; rw [hv8]; rfl) | (rw [if_neg (by omega)]; exact add_n0 _) | (rw [if_neg (by omega)]) | (rw [if_pos (by omega), if_neg (by omega), add_n0])) (by simp only [cnB]; first | (rw [if_pos (by omega), Nat.mul_add, Nat.mul_one, ← hv8]) | (rw [if_neg (by omega), Nat.add_zero]; exact hv8)) hP hD hS (lv_sub hl [0, 2, 1, 4, 5, 6, 7, 8, 9] rfl)
                                  · skip
                                    have d19 := c19
                                    rw [nI_eq (by omega) (by omega)] at d19
                                    refine lv_iload hx hb dX7_some_144 (lv_at hl 1 rfl) ?_
                                    refine lv_goto (tgt := 150) hx hb dX7_some_146 (by decide) ?_
                                    refine lv_iadd hx hb dX7_some_150 ?_
                                    refine lv_istore (lv' := [(7, .int (v7 + (((wo >>> ((nI v8).toInt64 &&& 63)) &&& (((lN 1) <<< ((nI w9).toInt64 &&& 63)) - (lN 1))).toInt32))), (8, .int (nI (v8 + w9))), (10, .int (((wo >>> ((nI v8).toInt64 &&& 63)) &&& (((lN 1) <<< ((nI w9).toInt64 &&& 63)) - (lN 1))).toInt32)), (9, .int (nI k2)), (6, .int (nI k)), (0, .ref m0), (1, .int se), (2, .long wo), (4, .int (nI w9)), (5, .int kk)]) hx hb dX7_some_151 hl (by decide) rfl (fun ls hl => ?_)
                                    refine lv_iinc (v := nI (k2 + 1)) (lv' := [(9, .int (nI (k2 + 1))), (7, .int (v7 + (((wo >>> ((nI v8).toInt64 &&& 63)) &&& (((lN 1) <<< ((nI w9).toInt64 &&& 63)) - (lN 1))).toInt32))), (8, .int (nI (v8 + w9))), (10, .int (((wo >>> ((nI v8).toInt64 &&& 63)) &&& (((lN 1) <<< ((nI w9).toInt64 &&& 63)) - (lN 1))).toInt32)), (6, .int (nI k)), (0, .ref m0), (1, .int se), (2, .long wo), (4, .int (nI w9)), (5, .int kk)]) hx hb dX7_some_153 hl (k := 3) rfl (nI_1 k2) (by decide) rfl (fun ls hl => ?_)
                                    refine lv_goto (tgt := 80) hx hb dX7_some_156 (by decide) ?_
                                    exact ih14 (k2 + 1) (v7 + (((wo >>> ((nI v8).toInt64 &&& 63)) &&& (((lN 1) <<< ((nI w9).toInt64 &&& 63)) - (lN 1))).toInt32)) (v8 + w9) _ _ _ (by omega) (by simp only [pf, wZ]; rw [← hv7]; first | (rw [if_neg (show ¬ sb se k2 = 1 by omega), add_n0, ite_self]) | (rw [if_pos (by omega), if_pos (by omega), if_pos (by omega)]) | (rw [if_pos (by omega), if_pos (by omega), if_neg (by omega)]; rw [hv8]; rfl) | (rw [if_neg (by omega)]; exact add_n0 _) | (rw [if_neg (by omega)]) | (rw [if_pos (by omega), if_neg (by omega), add_n0])) (by simp only [cnB]; first | (rw [if_pos (by omega), Nat.mul_add, Nat.mul_one, ← hv8]) | (rw [if_neg (by omega), Nat.add_zero]; exact hv8)) hP hD hS (lv_sub hl [0, 2, 1, 4, 5, 6, 7, 8, 9] rfl)
                                · skip
                                  have d18 := c18
                                  rw [nz_eq (by omega)] at d18
                                  refine lv_iconst (v := nI 1) hx hb dX7_some_106 (by decide) ?_
                                  refine lv_goto (tgt := 122) hx hb dX7_some_107 (by decide) ?_
                                  refine lv_istore (lv' := [(10, .int (nI 1)), (9, .int (nI k2)), (8, .int (nI v8)), (7, .int v7), (6, .int (nI k)), (0, .ref m0), (1, .int se), (2, .long wo), (4, .int (nI w9)), (5, .int kk)]) hx hb dX7_some_122 hl (by decide) rfl (fun ls hl => ?_)
                                  refine lv_iload hx hb dX7_some_124 (lv_at hl 2 rfl) ?_
                                  refine lv_iload hx hb dX7_some_126 (lv_at hl 8 rfl) ?_
                                  refine lv_iadd hx hb dX7_some_128 ?_
                                  refine cn_i (y := nI (v8 + w9)) (nI_add v8 w9) ?_
                                  refine lv_istore (lv' := [(8, .int (nI (v8 + w9))), (10, .int (nI 1)), (9, .int (nI k2)), (7, .int v7), (6, .int (nI k)), (0, .ref m0), (1, .int se), (2, .long wo), (4, .int (nI w9)), (5, .int kk)]) hx hb dX7_some_129 hl (by decide) rfl (fun ls hl => ?_)
                                  refine lv_iload hx hb dX7_some_131 (lv_at hl 3 rfl) ?_
                                  refine lv_iload hx hb dX7_some_133 (lv_at hl 4 rfl) ?_
                                  refine lv_iload hx hb dX7_some_135 (lv_at hl 2 rfl) ?_
                                  refine lv_ishr hx hb dX7_some_137 ?_
                                  refine cn_i (y := nI (k / 2 ^ k2)) (m_shr (by omega) (by omega)) ?_
                                  refine lv_iconst (v := nI 1) hx hb dX7_some_138 (by decide) ?_
                                  refine lv_iand hx hb dX7_some_139 ?_
                                  refine cn_i (y := nI ((k / 2 ^ k2) % 2)) (m_andn1 (by first | omega | exact Nat.lt_of_le_of_lt (Nat.div_le_self _ _) (by omega))) ?_
                                  refine lv_iconst (v := nI 1) hx hb dX7_some_140 (by decide) ?_
                                  refine lv_icmp_ne (tgt := 149) hx hb dX7_some_141 (by decide) (fun c20 => ?_) (fun c20 => ?_)
                                  · skip
                                    have d20 := c20
                                    rw [nI_eq (by omega) (by omega)] at d20
                                    refine lv_iconst (v := nI 0) hx hb dX7_some_149 (by decide) ?_
                                    refine lv_iadd hx hb dX7_some_150 ?_
                                    refine lv_istore (lv' := [(7, .int (v7 + (nI 0))), (8, .int (nI (v8 + w9))), (10, .int (nI 1)), (9, .int (nI k2)), (6, .int (nI k)), (0, .ref m0), (1, .int se), (2, .long wo), (4, .int (nI w9)), (5, .int kk)]) hx hb dX7_some_151 hl (by decide) rfl (fun ls hl => ?_)
                                    refine lv_iinc (v := nI (k2 + 1)) (lv' := [(9, .int (nI (k2 + 1))), (7, .int (v7 + (nI 0))), (8, .int (nI (v8 + w9))), (10, .int (nI 1)), (6, .int (nI k)), (0, .ref m0), (1, .int se), (2, .long wo), (4, .int (nI w9)), (5, .int kk)]) hx hb dX7_some_153 hl (k := 3) rfl (nI_1 k2) (by decide) rfl (fun ls hl => ?_)
                                    refine lv_goto (tgt := 80) hx hb dX7_some_156 (by decide) ?_
                                    exact ih14 (k2 + 1) (v7 + (nI 0)) (v8 + w9) _ _ _ (by omega) (by simp only [pf, wZ]; rw [← hv7]; first | (rw [if_neg (show ¬ sb se k2 = 1 by omega), add_n0, ite_self]) | (rw [if_pos (by omega), if_pos (by omega), if_pos (by omega)]) | (rw [if_pos (by omega), if_pos (by omega), if_neg (by omega)]; rw [hv8]; rfl) | (rw [if_neg (by omega)]; exact add_n0 _) | (rw [if_neg (by omega)]) | (rw [if_pos (by omega), if_neg (by omega), add_n0])) (by simp only [cnB]; first | (rw [if_pos (by omega), Nat.mul_add, Nat.mul_one, ← hv8]) | (rw [if_neg (by omega), Nat.add_zero]; exact hv8)) hP hD hS (lv_sub hl [0, 2, 1, 4, 5, 6, 7, 8, 9] rfl)
                                  · skip
                                    have d20 := c20
                                    rw [nI_eq (by omega) (by omega)] at d20
                                    refine lv_iload hx hb dX7_some_144 (lv_at hl 1 rfl) ?_
                                    refine lv_goto (tgt := 150) hx hb dX7_some_146 (by decide) ?_
                                    refine lv_iadd hx hb dX7_some_150 ?_
                                    refine lv_istore (lv' := [(7, .int (v7 + (nI 1))), (8, .int (nI (v8 + w9))), (10, .int (nI 1)), (9, .int (nI k2)), (6, .int (nI k)), (0, .ref m0), (1, .int se), (2, .long wo), (4, .int (nI w9)), (5, .int kk)]) hx hb dX7_some_151 hl (by decide) rfl (fun ls hl => ?_)
                                    refine lv_iinc (v := nI (k2 + 1)) (lv' := [(9, .int (nI (k2 + 1))), (7, .int (v7 + (nI 1))), (8, .int (nI (v8 + w9))), (10, .int (nI 1)), (6, .int (nI k)), (0, .ref m0), (1, .int se), (2, .long wo), (4, .int (nI w9)), (5, .int kk)]) hx hb dX7_some_153 hl (k := 3) rfl (nI_1 k2) (by decide) rfl (fun ls hl => ?_)
                                    refine lv_goto (tgt := 80) hx hb dX7_some_156 (by decide) ?_
                                    exact ih14 (k2 + 1) (v7 + (nI 1)) (v8 + w9) _ _ _ (by omega) (by simp only [pf, wZ]; rw [← hv7]; first | (rw [if_neg (show ¬ sb se k2 = 1 by omega), add_n0, ite_self]) | (rw [if_pos (by omega), if_pos (by omega), if_pos (by omega)]) | (rw [if_pos (by omega), if_pos (by omega), if_neg (by omega)]; rw [hv8]; rfl) | (rw [if_neg (by omega)]; exact add_n0 _) | (rw [if_neg (by omega)]) | (rw [if_pos (by omega), if_neg (by omega), add_n0])) (by simp only [cnB]; first | (rw [if_pos (by omega), Nat.mul_add, Nat.mul_one, ← hv8]) | (rw [if_neg (by omega), Nat.add_zero]; exact hv8)) hP hD hS (lv_sub hl [0, 2, 1, 4, 5, 6, 7, 8, 9] rfl)
                              · skip
                                have d17 := c17
                                rw [nz_eq (by omega)] at d17
                                refine lv_goto (tgt := 153) hx hb dX7_some_98 (by decide) ?_
                                refine lv_iinc (v := nI (k2 + 1)) (lv' := [(9, .int (nI (k2 + 1))), (8, .int (nI v8)), (7, .int v7), (6, .int (nI k)), (0, .ref m0), (1, .int se), (2, .long wo), (4, .int (nI w9)), (5, .int kk)]) hx hb dX7_some_153 hl (k := 0) rfl (nI_1 k2) (by decide) rfl (fun ls hl => ?_)
                                refine lv_goto (tgt := 80) hx hb dX7_some_156 (by decide) ?_
                                exact ih14 (k2 + 1) v7 v8 _ _ _ (by omega) (by simp only [pf, wZ]; rw [← hv7]; first | (rw [if_neg (show ¬ sb se k2 = 1 by omega), add_n0, ite_self]) | (rw [if_pos (by omega), if_pos (by omega), if_pos (by omega)]) | (rw [if_pos (by omega), if_pos (by omega), if_neg (by omega)]; rw [hv8]; rfl) | (rw [if_neg (by omega)]; exact add_n0 _) | (rw [if_neg (by omega)]) | (rw [if_pos (by omega), if_neg (by omega), add_n0])) (by simp only [cnB]; first | (rw [if_pos (by omega), Nat.mul_add, Nat.mul_one, ← hv8]) | (rw [if_neg (by omega), Nat.add_zero]; exact hv8)) hP hD hS (lv_sub hl [0, 1, 2, 3, 4, 5, 6, 7, 8] rfl)
                        exact loop14 (n + 1) 0 (nI 0) 0 _ _ _ (by omega) rfl ((Nat.mul_zero w9).symm) hP hD hS (lv_sub hl [0, 1, 2, 3, 4, 5, 6, 7, 8] rfl)
                  exact loop10 (2 ^ n + 1) 0 fs _ _ _ (by omega) h01 (RK.nil fs c0 _) hP hD hS (lv_sub hl [0, 1, 2, 3, 4, 5] rfl)
                · skip
                  have d9 := c9
                  rw [nI_eq (by omega) (by omega)] at d9
                  refine lv_iconst (v := (-1 : Int32)) hx hb dX7_some_57 (by decide) ?_
                  rw [← hQ]
                  exact W.iret (v := (-1 : Int32)) hx hb hr (fun tS htS hWS => ⟨⟨(-1 : Int32), (nI c0, fs), rfl, Or.inr ⟨rfl, by omega, rfl, rfl⟩, m_at htS hP⟩, by rw [← has]; exact hS.F htS⟩) (by rw [← has]; exact hS.2.2) dX7_some_58
          · skip
            refine lv_if_eq (tgt := 57) hx hb dX7_some_39 (by decide) (fun c21 => ?_) (fun c21 => ?_)
            · skip
              refine lv_iconst (v := (-1 : Int32)) hx hb dX7_some_57 (by decide) ?_
              rw [← hQ]
              exact W.iret (v := (-1 : Int32)) hx hb hr (fun tS htS hWS => ⟨⟨(-1 : Int32), (nI c0, fs), rfl, Or.inr ⟨rfl, by omega, rfl, rfl⟩, m_at htS hP⟩, by rw [← has]; exact hS.F htS⟩) (by rw [← has]; exact hS.2.2) dX7_some_58
            · exact absurd c21 (by first | decide | exact nz_lt (by omega) | exact fun h => h (nz_ge (by omega)))
      · skip
        refine lv_if_eq (tgt := 57) hx hb dX7_some_26 (by decide) (fun c22 => ?_) (fun c22 => ?_)
        · skip
          refine lv_iconst (v := (-1 : Int32)) hx hb dX7_some_57 (by decide) ?_
          rw [← hQ]
          exact W.iret (v := (-1 : Int32)) hx hb hr (fun tS htS hWS => ⟨⟨(-1 : Int32), (nI c0, fs), rfl, Or.inr ⟨rfl, by omega, rfl, rfl⟩, m_at htS hP⟩, by rw [← has]; exact hS.F htS⟩) (by rw [← has]; exact hS.2.2) dX7_some_58
        · exact absurd c22 (by first | decide | exact nz_lt (by omega) | exact fun h => h (nz_ge (by omega)))
  · skip
    refine lv_if_eq (tgt := 57) hx hb dX7_some_13 (by decide) (fun c23 => ?_) (fun c23 => ?_)
    · skip
      refine lv_iconst (v := (-1 : Int32)) hx hb dX7_some_57 (by decide) ?_
      rw [← hQ]
      exact W.iret (v := (-1 : Int32)) hx hb hr (fun tS htS hWS => ⟨⟨(-1 : Int32), (nI c0, fs), rfl, Or.inr ⟨rfl, by omega, rfl, rfl⟩, m_at htS hP⟩, by rw [← has]; exact hS.F htS⟩) (by rw [← has]; exact hS.2.2) dX7_some_58
    · exact absurd c23 (by first | decide | exact nz_lt (by omega) | exact fun h => h (nz_ge (by omega)))
def rm_c_X7_says_b : Room := { frames := 2, cells := 0, slots := 0, locals := 46 }
set_option maxHeartbeats 400000 in
set_option maxRecDepth 100000 in
theorem c_X7_says_b (l : Launch) (D : va_G) (cI cJ cZ : ClassId) (m0 : Nat) (g1 : Nat) (g2 : Nat) (g3 : Nat) (g4 : Nat) (g5 : Nat) (g6 : Nat) (g7 : Nat) (g8 : Nat) (g9 : Nat) (g10 : Nat) (g11 : Nat) (g12 : Nat) (n : Nat) (c0 : Nat) (my : Int32) (mo : Int32) (ml : Int32) (p0 : Int32) (p1 : Int32) (fs : Nat → Int32) (hn : n ≤ 9) (h1n : 1 ≤ n) (hc : c0 ≤ 40) (h01 : T01 fs) : Met l yX7_says wsX7_says rm_c_X7_says_b (pc_ D cI cJ cZ [.ref m0, .int p0, .int p1] [(m0, .inr (7, [.int (nI n), .ref g1, .ref g2, .ref g3, .int (nI c0), .ref g4, .int my, .ref g5, .int mo, .ref g6, .int ml, .ref g7, .ref g8, .ref g9, .ref g10, .ref g11, .ref g12])), (g4, .inl (cZ, 20480, .inl fs))]) (va_Qi (fun (r : Int32) (_ : Unit) => SAY r ((0 ≤ p0.toInt ∧ p0.toInt < c0) ∧ (0 ≤ p1.toInt ∧ p1.toInt < (2 ^ n : Nat))) (Sg fs p0.toInt.toNat p1.toInt.toNat)) (fun _ _ => True) aN) 0 0 aN := by
  refine Met.ofW (cc := cX7_says) (maxL := 3) (ret := (some .int)) (by decide) rfl ?_
  intro p e s m args below meth c s₁ B hml hv
  obtain ⟨rfl, hP, hKN⟩ := hv
  have hK := hKN.1
  have hx := B.exec
  have hb := B.bytes
  have hr := B.returns
  have hts := atoms_spec (ws := wsX7_says) B.pre
  have hown : s.vm.findClass RX7 = some m.cls := findClass_of_methodNamed B.named
  have hlocks := B.notSynchronized
  have hiX7 : ∀ w ∈ wsX70, w ∈ wsX7_says := by decide +kernel
  have hf23 := hts (.fieldLink RX7 23 "LookBenchModel" "says" "[Z") (by decide +kernel)
  have hS : va_S aN s.heap s.heap [] := va_S.rf
  have hl := lv_entry ([.ref m0, .int p0, .int p1]) (n := 3) (Nat.le_of_ble_eq_true rfl)
  rw [lg_entry_eq]
  generalize (lg_sl ([.ref m0, .int p0, .int p1]) ++ List.replicate (3 - (lg_sl ([.ref m0, .int p0, .int p1])).length) Slot.unset).toArray = ls at hl ⊢
  have hl : lv_has ls 3 [(0, .ref m0), (1, .int p0), (2, .int p1)] := hl
  generalize hQ : MQ below _ _ s _ _ _ = Q
  obtain ⟨H, hH⟩ : ∃ z, z = s.heap := ⟨_, rfl⟩
  have hP : va_P D vwCl [(m0, .inr (7, [.int (nI n), .ref g1, .ref g2, .ref g3, .int (nI c0), .ref g4, .int my, .ref g5, .int mo, .ref g6, .int ml, .ref g7, .ref g8, .ref g9, .ref g10, .ref g11, .ref g12])), (g4, .inl (cZ, 20480, .inl fs))] H := by rw [hH]; exact hP
  have hS : va_S aN s.heap H [] := by rw [hH]; exact hS
  refine m_heap hH ?_
  clear hH
  have h2n := m_pow hn
  have h2p := m_powp n
  refine lv_aload_n hx hb dX7_says_0 rfl (lv_at hl 0 rfl) ?_
  refine lv_iload_n hx hb dX7_says_1 rfl (lv_at hl 1 rfl) ?_
  refine pu_i (va_runV (As := [.int p0]) (rest := []) ⟨hx, hb, hml, hown, hts⟩ (c_X7_isRule l D cI cJ cZ m0 g1 g2 g3 g4 g5 g6 g7 g8 g9 g10 g11 g12 c0 (nI n) my mo ml p0 (by first | assumption | omega)) (cwV 1 hts gX7_says_X7_isRule rfl rfl rfl (by decide +kernel) ⟨Nat.le_of_ble_eq_true rfl, Nat.le_of_ble_eq_true rfl⟩) ⟨pc_blind, va_recv hK hP (ci := 7) (q0 := 0) rfl rfl, fun U hU hW => ⟨rfl, by rw [hU]; exact hP.sub (ws' := [(m0, .inr (7, [.int (nI n), .ref g1, .ref g2, .ref g3, .int (nI c0), .ref g4, .int my, .ref g5, .int mo, .ref g6, .int ml, .ref g7, .ref g8, .ref g9, .ref g10, .ref g11, .ref g12]))]) [0] rfl, hKN.warm hW⟩⟩ rfl rfl hl.1 rfl (lv_room (Nat.le_of_ble_eq_true rfl)) dX7_says_2 ⟨Nat.le_of_ble_eq_true rfl, Nat.le_of_ble_eq_true rfl⟩) hS hP (fun r1 H locs w1r hP hS => ?_)
  have w1 : B01 r1 (0 ≤ p0.toInt ∧ p0.toInt < c0) := w1r
  clear w1r
  rcases w1 with ⟨rfl, w1⟩ | ⟨rfl, w1⟩
  · skip
    obtain ⟨j9, hj9, rfl⟩ := m_nat w1
    have tj9 : (nI j9).toInt = (j9 : Int) := nI_toInt (by omega)
    refine lv_if_eq (tgt := 24) hx hb dX7_says_5 (by decide) (fun c2 => ?_) (fun c2 => ?_)
    · exact absurd c2 (by first | decide | exact nz_lt (by omega) | exact fun h => h (nz_ge (by omega)))
    · skip
      refine lv_iload_n hx hb dX7_says_8 rfl (lv_at hl 2 rfl) ?_
      refine lv_i2l hx hb dX7_says_9 rfl ?_
      refine lv_lconst (v := lN 0) hx hb dX7_says_10 (by decide) ?_
      refine lv_aload_n hx hb dX7_says_11 rfl (lv_at hl 0 rfl) ?_
      refine pu_i (va_runV (As := []) (rest := [.long (lN 0), .long p1.toInt64]) ⟨hx, hb, hml, hown, hts⟩ (c_X7_settings l D cI cJ cZ m0 g1 g2 g3 g4 g5 g6 g7 g8 g9 g10 g11 g12 n (nI c0) my mo ml (by first | assumption | omega)) (cwV 0 hts gX7_says_X7_settings rfl rfl rfl (by decide +kernel) ⟨Nat.le_of_ble_eq_true rfl, Nat.le_of_ble_eq_true rfl⟩) ⟨pc_blind, va_recv hK hP (ci := 7) (q0 := 0) rfl rfl, fun U hU hW => ⟨rfl, by rw [hU]; exact hP.sub (ws' := [(m0, .inr (7, [.int (nI n), .ref g1, .ref g2, .ref g3, .int (nI c0), .ref g4, .int my, .ref g5, .int mo, .ref g6, .int ml, .ref g7, .ref g8, .ref g9, .ref g10, .ref g11, .ref g12]))]) [0] rfl, hKN.warm hW⟩⟩ rfl rfl hl.1 rfl (lv_room (Nat.le_of_ble_eq_true rfl)) dX7_says_12 ⟨Nat.le_of_ble_eq_true rfl, Nat.le_of_ble_eq_true rfl⟩) hS hP (fun r3 H locs w3r hP hS => ?_)
      have w3 : r3 = nI (2 ^ n) := w3r
      clear w3r
      obtain rfl : r3 = nI (2 ^ n) := w3
      refine lv_iconst (v := nI 1) hx hb dX7_says_15 (by decide) ?_
      refine lv_isub hx hb dX7_says_16 ?_
      refine cn_i (y := nI ((2 ^ n) - 1)) (pk_sub (a := (2 ^ n)) (b := 1) (by omega)) ?_
      refine lv_i2l hx hb dX7_says_17 rfl ?_
      refine cn_l (y := lN ((2 ^ n) - 1)) (nI_l (by omega)) ?_
      refine pu_i (va_runS (As := [.long p1.toInt64, .long (lN 0), .long (lN ((2 ^ n) - 1))]) (rest := []) ⟨hx, hb, hml, hown, hts⟩ (c_X7_in l D cI cJ cZ p1.toInt64 (lN 0) (lN ((2 ^ n) - 1))) (va_cwS 3 hts gX7_says_X7_in rfl rfl rfl (by decide +kernel) ⟨Nat.le_of_ble_eq_true rfl, Nat.le_of_ble_eq_true rfl⟩) ⟨pc_blind, fun U hU hW => ⟨rfl, by rw [hU]; exact hP.sub (ws' := []) [] rfl, hKN.warm hW⟩⟩ rfl rfl hl.1 rfl (lv_room (Nat.le_of_ble_eq_true rfl)) dX7_says_18 ⟨Nat.le_of_ble_eq_true rfl, Nat.le_of_ble_eq_true rfl⟩) hS hP (fun r4 H locs w4r hP hS => ?_)
      have w4 : B01 r4 ((lN 0).toInt ≤ p1.toInt64.toInt ∧ p1.toInt64.toInt ≤ (lN ((2 ^ n) - 1)).toInt) := w4r
      clear w4r
      rw [lN_toInt (n := 0) (by omega), j2 p1, lN_toInt (n := ((2 ^ n) - 1)) (by omega)] at w4
      rcases w4 with ⟨rfl, w4⟩ | ⟨rfl, w4⟩
      · skip
        obtain ⟨j8, hj8, rfl⟩ := m_nat (x := p1) (n := 2 ^ n) (by omega)
        have tj8 : (nI j8).toInt = (j8 : Int) := nI_toInt (by omega)
        refine lv_if_ne (tgt := 28) hx hb dX7_says_21 (by decide) (fun c5 => ?_) (fun c5 => ?_)
        · skip
          refine lv_aload_n hx hb dX7_says_28 rfl (lv_at hl 0 rfl) ?_
          refine va_get (D := D) (ci := 7) (v := .ref g4) (C := RX7) (T := TX7) (N := 17) hx hb hts hiX7 hown hK hP 0 rfl rfl 5 (by decide) hf23 (fun _ h9 => h9) rfl dX7_says_29 ?_
          refine lv_sipush (v := nI 512) hx hb dX7_says_32 (by decide) ?_
          refine lv_iload_n hx hb dX7_says_35 rfl (lv_at hl 1 rfl) ?_
          refine lv_imul hx hb dX7_says_36 ?_
          refine cn_i (y := nI (512 * j9)) (pk_mul 512 j9) ?_
          refine lv_iload_n hx hb dX7_says_37 rfl (lv_at hl 2 rfl) ?_
          refine lv_iadd hx hb dX7_says_38 ?_
          refine cn_i (y := nI ((512 * j9) + j8)) (nI_add (512 * j9) j8) ?_
          refine va_zald hx hb hK hP 1 2 rfl rfl (i := nI ((512 * j9) + j8)) (vp_in_nI (by omega) (by omega)) dX7_says_39 ?_
          refine cn_i (y := fs ((512 * j9) + j8)) (congrArg fs (nI_clamp (by omega))) ?_
          refine lv_if_eq (tgt := 47) hx hb dX7_says_40 (by decide) (fun c6 => ?_) (fun c6 => ?_)
          · skip
            have hA9 : ¬ Sg fs j9 j8 := sg0 rfl c6
            refine lv_iconst (v := nI 0) hx hb dX7_says_47 (by decide) ?_
            rw [← hQ]
            exact W.iret (v := nI 0) hx hb hr (fun tS htS hWS => ⟨⟨(nI 0), (), rfl, by first | exact Or.inr ⟨rfl, by omega⟩ | exact Or.inl ⟨by omega, Or.inl ⟨rfl, by rw [m_tn (j := j9) (by omega), m_tn (j := j8) (by omega)]; assumption⟩⟩ | exact Or.inl ⟨by omega, Or.inr ⟨rfl, by rw [m_tn (j := j9) (by omega), m_tn (j := j8) (by omega)]; assumption⟩⟩, trivial⟩, hS.F htS⟩) hS.2.2 dX7_says_48
          · skip
            have hA9 : Sg fs j9 j8 := sg1 h01 rfl c6
            refine lv_iconst (v := nI 1) hx hb dX7_says_43 (by decide) ?_
            refine lv_goto (tgt := 48) hx hb dX7_says_44 (by decide) ?_
            rw [← hQ]
            exact W.iret (v := nI 1) hx hb hr (fun tS htS hWS => ⟨⟨(nI 1), (), rfl, by first | exact Or.inr ⟨rfl, by omega⟩ | exact Or.inl ⟨by omega, Or.inl ⟨rfl, by rw [m_tn (j := j9) (by omega), m_tn (j := j8) (by omega)]; assumption⟩⟩ | exact Or.inl ⟨by omega, Or.inr ⟨rfl, by rw [m_tn (j := j9) (by omega), m_tn (j := j8) (by omega)]; assumption⟩⟩, trivial⟩, hS.F htS⟩) hS.2.2 dX7_says_48
        · exact absurd c5 (by first | decide | exact nz_lt (by omega) | exact fun h => h (nz_ge (by omega)))
      · skip
        refine lv_if_ne (tgt := 28) hx hb dX7_says_21 (by decide) (fun c7 => ?_) (fun c7 => ?_)
        · exact absurd c7 (by first | decide | exact nz_lt (by omega) | exact fun h => h (nz_ge (by omega)))
        · skip
          refine lv_iconst (v := (-1 : Int32)) hx hb dX7_says_24 (by decide) ?_
          refine lv_goto (tgt := 48) hx hb dX7_says_25 (by decide) ?_
          rw [← hQ]
          exact W.iret (v := (-1 : Int32)) hx hb hr (fun tS htS hWS => ⟨⟨(-1 : Int32), (), rfl, by first | exact Or.inr ⟨rfl, by omega⟩ | exact Or.inl ⟨by omega, Or.inl ⟨rfl, by rw [m_tn (j := j9) (by omega), m_tn (j := j8) (by omega)]; assumption⟩⟩ | exact Or.inl ⟨by omega, Or.inr ⟨rfl, by rw [m_tn (j := j9) (by omega), m_tn (j := j8) (by omega)]; assumption⟩⟩, trivial⟩, hS.F htS⟩) hS.2.2 dX7_says_48
  · skip
    refine lv_if_eq (tgt := 24) hx hb dX7_says_5 (by decide) (fun c8 => ?_) (fun c8 => ?_)
    · skip
      refine lv_iconst (v := (-1 : Int32)) hx hb dX7_says_24 (by decide) ?_
      refine lv_goto (tgt := 48) hx hb dX7_says_25 (by decide) ?_
      rw [← hQ]
      exact W.iret (v := (-1 : Int32)) hx hb hr (fun tS htS hWS => ⟨⟨(-1 : Int32), (), rfl, by first | exact Or.inr ⟨rfl, by omega⟩ | exact Or.inl ⟨by omega, Or.inl ⟨rfl, by rw [m_tn (j := j9) (by omega), m_tn (j := j8) (by omega)]; assumption⟩⟩ | exact Or.inl ⟨by omega, Or.inr ⟨rfl, by rw [m_tn (j := j9) (by omega), m_tn (j := j8) (by omega)]; assumption⟩⟩, trivial⟩, hS.F htS⟩) hS.2.2 dX7_says_48
    · exact absurd c8 (by first | decide | exact nz_lt (by omega) | exact fun h => h (nz_ge (by omega)))
def rm_c_X7_differ_b : Room := { frames := 2, cells := 0, slots := 0, locals := 46 }
set_option maxHeartbeats 400000 in
set_option maxRecDepth 100000 in
theorem c_X7_differ_b (l : Launch) (D : va_G) (cI cJ cZ : ClassId) (m0 : Nat) (g1 : Nat) (g2 : Nat) (g3 : Nat) (g4 : Nat) (g5 : Nat) (g6 : Nat) (g7 : Nat) (g8 : Nat) (g9 : Nat) (g10 : Nat) (g11 : Nat) (g12 : Nat) (n : Nat) (c0 : Nat) (my : Int32) (mo : Int32) (ml : Int32) (p0 : Int32) (p1 : Int32) (fs : Nat → Int32) (hn : n ≤ 9) (h1n : 1 ≤ n) (hc : c0 ≤ 40) (h01 : T01 fs) : Met l yX7_differ wsX7_differ rm_c_X7_differ_b (pc_ D cI cJ cZ [.ref m0, .int p0, .int p1] [(m0, .inr (7, [.int (nI n), .ref g1, .ref g2, .ref g3, .int (nI c0), .ref g4, .int my, .ref g5, .int mo, .ref g6, .int ml, .ref g7, .ref g8, .ref g9, .ref g10, .ref g11, .ref g12])), (g4, .inl (cZ, 20480, .inl fs))]) (va_Qi (fun (r : Int32) (_ : Unit) => (((0 ≤ p0.toInt ∧ p0.toInt < c0) ∧ (0 ≤ p1.toInt ∧ p1.toInt < c0)) ∧ FU r (2 ^ n) (Sg fs p0.toInt.toNat) (Sg fs p1.toInt.toNat)) ∨ (r = -1 ∧ ¬ ((0 ≤ p0.toInt ∧ p0.toInt < c0) ∧ (0 ≤ p1.toInt ∧ p1.toInt < c0)))) (fun _ _ => True) aN) 0 0 aN := by
  refine Met.ofW (cc := cX7_differ) (maxL := 4) (ret := (some .int)) (by decide) rfl ?_
  intro p e s m args below meth c s₁ B hml hv
  obtain ⟨rfl, hP, hKN⟩ := hv
  have hK := hKN.1
  have hx := B.exec
  have hb := B.bytes
  have hr := B.returns
  have hts := atoms_spec (ws := wsX7_differ) B.pre
  have hown : s.vm.findClass RX7 = some m.cls := findClass_of_methodNamed B.named
  have hlocks := B.notSynchronized
  have hiX7 : ∀ w ∈ wsX70, w ∈ wsX7_differ := by decide +kernel
  have hf23 := hts (.fieldLink RX7 23 "LookBenchModel" "says" "[Z") (by decide +kernel)
  have hS : va_S aN s.heap s.heap [] := va_S.rf
  have hl := lv_entry ([.ref m0, .int p0, .int p1]) (n := 4) (Nat.le_of_ble_eq_true rfl)
  rw [lg_entry_eq]
  generalize (lg_sl ([.ref m0, .int p0, .int p1]) ++ List.replicate (4 - (lg_sl ([.ref m0, .int p0, .int p1])).length) Slot.unset).toArray = ls at hl ⊢
  have hl : lv_has ls 4 [(0, .ref m0), (1, .int p0), (2, .int p1)] := hl
  generalize hQ : MQ below _ _ s _ _ _ = Q
  obtain ⟨H, hH⟩ : ∃ z, z = s.heap := ⟨_, rfl⟩
  have hP : va_P D vwCl [(m0, .inr (7, [.int (nI n), .ref g1, .ref g2, .ref g3, .int (nI c0), .ref g4, .int my, .ref g5, .int mo, .ref g6, .int ml, .ref g7, .ref g8, .ref g9, .ref g10, .ref g11, .ref g12])), (g4, .inl (cZ, 20480, .inl fs))] H := by rw [hH]; exact hP
  have hS : va_S aN s.heap H [] := by rw [hH]; exact hS
  refine m_heap hH ?_
  clear hH
  have h2n := m_pow hn
  have h2p := m_powp n
  refine lv_aload_n hx hb dX7_differ_0 rfl (lv_at hl 0 rfl) ?_
  refine lv_iload_n hx hb dX7_differ_1 rfl (lv_at hl 1 rfl) ?_
  refine pu_i (va_runV (As := [.int p0]) (rest := []) ⟨hx, hb, hml, hown, hts⟩ (c_X7_isRule l D cI cJ cZ m0 g1 g2 g3 g4 g5 g6 g7 g8 g9 g10 g11 g12 c0 (nI n) my mo ml p0 (by first | assumption | omega)) (cwV 1 hts gX7_differ_X7_isRule rfl rfl rfl (by decide +kernel) ⟨Nat.le_of_ble_eq_true rfl, Nat.le_of_ble_eq_true rfl⟩) ⟨pc_blind, va_recv hK hP (ci := 7) (q0 := 0) rfl rfl, fun U hU hW => ⟨rfl, by rw [hU]; exact hP.sub (ws' := [(m0, .inr (7, [.int (nI n), .ref g1, .ref g2, .ref g3, .int (nI c0), .ref g4, .int my, .ref g5, .int mo, .ref g6, .int ml, .ref g7, .ref g8, .ref g9, .ref g10, .ref g11, .ref g12]))]) [0] rfl, hKN.warm hW⟩⟩ rfl rfl hl.1 rfl (lv_room (Nat.le_of_ble_eq_true rfl)) dX7_differ_2 ⟨Nat.le_of_ble_eq_true rfl, Nat.le_of_ble_eq_true rfl⟩) hS hP (fun r1 H locs w1r hP hS => ?_)
  have w1 : B01 r1 (0 ≤ p0.toInt ∧ p0.toInt < c0) := w1r
  clear w1r
  rcases w1 with ⟨rfl, w1⟩ | ⟨rfl, w1⟩
  · skip
    obtain ⟨j9, hj9, rfl⟩ := m_nat w1
    have tj9 : (nI j9).toInt = (j9 : Int) := nI_toInt (by omega)
    refine lv_if_eq (tgt := 16) hx hb dX7_differ_5 (by decide) (fun c2 => ?_) (fun c2 => ?_)
    · exact absurd c2 (by first | decide | exact nz_lt (by omega) | exact fun h => h (nz_ge (by omega)))
    · skip
      refine lv_aload_n hx hb dX7_differ_8 rfl (lv_at hl 0 rfl) ?_
      refine lv_iload_n hx hb dX7_differ_9 rfl (lv_at hl 2 rfl) ?_
      refine pu_i (va_runV (As := [.int p1]) (rest := []) ⟨hx, hb, hml, hown, hts⟩ (c_X7_isRule l D cI cJ cZ m0 g1 g2 g3 g4 g5 g6 g7 g8 g9 g10 g11 g12 c0 (nI n) my mo ml p1 (by first | assumption | omega)) (cwV 1 hts gX7_differ_X7_isRule rfl rfl rfl (by decide +kernel) ⟨Nat.le_of_ble_eq_true rfl, Nat.le_of_ble_eq_true rfl⟩) ⟨pc_blind, va_recv hK hP (ci := 7) (q0 := 0) rfl rfl, fun U hU hW => ⟨rfl, by rw [hU]; exact hP.sub (ws' := [(m0, .inr (7, [.int (nI n), .ref g1, .ref g2, .ref g3, .int (nI c0), .ref g4, .int my, .ref g5, .int mo, .ref g6, .int ml, .ref g7, .ref g8, .ref g9, .ref g10, .ref g11, .ref g12]))]) [0] rfl, hKN.warm hW⟩⟩ rfl rfl hl.1 rfl (lv_room (Nat.le_of_ble_eq_true rfl)) dX7_differ_10 ⟨Nat.le_of_ble_eq_true rfl, Nat.le_of_ble_eq_true rfl⟩) hS hP (fun r3 H locs w3r hP hS => ?_)
      have w3 : B01 r3 (0 ≤ p1.toInt ∧ p1.toInt < c0) := w3r
      clear w3r
      rcases w3 with ⟨rfl, w3⟩ | ⟨rfl, w3⟩
      · skip
        obtain ⟨j8, hj8, rfl⟩ := m_nat w3
        have tj8 : (nI j8).toInt = (j8 : Int) := nI_toInt (by omega)
        refine lv_if_ne (tgt := 18) hx hb dX7_differ_13 (by decide) (fun c4 => ?_) (fun c4 => ?_)
        · skip
          refine lv_iconst (v := nI 0) hx hb dX7_differ_18 (by decide) ?_
          refine lv_istore_n (lv' := [(3, .int (nI 0)), (0, .ref m0), (1, .int (nI j9)), (2, .int (nI j8))]) hx hb dX7_differ_19 rfl hl (by decide) rfl (fun ls hl => ?_)
          have loop5 : ∀ (fu : Nat) (k : Nat) (H : Heap) (locs : List Loc) (ls : Array Slot), (k ≤ 2 ^ n ∧ 2 ^ n < k + fu) → (∀ z, z < k → (Sg fs j9 z ↔ Sg fs j8 z)) → va_P D vwCl [(m0, .inr (7, [.int (nI n), .ref g1, .ref g2, .ref g3, .int (nI c0), .ref g4, .int my, .ref g5, .int mo, .ref g6, .int ml, .ref g7, .ref g8, .ref g9, .ref g10, .ref g11, .ref g12])), (g4, .inl (cZ, 20480, .inl fs))] H → va_S aN s.heap H locs → lv_has ls 4 [(3, .int (nI k)), (0, .ref m0), (1, .int (nI j9)), (2, .int (nI j8))] → W p l e (headSpec wsX7_differ rm_c_X7_differ_b).room s m ([.ref m0, .int (nI j9), .int (nI j8)] : List Value).toArray below meth c H locs 0 0 Q (F0 m 20 ls []) := by
            intro fu
            induction fu with
            | zero => intro k H locs ls hk hi; exact absurd hk (by omega)
            | succ fu ih5 =>
              intro k H locs ls hk hi hP hS hl
              refine lv_iload_n hx hb dX7_differ_20 rfl (lv_at hl 0 rfl) ?_
              refine lv_aload_n hx hb dX7_differ_21 rfl (lv_at hl 1 rfl) ?_
              refine pu_i (va_runV (As := []) (rest := [.int (nI k)]) ⟨hx, hb, hml, hown, hts⟩ (c_X7_settings l D cI cJ cZ m0 g1 g2 g3 g4 g5 g6 g7 g8 g9 g10 g11 g12 n (nI c0) my mo ml (by first | assumption | omega)) (cwV 0 hts gX7_differ_X7_settings rfl rfl rfl (by decide +kernel) ⟨Nat.le_of_ble_eq_true rfl, Nat.le_of_ble_eq_true rfl⟩) ⟨pc_blind, va_recv hK hP (ci := 7) (q0 := 0) rfl rfl, fun U hU hW => ⟨rfl, by rw [hU]; exact hP.sub (ws' := [(m0, .inr (7, [.int (nI n), .ref g1, .ref g2, .ref g3, .int (nI c0), .ref g4, .int my, .ref g5, .int mo, .ref g6, .int ml, .ref g7, .ref g8, .ref g9, .ref g10, .ref g11, .ref g12]))]) [0] rfl, hKN.warm hW⟩⟩ rfl rfl hl.1 rfl (lv_room (Nat.le_of_ble_eq_true rfl)) dX7_differ_22 ⟨Nat.le_of_ble_eq_true rfl, Nat.le_of_ble_eq_true rfl⟩) hS hP (fun r6 H locs w6r hP hS => ?_)
              have w6 : r6 = nI (2 ^ n) := w6r
              clear w6r
              obtain rfl : r6 = nI (2 ^ n) := w6
              refine lv_icmp_ge (tgt := 63) hx hb dX7_differ_25 (by decide) (fun c7 => ?_) (fun c7 => ?_)
              · skip
                have d7 := c7
                rw [nI_leI (by omega) (by omega)] at d7
                refine lv_iconst (v := (-1 : Int32)) hx hb dX7_differ_63 (by decide) ?_
                rw [← hQ]
                exact W.iret (v := (-1 : Int32)) hx hb hr (fun tS htS hWS => ⟨⟨(-1 : Int32), (), rfl, Or.inl ⟨by omega, by rw [m_tn (j := j9) (by omega), m_tn (j := j8) (by omega)]; exact Or.inl ⟨rfl, fun z hz => hi z (by omega)⟩⟩, trivial⟩, hS.F htS⟩) hS.2.2 dX7_differ_64
              · skip
                have d7 := c7
                rw [nI_leI (by omega) (by omega)] at d7
                refine lv_aload_n hx hb dX7_differ_28 rfl (lv_at hl 1 rfl) ?_
                refine va_get (D := D) (ci := 7) (v := .ref g4) (C := RX7) (T := TX7) (N := 17) hx hb hts hiX7 hown hK hP 0 rfl rfl 5 (by decide) hf23 (fun _ h9 => h9) rfl dX7_differ_29 ?_
                refine lv_sipush (v := nI 512) hx hb dX7_differ_32 (by decide) ?_
                refine lv_iload_n hx hb dX7_differ_35 rfl (lv_at hl 2 rfl) ?_
                refine lv_imul hx hb dX7_differ_36 ?_
                refine cn_i (y := nI (512 * j9)) (pk_mul 512 j9) ?_
                refine lv_iload_n hx hb dX7_differ_37 rfl (lv_at hl 0 rfl) ?_
                refine lv_iadd hx hb dX7_differ_38 ?_
                refine cn_i (y := nI ((512 * j9) + k)) (nI_add (512 * j9) k) ?_
                refine va_zald hx hb hK hP 1 2 rfl rfl (i := nI ((512 * j9) + k)) (vp_in_nI (by omega) (by omega)) dX7_differ_39 ?_
                refine cn_i (y := fs ((512 * j9) + k)) (congrArg fs (nI_clamp (by omega))) ?_
                refine lv_aload_n hx hb dX7_differ_40 rfl (lv_at hl 1 rfl) ?_
                refine va_get (D := D) (ci := 7) (v := .ref g4) (C := RX7) (T := TX7) (N := 17) hx hb hts hiX7 hown hK hP 0 rfl rfl 5 (by decide) hf23 (fun _ h9 => h9) rfl dX7_differ_41 ?_
                refine lv_sipush (v := nI 512) hx hb dX7_differ_44 (by decide) ?_
                refine lv_iload_n hx hb dX7_differ_47 rfl (lv_at hl 3 rfl) ?_
                refine lv_imul hx hb dX7_differ_48 ?_
                refine cn_i (y := nI (512 * j8)) (pk_mul 512 j8) ?_
                refine lv_iload_n hx hb dX7_differ_49 rfl (lv_at hl 0 rfl) ?_
                refine lv_iadd hx hb dX7_differ_50 ?_
                refine cn_i (y := nI ((512 * j8) + k)) (nI_add (512 * j8) k) ?_
                refine va_zald hx hb hK hP 1 2 rfl rfl (i := nI ((512 * j8) + k)) (vp_in_nI (by omega) (by omega)) dX7_differ_51 ?_
                refine cn_i (y := fs ((512 * j8) + k)) (congrArg fs (nI_clamp (by omega))) ?_
                refine lv_icmp_eq (tgt := 57) hx hb dX7_differ_52 (by decide) (fun c8 => ?_) (fun c8 => ?_)
                · skip
                  have hA9 := sg_eq h01 c8
                  refine lv_iinc (v := nI (k + 1)) (lv' := [(3, .int (nI (k + 1))), (0, .ref m0), (1, .int (nI j9)), (2, .int (nI j8))]) hx hb dX7_differ_57 hl (k := 0) rfl (nI_1 k) (by decide) rfl (fun ls hl => ?_)
                  refine lv_goto (tgt := 20) hx hb dX7_differ_60 (by decide) ?_
                  exact ih5 (k + 1) _ _ _ (by omega) (fun z hz => by rcases Nat.lt_or_ge z k with h | h; exact hi z h; exact (by have e9 : z = k := (by omega); subst e9; exact hA9)) hP hS (lv_sub hl [0, 1, 2, 3] rfl)
                · skip
                  have hA9 := sg_ne h01 c8
                  refine lv_iload_n hx hb dX7_differ_55 rfl (lv_at hl 0 rfl) ?_
                  rw [← hQ]
                  exact W.iret (v := nI k) hx hb hr (fun tS htS hWS => ⟨⟨(nI k), (), rfl, Or.inl ⟨by omega, by rw [m_tn (j := j9) (by omega), m_tn (j := j8) (by omega)]; exact Or.inr ⟨k, by omega, rfl, hA9, hi⟩⟩, trivial⟩, hS.F htS⟩) hS.2.2 dX7_differ_56
          exact loop5 (2 ^ n + 1) 0 _ _ _ (by omega) (fun z hz => absurd hz (by omega)) hP hS (lv_sub hl [0, 1, 2, 3] rfl)
        · exact absurd c4 (by first | decide | exact nz_lt (by omega) | exact fun h => h (nz_ge (by omega)))
      · skip
        refine lv_if_ne (tgt := 18) hx hb dX7_differ_13 (by decide) (fun c9 => ?_) (fun c9 => ?_)
        · exact absurd c9 (by first | decide | exact nz_lt (by omega) | exact fun h => h (nz_ge (by omega)))
        · skip
          refine lv_iconst (v := (-1 : Int32)) hx hb dX7_differ_16 (by decide) ?_
          rw [← hQ]
          exact W.iret (v := (-1 : Int32)) hx hb hr (fun tS htS hWS => ⟨⟨(-1 : Int32), (), rfl, Or.inr ⟨rfl, by omega⟩, trivial⟩, hS.F htS⟩) hS.2.2 dX7_differ_17
  · skip
    refine lv_if_eq (tgt := 16) hx hb dX7_differ_5 (by decide) (fun c10 => ?_) (fun c10 => ?_)
    · skip
      refine lv_iconst (v := (-1 : Int32)) hx hb dX7_differ_16 (by decide) ?_
      rw [← hQ]
      exact W.iret (v := (-1 : Int32)) hx hb hr (fun tS htS hWS => ⟨⟨(-1 : Int32), (), rfl, Or.inr ⟨rfl, by omega⟩, trivial⟩, hS.F htS⟩) hS.2.2 dX7_differ_17
    · exact absurd c10 (by first | decide | exact nz_lt (by omega) | exact fun h => h (nz_ge (by omega)))
def rm_c_X7_sets_b : Room := { frames := 3, cells := 0, slots := 0, locals := 67 }
set_option maxHeartbeats 400000 in
set_option maxRecDepth 100000 in
theorem c_X7_sets_b (l : Launch) (D : va_G) (cI cJ cZ : ClassId) (m0 : Nat) (g1 : Nat) (g2 : Nat) (g3 : Nat) (g4 : Nat) (g5 : Nat) (g6 : Nat) (g7 : Nat) (g8 : Nat) (g9 : Nat) (g10 : Nat) (g11 : Nat) (g12 : Nat) (n : Nat) (y : Nat) (mr : Int32) (mo : Int32) (ml : Int32) (p0 : Int32) (fs : Nat → Int32) (hn : n ≤ 9) (hy : y < 40) (h01 : ∀ z, fs z = nI 0 ∨ fs z = nI 1) : Met l yX7_sets wsX7_sets rm_c_X7_sets_b (pc_ D cI cJ cZ [.ref m0, .int p0] [(m0, .inr (7, [.int (nI n), .ref g1, .ref g2, .ref g3, .int mr, .ref g4, .int (nI y), .ref g5, .int mo, .ref g6, .int ml, .ref g7, .ref g8, .ref g9, .ref g10, .ref g11, .ref g12])), (g4, .inl (cZ, 20480, .inl fs))]) (va_Qi (fun (r : Int32) (_ : Unit) => ((0 ≤ p0.toInt ∧ p0.toInt ≤ 1) ∧ ∃ d, r = nI d ∧ CL (lsq fs y n p0) (2 ^ n) d) ∨ (r = -1 ∧ ¬ (0 ≤ p0.toInt ∧ p0.toInt ≤ 1))) (fun _ _ => True) aN) 0 0 aN := by
  refine Met.ofW (cc := cX7_sets) (maxL := 4) (ret := (some .int)) (by decide) rfl ?_
  intro p e s m args below meth c s₁ B hml hv
  obtain ⟨rfl, hP, hKN⟩ := hv
  have hK := hKN.1
  have hx := B.exec
  have hb := B.bytes
  have hr := B.returns
  have hts := atoms_spec (ws := wsX7_sets) B.pre
  have hown : s.vm.findClass RX7 = some m.cls := findClass_of_methodNamed B.named
  have hlocks := B.notSynchronized
  have hiX7 : ∀ w ∈ wsX70, w ∈ wsX7_sets := by decide +kernel
  have hf27 := hts (.fieldLink RX7 27 "LookBenchModel" "system" "I") (by decide +kernel)
  have hS : va_S aN s.heap s.heap [] := va_S.rf
  have hl := lv_entry ([.ref m0, .int p0]) (n := 4) (Nat.le_of_ble_eq_true rfl)
  rw [lg_entry_eq]
  generalize (lg_sl ([.ref m0, .int p0]) ++ List.replicate (4 - (lg_sl ([.ref m0, .int p0])).length) Slot.unset).toArray = ls at hl ⊢
  have hl : lv_has ls 4 [(0, .ref m0), (1, .int p0)] := hl
  generalize hQ : MQ below _ _ s _ _ _ = Q
  obtain ⟨H, hH⟩ : ∃ z, z = s.heap := ⟨_, rfl⟩
  have hP : va_P D vwCl [(m0, .inr (7, [.int (nI n), .ref g1, .ref g2, .ref g3, .int mr, .ref g4, .int (nI y), .ref g5, .int mo, .ref g6, .int ml, .ref g7, .ref g8, .ref g9, .ref g10, .ref g11, .ref g12])), (g4, .inl (cZ, 20480, .inl fs))] H := by rw [hH]; exact hP
  have hS : va_S aN s.heap H [] := by rw [hH]; exact hS
  refine m_heap hH ?_
  clear hH
  have h2n := m_pow hn
  have h2p := m_powp n
  refine lv_iload_n hx hb dX7_sets_0 rfl (lv_at hl 1 rfl) ?_
  refine lv_i2l hx hb dX7_sets_1 rfl ?_
  refine lv_lconst (v := lN 0) hx hb dX7_sets_2 (by decide) ?_
  refine lv_lconst (v := lN 1) hx hb dX7_sets_3 (by decide) ?_
  refine pu_i (va_runS (As := [.long p0.toInt64, .long (lN 0), .long (lN 1)]) (rest := []) ⟨hx, hb, hml, hown, hts⟩ (c_X7_in l D cI cJ cZ p0.toInt64 (lN 0) (lN 1)) (va_cwS 3 hts gX7_sets_X7_in rfl rfl rfl (by decide +kernel) ⟨Nat.le_of_ble_eq_true rfl, Nat.le_of_ble_eq_true rfl⟩) ⟨pc_blind, fun U hU hW => ⟨rfl, by rw [hU]; exact hP.sub (ws' := []) [] rfl, hKN.warm hW⟩⟩ rfl rfl hl.1 rfl (lv_room (Nat.le_of_ble_eq_true rfl)) dX7_sets_4 ⟨Nat.le_of_ble_eq_true rfl, Nat.le_of_ble_eq_true rfl⟩) hS hP (fun r1 H locs w1r hP hS => ?_)
  have w1 : B01 r1 ((lN 0).toInt ≤ p0.toInt64.toInt ∧ p0.toInt64.toInt ≤ (lN 1).toInt) := w1r
  clear w1r
  rw [lN_toInt (n := 0) (by omega), j2 p0, lN_toInt (n := 1) (by omega)] at w1
  rcases w1 with ⟨rfl, w1⟩ | ⟨rfl, w1⟩
  · skip
    refine lv_if_eq (tgt := 17) hx hb dX7_sets_7 (by decide) (fun c2 => ?_) (fun c2 => ?_)
    · exact absurd c2 (by first | decide | exact nz_lt (by omega) | exact fun h => h (nz_ge (by omega)))
    · skip
      refine lv_aload_n hx hb dX7_sets_10 rfl (lv_at hl 0 rfl) ?_
      refine va_get (D := D) (ci := 7) (v := .int (nI y)) (C := RX7) (T := TX7) (N := 17) hx hb hts hiX7 hown hK hP 0 rfl rfl 6 (by decide) hf27 (fun _ h9 => h9) rfl dX7_sets_11 ?_
      refine lv_if_ge (tgt := 19) hx hb dX7_sets_14 (by decide) (fun c3 => ?_) (fun c3 => ?_)
      · skip
        refine lv_iconst (v := nI 0) hx hb dX7_sets_19 (by decide) ?_
        refine lv_istore_n (lv' := [(2, .int (nI 0)), (0, .ref m0), (1, .int p0)]) hx hb dX7_sets_20 rfl hl (by decide) rfl (fun ls hl => ?_)
        refine lv_iconst (v := nI 0) hx hb dX7_sets_21 (by decide) ?_
        refine lv_istore_n (lv' := [(3, .int (nI 0)), (2, .int (nI 0)), (0, .ref m0), (1, .int p0)]) hx hb dX7_sets_22 rfl hl (by decide) rfl (fun ls hl => ?_)
        have loop4 : ∀ (fu : Nat) (k : Nat) (v : Nat) (H : Heap) (locs : List Loc) (ls : Array Slot), (k ≤ 2 ^ n ∧ 2 ^ n < k + fu) → (CL (lsq fs y n p0) k v) → va_P D vwCl [(m0, .inr (7, [.int (nI n), .ref g1, .ref g2, .ref g3, .int mr, .ref g4, .int (nI y), .ref g5, .int mo, .ref g6, .int ml, .ref g7, .ref g8, .ref g9, .ref g10, .ref g11, .ref g12])), (g4, .inl (cZ, 20480, .inl fs))] H → va_S aN s.heap H locs → lv_has ls 4 [(3, .int (nI k)), (2, .int (nI v)), (0, .ref m0), (1, .int p0)] → W p l e (headSpec wsX7_sets rm_c_X7_sets_b).room s m ([.ref m0, .int p0] : List Value).toArray below meth c H locs 0 0 Q (F0 m 23 ls []) := by
          intro fu
          induction fu with
          | zero => intro k v H locs ls hk hC; exact absurd hk (by omega)
          | succ fu ih4 =>
            intro k v H locs ls hk hC hP hS hl
            refine lv_iload_n hx hb dX7_sets_23 rfl (lv_at hl 0 rfl) ?_
            refine lv_aload_n hx hb dX7_sets_24 rfl (lv_at hl 2 rfl) ?_
            refine pu_i (va_runV (As := []) (rest := [.int (nI k)]) ⟨hx, hb, hml, hown, hts⟩ (c_X7_settings l D cI cJ cZ m0 g1 g2 g3 g4 g5 g6 g7 g8 g9 g10 g11 g12 n mr (nI y) mo ml (by first | assumption | omega)) (cwV 0 hts gX7_sets_X7_settings rfl rfl rfl (by decide +kernel) ⟨Nat.le_of_ble_eq_true rfl, Nat.le_of_ble_eq_true rfl⟩) ⟨pc_blind, va_recv hK hP (ci := 7) (q0 := 0) rfl rfl, fun U hU hW => ⟨rfl, by rw [hU]; exact hP.sub (ws' := [(m0, .inr (7, [.int (nI n), .ref g1, .ref g2, .ref g3, .int mr, .ref g4, .int (nI y), .ref g5, .int mo, .ref g6, .int ml, .ref g7, .ref g8, .ref g9, .ref g10, .ref g11, .ref g12]))]) [0] rfl, hKN.warm hW⟩⟩ rfl rfl hl.1 rfl (lv_room (Nat.le_of_ble_eq_true rfl)) dX7_sets_25 ⟨Nat.le_of_ble_eq_true rfl, Nat.le_of_ble_eq_true rfl⟩) hS hP (fun r5 H locs w5r hP hS => ?_)
            have w5 : r5 = nI (2 ^ n) := w5r
            clear w5r
            obtain rfl : r5 = nI (2 ^ n) := w5
            refine lv_icmp_ge (tgt := 54) hx hb dX7_sets_28 (by decide) (fun c6 => ?_) (fun c6 => ?_)
            · skip
              have d6 := c6
              rw [nI_leI (by omega) (by omega)] at d6
              refine lv_iload_n hx hb dX7_sets_54 rfl (lv_at hl 1 rfl) ?_
              rw [← hQ]
              exact W.iret (v := nI v) hx hb hr (fun tS htS hWS => ⟨⟨(nI v), (), rfl, Or.inl ⟨by omega, v, rfl, by rw [show 2 ^ n = k by omega]; exact hC⟩, trivial⟩, hS.F htS⟩) hS.2.2 dX7_sets_55
            · skip
              have d6 := c6
              rw [nI_leI (by omega) (by omega)] at d6
              refine lv_iload_n hx hb dX7_sets_31 rfl (lv_at hl 1 rfl) ?_
              refine lv_aload_n hx hb dX7_sets_32 rfl (lv_at hl 2 rfl) ?_
              refine lv_iload_n hx hb dX7_sets_33 rfl (lv_at hl 3 rfl) ?_
              refine lv_iload_n hx hb dX7_sets_34 rfl (lv_at hl 0 rfl) ?_
              refine pu_i (va_runV (As := [.int p0, .int (nI k)]) (rest := [.int (nI v)]) ⟨hx, hb, hml, hown, hts⟩ (c_X7_isLeast l D cI cJ cZ m0 g1 g2 g3 g4 g5 g6 g7 g8 g9 g10 g11 g12 n y k mr mo ml p0 fs (by first | assumption | omega) (by first | assumption | omega) (by first | assumption | omega) (by first | assumption | omega)) (cwV 2 hts gX7_sets_X7_isLeast rfl rfl rfl (by decide +kernel) ⟨Nat.le_of_ble_eq_true rfl, Nat.le_of_ble_eq_true rfl⟩) ⟨pc_blind, va_recv hK hP (ci := 7) (q0 := 0) rfl rfl, fun U hU hW => ⟨rfl, by rw [hU]; exact hP.sub (ws' := [(m0, .inr (7, [.int (nI n), .ref g1, .ref g2, .ref g3, .int mr, .ref g4, .int (nI y), .ref g5, .int mo, .ref g6, .int ml, .ref g7, .ref g8, .ref g9, .ref g10, .ref g11, .ref g12])), (g4, .inl (cZ, 20480, .inl fs))]) [0, 1] rfl, hKN.warm hW⟩⟩ rfl rfl hl.1 rfl (lv_room (Nat.le_of_ble_eq_true rfl)) dX7_sets_35 ⟨Nat.le_of_ble_eq_true rfl, Nat.le_of_ble_eq_true rfl⟩) hS hP (fun r7 H locs w7r hP hS => ?_)
              have w7 : B01 r7 (lsq fs y n p0 k) := w7r
              clear w7r
              rcases w7 with ⟨rfl, w7⟩ | ⟨rfl, w7⟩
              · skip
                refine lv_if_eq (tgt := 45) hx hb dX7_sets_38 (by decide) (fun c8 => ?_) (fun c8 => ?_)
                · exact absurd c8 (by first | decide | exact nz_lt (by omega) | exact fun h => h (nz_ge (by omega)))
                · skip
                  refine lv_iconst (v := nI 1) hx hb dX7_sets_41 (by decide) ?_
                  refine lv_goto (tgt := 46) hx hb dX7_sets_42 (by decide) ?_
                  refine lv_iadd hx hb dX7_sets_46 ?_
                  refine cn_i (y := nI (v + 1)) (nI_add v 1) ?_
                  refine lv_istore_n (lv' := [(2, .int (nI (v + 1))), (3, .int (nI k)), (0, .ref m0), (1, .int p0)]) hx hb dX7_sets_47 rfl hl (by decide) rfl (fun ls hl => ?_)
                  refine lv_iinc (v := nI (k + 1)) (lv' := [(3, .int (nI (k + 1))), (2, .int (nI (v + 1))), (0, .ref m0), (1, .int p0)]) hx hb dX7_sets_48 hl (k := 1) rfl (nI_1 k) (by decide) rfl (fun ls hl => ?_)
                  refine lv_goto (tgt := 23) hx hb dX7_sets_51 (by decide) ?_
                  exact ih4 (k + 1) (v + 1) _ _ _ (by omega) (by first | exact Or.inl ⟨by assumption, v, rfl, hC⟩ | exact Or.inr ⟨by assumption, hC⟩) hP hS (lv_sub hl [0, 1, 2, 3] rfl)
              · skip
                refine lv_if_eq (tgt := 45) hx hb dX7_sets_38 (by decide) (fun c9 => ?_) (fun c9 => ?_)
                · skip
                  refine lv_iconst (v := nI 0) hx hb dX7_sets_45 (by decide) ?_
                  refine lv_iadd hx hb dX7_sets_46 ?_
                  refine cn_i (y := nI (v + 0)) (nI_add v 0) ?_
                  refine lv_istore_n (lv' := [(2, .int (nI (v + 0))), (3, .int (nI k)), (0, .ref m0), (1, .int p0)]) hx hb dX7_sets_47 rfl hl (by decide) rfl (fun ls hl => ?_)
                  refine lv_iinc (v := nI (k + 1)) (lv' := [(3, .int (nI (k + 1))), (2, .int (nI (v + 0))), (0, .ref m0), (1, .int p0)]) hx hb dX7_sets_48 hl (k := 1) rfl (nI_1 k) (by decide) rfl (fun ls hl => ?_)
                  refine lv_goto (tgt := 23) hx hb dX7_sets_51 (by decide) ?_
                  exact ih4 (k + 1) (v + 0) _ _ _ (by omega) (by first | exact Or.inl ⟨by assumption, v, rfl, hC⟩ | exact Or.inr ⟨by assumption, hC⟩) hP hS (lv_sub hl [0, 1, 2, 3] rfl)
                · exact absurd c9 (by first | decide | exact nz_lt (by omega) | exact fun h => h (nz_ge (by omega)))
        exact loop4 (2 ^ n + 1) 0 0 _ _ _ (by omega) rfl hP hS (lv_sub hl [0, 1, 2, 3] rfl)
      · exact absurd c3 (by first | decide | exact nz_lt (by omega) | exact fun h => h (nz_ge (by omega)))
  · skip
    refine lv_if_eq (tgt := 17) hx hb dX7_sets_7 (by decide) (fun c10 => ?_) (fun c10 => ?_)
    · skip
      refine lv_iconst (v := (-1 : Int32)) hx hb dX7_sets_17 (by decide) ?_
      rw [← hQ]
      exact W.iret (v := (-1 : Int32)) hx hb hr (fun tS htS hWS => ⟨⟨(-1 : Int32), (), rfl, Or.inr ⟨rfl, by omega⟩, trivial⟩, hS.F htS⟩) hS.2.2 dX7_sets_18
    · exact absurd c10 (by first | decide | exact nz_lt (by omega) | exact fun h => h (nz_ge (by omega)))
def rm_c_X7_set_b : Room := { frames := 3, cells := 0, slots := 0, locals := 67 }
set_option maxHeartbeats 400000 in
set_option maxRecDepth 100000 in
theorem c_X7_set_b (l : Launch) (D : va_G) (cI cJ cZ : ClassId) (m0 : Nat) (g1 : Nat) (g2 : Nat) (g3 : Nat) (g4 : Nat) (g5 : Nat) (g6 : Nat) (g7 : Nat) (g8 : Nat) (g9 : Nat) (g10 : Nat) (g11 : Nat) (g12 : Nat) (n : Nat) (y : Nat) (mr : Int32) (mo : Int32) (ml : Int32) (p0 : Int32) (ii : Int32) (fs : Nat → Int32) (hn : n ≤ 9) (hy : y < 40) (h01 : ∀ z, fs z = nI 0 ∨ fs z = nI 1) : Met l yX7_set wsX7_set rm_c_X7_set_b (pc_ D cI cJ cZ [.ref m0, .int p0, .int ii] [(m0, .inr (7, [.int (nI n), .ref g1, .ref g2, .ref g3, .int mr, .ref g4, .int (nI y), .ref g5, .int mo, .ref g6, .int ml, .ref g7, .ref g8, .ref g9, .ref g10, .ref g11, .ref g12])), (g4, .inl (cZ, 20480, .inl fs))]) (va_Qi (fun (r : Int32) (_ : Unit) => ((0 ≤ p0.toInt ∧ p0.toInt ≤ 1) ∧ FL r ii (2 ^ n) (lsq fs y n p0)) ∨ (r = -1 ∧ ¬ (0 ≤ p0.toInt ∧ p0.toInt ≤ 1))) (fun _ _ => True) aN) 0 0 aN := by
  refine Met.ofW (cc := cX7_set) (maxL := 5) (ret := (some .int)) (by decide) rfl ?_
  intro p e s m args below meth c s₁ B hml hv
  obtain ⟨rfl, hP, hKN⟩ := hv
  have hK := hKN.1
  have hx := B.exec
  have hb := B.bytes
  have hr := B.returns
  have hts := atoms_spec (ws := wsX7_set) B.pre
  have hown : s.vm.findClass RX7 = some m.cls := findClass_of_methodNamed B.named
  have hlocks := B.notSynchronized
  have hiX7 : ∀ w ∈ wsX70, w ∈ wsX7_set := by decide +kernel
  have hf27 := hts (.fieldLink RX7 27 "LookBenchModel" "system" "I") (by decide +kernel)
  have hS : va_S aN s.heap s.heap [] := va_S.rf
  have hl := lv_entry ([.ref m0, .int p0, .int ii]) (n := 5) (Nat.le_of_ble_eq_true rfl)
  rw [lg_entry_eq]
  generalize (lg_sl ([.ref m0, .int p0, .int ii]) ++ List.replicate (5 - (lg_sl ([.ref m0, .int p0, .int ii])).length) Slot.unset).toArray = ls at hl ⊢
  have hl : lv_has ls 5 [(0, .ref m0), (1, .int p0), (2, .int ii)] := hl
  generalize hQ : MQ below _ _ s _ _ _ = Q
  obtain ⟨H, hH⟩ : ∃ z, z = s.heap := ⟨_, rfl⟩
  have hP : va_P D vwCl [(m0, .inr (7, [.int (nI n), .ref g1, .ref g2, .ref g3, .int mr, .ref g4, .int (nI y), .ref g5, .int mo, .ref g6, .int ml, .ref g7, .ref g8, .ref g9, .ref g10, .ref g11, .ref g12])), (g4, .inl (cZ, 20480, .inl fs))] H := by rw [hH]; exact hP
  have hS : va_S aN s.heap H [] := by rw [hH]; exact hS
  refine m_heap hH ?_
  clear hH
  have h2n := m_pow hn
  have h2p := m_powp n
  refine lv_iload_n hx hb dX7_set_0 rfl (lv_at hl 1 rfl) ?_
  refine lv_i2l hx hb dX7_set_1 rfl ?_
  refine lv_lconst (v := lN 0) hx hb dX7_set_2 (by decide) ?_
  refine lv_lconst (v := lN 1) hx hb dX7_set_3 (by decide) ?_
  refine pu_i (va_runS (As := [.long p0.toInt64, .long (lN 0), .long (lN 1)]) (rest := []) ⟨hx, hb, hml, hown, hts⟩ (c_X7_in l D cI cJ cZ p0.toInt64 (lN 0) (lN 1)) (va_cwS 3 hts gX7_set_X7_in rfl rfl rfl (by decide +kernel) ⟨Nat.le_of_ble_eq_true rfl, Nat.le_of_ble_eq_true rfl⟩) ⟨pc_blind, fun U hU hW => ⟨rfl, by rw [hU]; exact hP.sub (ws' := []) [] rfl, hKN.warm hW⟩⟩ rfl rfl hl.1 rfl (lv_room (Nat.le_of_ble_eq_true rfl)) dX7_set_4 ⟨Nat.le_of_ble_eq_true rfl, Nat.le_of_ble_eq_true rfl⟩) hS hP (fun r1 H locs w1r hP hS => ?_)
  have w1 : B01 r1 ((lN 0).toInt ≤ p0.toInt64.toInt ∧ p0.toInt64.toInt ≤ (lN 1).toInt) := w1r
  clear w1r
  rw [lN_toInt (n := 0) (by omega), j2 p0, lN_toInt (n := 1) (by omega)] at w1
  rcases w1 with ⟨rfl, w1⟩ | ⟨rfl, w1⟩
  · skip
    refine lv_if_eq (tgt := 17) hx hb dX7_set_7 (by decide) (fun c2 => ?_) (fun c2 => ?_)
    · exact absurd c2 (by first | decide | exact nz_lt (by omega) | exact fun h => h (nz_ge (by omega)))
    · skip
      refine lv_aload_n hx hb dX7_set_10 rfl (lv_at hl 0 rfl) ?_
      refine va_get (D := D) (ci := 7) (v := .int (nI y)) (C := RX7) (T := TX7) (N := 17) hx hb hts hiX7 hown hK hP 0 rfl rfl 6 (by decide) hf27 (fun _ h9 => h9) rfl dX7_set_11 ?_
      refine lv_if_ge (tgt := 19) hx hb dX7_set_14 (by decide) (fun c3 => ?_) (fun c3 => ?_)
      · skip
        refine lv_iconst (v := nI 0) hx hb dX7_set_19 (by decide) ?_
        refine lv_istore_n (lv' := [(3, .int (nI 0)), (0, .ref m0), (1, .int p0), (2, .int ii)]) hx hb dX7_set_20 rfl hl (by decide) rfl (fun ls hl => ?_)
        refine lv_iconst (v := nI 0) hx hb dX7_set_21 (by decide) ?_
        refine lv_istore (lv' := [(4, .int (nI 0)), (3, .int (nI 0)), (0, .ref m0), (1, .int p0), (2, .int ii)]) hx hb dX7_set_22 hl (by decide) rfl (fun ls hl => ?_)
        have loop4 : ∀ (fu : Nat) (k : Nat) (v : Nat) (H : Heap) (locs : List Loc) (ls : Array Slot), (k ≤ 2 ^ n ∧ 2 ^ n < k + fu) → (CL (lsq fs y n p0) k v) → (∀ x d, x < k → lsq fs y n p0 x → CL (lsq fs y n p0) x d → ¬ nI d = ii) → va_P D vwCl [(m0, .inr (7, [.int (nI n), .ref g1, .ref g2, .ref g3, .int mr, .ref g4, .int (nI y), .ref g5, .int mo, .ref g6, .int ml, .ref g7, .ref g8, .ref g9, .ref g10, .ref g11, .ref g12])), (g4, .inl (cZ, 20480, .inl fs))] H → va_S aN s.heap H locs → lv_has ls 5 [(4, .int (nI k)), (3, .int (nI v)), (0, .ref m0), (1, .int p0), (2, .int ii)] → W p l e (headSpec wsX7_set rm_c_X7_set_b).room s m ([.ref m0, .int p0, .int ii] : List Value).toArray below meth c H locs 0 0 Q (F0 m 24 ls []) := by
          intro fu
          induction fu with
          | zero => intro k v H locs ls hk hC hno; exact absurd hk (by omega)
          | succ fu ih4 =>
            intro k v H locs ls hk hC hno hP hS hl
            refine lv_iload hx hb dX7_set_24 (lv_at hl 0 rfl) ?_
            refine lv_aload_n hx hb dX7_set_26 rfl (lv_at hl 2 rfl) ?_
            refine pu_i (va_runV (As := []) (rest := [.int (nI k)]) ⟨hx, hb, hml, hown, hts⟩ (c_X7_settings l D cI cJ cZ m0 g1 g2 g3 g4 g5 g6 g7 g8 g9 g10 g11 g12 n mr (nI y) mo ml (by first | assumption | omega)) (cwV 0 hts gX7_set_X7_settings rfl rfl rfl (by decide +kernel) ⟨Nat.le_of_ble_eq_true rfl, Nat.le_of_ble_eq_true rfl⟩) ⟨pc_blind, va_recv hK hP (ci := 7) (q0 := 0) rfl rfl, fun U hU hW => ⟨rfl, by rw [hU]; exact hP.sub (ws' := [(m0, .inr (7, [.int (nI n), .ref g1, .ref g2, .ref g3, .int mr, .ref g4, .int (nI y), .ref g5, .int mo, .ref g6, .int ml, .ref g7, .ref g8, .ref g9, .ref g10, .ref g11, .ref g12]))]) [0] rfl, hKN.warm hW⟩⟩ rfl rfl hl.1 rfl (lv_room (Nat.le_of_ble_eq_true rfl)) dX7_set_27 ⟨Nat.le_of_ble_eq_true rfl, Nat.le_of_ble_eq_true rfl⟩) hS hP (fun r5 H locs w5r hP hS => ?_)
            have w5 : r5 = nI (2 ^ n) := w5r
            clear w5r
            obtain rfl : r5 = nI (2 ^ n) := w5
            refine lv_icmp_ge (tgt := 60) hx hb dX7_set_30 (by decide) (fun c6 => ?_) (fun c6 => ?_)
            · skip
              have d6 := c6
              rw [nI_leI (by omega) (by omega)] at d6
              refine lv_iconst (v := (-1 : Int32)) hx hb dX7_set_60 (by decide) ?_
              rw [← hQ]
              exact W.iret (v := (-1 : Int32)) hx hb hr (fun tS htS hWS => ⟨⟨(-1 : Int32), (), rfl, Or.inl ⟨by omega, Or.inr ⟨rfl, fun x d hx hp hd => hno x d (by omega) hp hd⟩⟩, trivial⟩, hS.F htS⟩) hS.2.2 dX7_set_61
            · skip
              have d6 := c6
              rw [nI_leI (by omega) (by omega)] at d6
              refine lv_aload_n hx hb dX7_set_33 rfl (lv_at hl 2 rfl) ?_
              refine lv_iload_n hx hb dX7_set_34 rfl (lv_at hl 3 rfl) ?_
              refine lv_iload hx hb dX7_set_35 (lv_at hl 0 rfl) ?_
              refine pu_i (va_runV (As := [.int p0, .int (nI k)]) (rest := []) ⟨hx, hb, hml, hown, hts⟩ (c_X7_isLeast l D cI cJ cZ m0 g1 g2 g3 g4 g5 g6 g7 g8 g9 g10 g11 g12 n y k mr mo ml p0 fs (by first | assumption | omega) (by first | assumption | omega) (by first | assumption | omega) (by first | assumption | omega)) (cwV 2 hts gX7_set_X7_isLeast rfl rfl rfl (by decide +kernel) ⟨Nat.le_of_ble_eq_true rfl, Nat.le_of_ble_eq_true rfl⟩) ⟨pc_blind, va_recv hK hP (ci := 7) (q0 := 0) rfl rfl, fun U hU hW => ⟨rfl, by rw [hU]; exact hP.sub (ws' := [(m0, .inr (7, [.int (nI n), .ref g1, .ref g2, .ref g3, .int mr, .ref g4, .int (nI y), .ref g5, .int mo, .ref g6, .int ml, .ref g7, .ref g8, .ref g9, .ref g10, .ref g11, .ref g12])), (g4, .inl (cZ, 20480, .inl fs))]) [0, 1] rfl, hKN.warm hW⟩⟩ rfl rfl hl.1 rfl (lv_room (Nat.le_of_ble_eq_true rfl)) dX7_set_37 ⟨Nat.le_of_ble_eq_true rfl, Nat.le_of_ble_eq_true rfl⟩) hS hP (fun r7 H locs w7r hP hS => ?_)
              have w7 : B01 r7 (lsq fs y n p0 k) := w7r
              clear w7r
              rcases w7 with ⟨rfl, w7⟩ | ⟨rfl, w7⟩
              · skip
                refine lv_if_eq (tgt := 54) hx hb dX7_set_40 (by decide) (fun c8 => ?_) (fun c8 => ?_)
                · exact absurd c8 (by first | decide | exact nz_lt (by omega) | exact fun h => h (nz_ge (by omega)))
                · skip
                  refine lv_iload_n hx hb dX7_set_43 rfl (lv_at hl 1 rfl) ?_
                  refine lv_iload_n hx hb dX7_set_44 rfl (lv_at hl 4 rfl) ?_
                  refine lv_icmp_ne (tgt := 51) hx hb dX7_set_45 (by decide) (fun c9 => ?_) (fun c9 => ?_)
                  · skip
                    refine lv_iinc (v := nI (v + 1)) (lv' := [(3, .int (nI (v + 1))), (4, .int (nI k)), (0, .ref m0), (1, .int p0), (2, .int ii)]) hx hb dX7_set_51 hl (k := 1) rfl (nI_1 v) (by decide) rfl (fun ls hl => ?_)
                    refine lv_iinc (v := nI (k + 1)) (lv' := [(4, .int (nI (k + 1))), (3, .int (nI (v + 1))), (0, .ref m0), (1, .int p0), (2, .int ii)]) hx hb dX7_set_54 hl (k := 1) rfl (nI_1 k) (by decide) rfl (fun ls hl => ?_)
                    refine lv_goto (tgt := 24) hx hb dX7_set_57 (by decide) ?_
                    exact ih4 (k + 1) (v + 1) _ _ _ (by omega) (by first | exact Or.inl ⟨by assumption, v, rfl, hC⟩ | exact Or.inr ⟨by assumption, hC⟩) (fun x d hx hp hd e => by rcases Nat.lt_or_ge x k with h | h; exact hno x d h hp hd e; exact (by have e9 : x = k := (by omega); subst e9; first | exact absurd hp (by assumption) | (have e8 := hd.eq hC (fun _ _ => Iff.rfl); subst e8; exact absurd e (by assumption)))) hP hS (lv_sub hl [0, 1, 2, 3, 4] rfl)
                  · skip
                    refine lv_iload hx hb dX7_set_48 (lv_at hl 0 rfl) ?_
                    rw [← hQ]
                    exact W.iret (v := nI k) hx hb hr (fun tS htS hWS => ⟨⟨(nI k), (), rfl, Or.inl ⟨by omega, Or.inl ⟨k, v, by omega, rfl, by assumption, hC, by assumption⟩⟩, trivial⟩, hS.F htS⟩) hS.2.2 dX7_set_50
              · skip
                refine lv_if_eq (tgt := 54) hx hb dX7_set_40 (by decide) (fun c10 => ?_) (fun c10 => ?_)
                · skip
                  refine lv_iinc (v := nI (k + 1)) (lv' := [(4, .int (nI (k + 1))), (3, .int (nI v)), (0, .ref m0), (1, .int p0), (2, .int ii)]) hx hb dX7_set_54 hl (k := 0) rfl (nI_1 k) (by decide) rfl (fun ls hl => ?_)
                  refine lv_goto (tgt := 24) hx hb dX7_set_57 (by decide) ?_
                  exact ih4 (k + 1) v _ _ _ (by omega) (by first | exact Or.inl ⟨by assumption, v, rfl, hC⟩ | exact Or.inr ⟨by assumption, hC⟩) (fun x d hx hp hd e => by rcases Nat.lt_or_ge x k with h | h; exact hno x d h hp hd e; exact (by have e9 : x = k := (by omega); subst e9; first | exact absurd hp (by assumption) | (have e8 := hd.eq hC (fun _ _ => Iff.rfl); subst e8; exact absurd e (by assumption)))) hP hS (lv_sub hl [0, 1, 2, 3, 4] rfl)
                · exact absurd c10 (by first | decide | exact nz_lt (by omega) | exact fun h => h (nz_ge (by omega)))
        exact loop4 (2 ^ n + 1) 0 0 _ _ _ (by omega) rfl (fun x d hx => absurd hx (by omega)) hP hS (lv_sub hl [0, 1, 2, 3, 4] rfl)
      · exact absurd c3 (by first | decide | exact nz_lt (by omega) | exact fun h => h (nz_ge (by omega)))
  · skip
    refine lv_if_eq (tgt := 17) hx hb dX7_set_7 (by decide) (fun c11 => ?_) (fun c11 => ?_)
    · skip
      refine lv_iconst (v := (-1 : Int32)) hx hb dX7_set_17 (by decide) ?_
      rw [← hQ]
      exact W.iret (v := (-1 : Int32)) hx hb hr (fun tS htS hWS => ⟨⟨(-1 : Int32), (), rfl, Or.inr ⟨rfl, by omega⟩, trivial⟩, hS.F htS⟩) hS.2.2 dX7_set_18
    · exact absurd c11 (by first | decide | exact nz_lt (by omega) | exact fun h => h (nz_ge (by omega)))
def rm_c_X7_sure_b : Room := { frames := 3, cells := 0, slots := 0, locals := 67 }
set_option maxHeartbeats 400000 in
set_option maxRecDepth 100000 in
theorem c_X7_sure_b (l : Launch) (D : va_G) (cI cJ cZ : ClassId) (m0 : Nat) (g1 : Nat) (g2 : Nat) (g3 : Nat) (g4 : Nat) (g5 : Nat) (g6 : Nat) (g7 : Nat) (g8 : Nat) (g9 : Nat) (g10 : Nat) (g11 : Nat) (g12 : Nat) (n : Nat) (y : Nat) (mr : Int32) (mo : Int32) (ml : Int32) (fs : Nat → Int32) (fn : Nat → Int32) (th : Nat → Int32) (hn : n ≤ 9) (hy : y < 40) (hth : ∀ z, z < 9 → th z = nI (3 ^ z)) (h01 : ∀ z, fs z = nI 0 ∨ fs z = nI 1) : Met l yX7_sure wsX7_sure rm_c_X7_sure_b (pc_ D cI cJ cZ [.ref m0] [(m0, .inr (7, [.int (nI n), .ref g1, .ref g2, .ref g3, .int mr, .ref g4, .int (nI y), .ref g5, .int mo, .ref g6, .int ml, .ref g7, .ref g8, .ref g9, .ref g10, .ref g11, .ref g12])), (g4, .inl (cZ, 20480, .inl fs)), (g5, .inl (cI, 9, .inl fn)), (g12, .inl (cI, 9, .inl th))]) (va_Qi (fun (r : Int32) (_ : Unit) => (r = nI 1 ∧ Sg fs y (setN (nowN fn n) 1 n)) ∨ (r = -1 ∧ ¬ Sg fs y (setN (nowN fn n) 1 n) ∧ Sg fs y (2 ^ n - 1 - setN (nowN fn n) 2 n)) ∨ (r = nI 0 ∧ ¬ Sg fs y (setN (nowN fn n) 1 n) ∧ ¬ Sg fs y (2 ^ n - 1 - setN (nowN fn n) 2 n))) (fun _ _ => True) aN) 0 0 aN := by
  refine Met.ofW (cc := cX7_sure) (maxL := 1) (ret := (some .int)) (by decide) rfl ?_
  intro p e s m args below meth c s₁ B hml hv
  obtain ⟨rfl, hP, hKN⟩ := hv
  have hK := hKN.1
  have hx := B.exec
  have hb := B.bytes
  have hr := B.returns
  have hts := atoms_spec (ws := wsX7_sure) B.pre
  have hown : s.vm.findClass RX7 = some m.cls := findClass_of_methodNamed B.named
  have hlocks := B.notSynchronized
  have hiX7 : ∀ w ∈ wsX70, w ∈ wsX7_sure := by decide +kernel
  have hf27 := hts (.fieldLink RX7 27 "LookBenchModel" "system" "I") (by decide +kernel)
  have hS : va_S aN s.heap s.heap [] := va_S.rf
  have hl := lv_entry ([.ref m0]) (n := 1) (Nat.le_of_ble_eq_true rfl)
  rw [lg_entry_eq]
  generalize (lg_sl ([.ref m0]) ++ List.replicate (1 - (lg_sl ([.ref m0])).length) Slot.unset).toArray = ls at hl ⊢
  have hl : lv_has ls 1 [(0, .ref m0)] := hl
  generalize hQ : MQ below _ _ s _ _ _ = Q
  obtain ⟨H, hH⟩ : ∃ z, z = s.heap := ⟨_, rfl⟩
  have hP : va_P D vwCl [(m0, .inr (7, [.int (nI n), .ref g1, .ref g2, .ref g3, .int mr, .ref g4, .int (nI y), .ref g5, .int mo, .ref g6, .int ml, .ref g7, .ref g8, .ref g9, .ref g10, .ref g11, .ref g12])), (g4, .inl (cZ, 20480, .inl fs)), (g5, .inl (cI, 9, .inl fn)), (g12, .inl (cI, 9, .inl th))] H := by rw [hH]; exact hP
  have hS : va_S aN s.heap H [] := by rw [hH]; exact hS
  refine m_heap hH ?_
  clear hH
  have h2n := m_pow hn
  have h2p := m_powp n
  have h3n := m_p3 hn
  have hnl := nowN_lt fn n
  refine lv_aload_n hx hb dX7_sure_0 rfl (lv_at hl 0 rfl) ?_
  refine va_get (D := D) (ci := 7) (v := .int (nI y)) (C := RX7) (T := TX7) (N := 17) hx hb hts hiX7 hown hK hP 0 rfl rfl 6 (by decide) hf27 (fun _ h9 => h9) rfl dX7_sure_1 ?_
  refine lv_if_ge (tgt := 12) hx hb dX7_sure_4 (by decide) (fun c1 => ?_) (fun c1 => ?_)
  · skip
    refine lv_aload_n hx hb dX7_sure_12 rfl (lv_at hl 0 rfl) ?_
    refine lv_aload_n hx hb dX7_sure_13 rfl (lv_at hl 0 rfl) ?_
    refine pu_i (va_runV (As := []) (rest := [.ref m0]) ⟨hx, hb, hml, hown, hts⟩ (c_X7_now_g l D cI cJ cZ m0 g1 g2 g3 g4 g5 g6 g7 g8 g9 g10 g11 g12 n mr (nI y) mo ml fn th (by first | assumption | omega) (by first | assumption | omega)) (cwV 0 hts gX7_sure_X7_now rfl rfl rfl (by decide +kernel) ⟨Nat.le_of_ble_eq_true rfl, Nat.le_of_ble_eq_true rfl⟩) ⟨pc_blind, va_recv hK hP (ci := 7) (q0 := 0) rfl rfl, fun U hU hW => ⟨rfl, by rw [hU]; exact hP.sub (ws' := [(m0, .inr (7, [.int (nI n), .ref g1, .ref g2, .ref g3, .int mr, .ref g4, .int (nI y), .ref g5, .int mo, .ref g6, .int ml, .ref g7, .ref g8, .ref g9, .ref g10, .ref g11, .ref g12])), (g5, .inl (cI, 9, .inl fn)), (g12, .inl (cI, 9, .inl th))]) [0, 2, 3] rfl, hKN.warm hW⟩⟩ rfl rfl hl.1 rfl (lv_room (Nat.le_of_ble_eq_true rfl)) dX7_sure_14 ⟨Nat.le_of_ble_eq_true rfl, Nat.le_of_ble_eq_true rfl⟩) hS hP (fun r2 H locs w2r hP hS => ?_)
    have w2 : r2 = nI (nowN fn n) := w2r
    clear w2r
    obtain rfl : r2 = nI (nowN fn n) := w2
    refine pu_i (va_runV (As := [.int (nI (nowN fn n))]) (rest := []) ⟨hx, hb, hml, hown, hts⟩ (c_X7_sureAt l D cI cJ cZ m0 g1 g2 g3 g4 g5 g6 g7 g8 g9 g10 g11 g12 n (nowN fn n) y mr mo ml fs th (by first | assumption | omega) (by first | assumption | omega) (by first | assumption | omega) (by first | assumption | omega) (by first | assumption | omega)) (cwV 1 hts gX7_sure_X7_sureAt rfl rfl rfl (by decide +kernel) ⟨Nat.le_of_ble_eq_true rfl, Nat.le_of_ble_eq_true rfl⟩) ⟨pc_blind, va_recv hK hP (ci := 7) (q0 := 0) rfl rfl, fun U hU hW => ⟨rfl, by rw [hU]; exact hP.sub (ws' := [(m0, .inr (7, [.int (nI n), .ref g1, .ref g2, .ref g3, .int mr, .ref g4, .int (nI y), .ref g5, .int mo, .ref g6, .int ml, .ref g7, .ref g8, .ref g9, .ref g10, .ref g11, .ref g12])), (g4, .inl (cZ, 20480, .inl fs)), (g12, .inl (cI, 9, .inl th))]) [0, 1, 3] rfl, hKN.warm hW⟩⟩ rfl rfl hl.1 rfl (lv_room (Nat.le_of_ble_eq_true rfl)) dX7_sure_17 ⟨Nat.le_of_ble_eq_true rfl, Nat.le_of_ble_eq_true rfl⟩) hS hP (fun r3 H locs w3r hP hS => ?_)
    have w3 : (r3 = nI 1 ∧ Sg fs y (setN (nowN fn n) 1 n)) ∨ (r3 = -1 ∧ ¬ Sg fs y (setN (nowN fn n) 1 n) ∧ Sg fs y (2 ^ n - 1 - setN (nowN fn n) 2 n)) ∨ (r3 = nI 0 ∧ ¬ Sg fs y (setN (nowN fn n) 1 n) ∧ ¬ Sg fs y (2 ^ n - 1 - setN (nowN fn n) 2 n)) := w3r
    clear w3r
    rw [← hQ]
    exact W.iret (v := r3) hx hb hr (fun tS htS hWS => ⟨⟨r3, (), rfl, w3, trivial⟩, hS.F htS⟩) hS.2.2 dX7_sure_20
  · exact absurd c1 (by first | decide | exact nz_lt (by omega) | exact fun h => h (nz_ge (by omega)))
