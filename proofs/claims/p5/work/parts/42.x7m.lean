
def T01 (f : Nat → Int32) : Prop := ∀ z, f z = nI 0 ∨ f z = nI 1
theorem m_u01 {f : Nat → Int32} {k : Nat} {x : Int32} (h : T01 f) (hx : x = nI 0 ∨ x = nI 1) : T01 (upd f k x) := by
  intro z
  by_cases e : z = k
  · simp only [upd, e, if_true]; exact hx
  · simp only [upd, e, if_false]; exact h z
/-- a rule was added (answer c0), or NONE and nothing is changed -/
def ADD (r : Int32) (c0 : Nat) (fs : Nat → Int32) (P : Prop) (uc : Int32) (us : Nat → Int32) : Prop := (r = nI c0 ∧ P ∧ uc = nI (c0 + 1) ∧ T01 us) ∨ (r = -1 ∧ ¬ P ∧ uc = nI c0 ∧ us = fs)
def rm_c_X7_row_g : Room := { frames := 2, cells := 0, slots := 0, locals := 46 }
set_option maxHeartbeats 400000 in
set_option maxRecDepth 100000 in
theorem c_X7_row_g (l : Launch) (D : va_G) (cI cJ cZ : ClassId) (m0 : Nat) (g1 : Nat) (g2 : Nat) (g3 : Nat) (g4 : Nat) (g5 : Nat) (g6 : Nat) (g7 : Nat) (g8 : Nat) (g9 : Nat) (g10 : Nat) (g11 : Nat) (g12 : Nat) (n : Nat) (c0 : Nat) (my : Int32) (mo : Int32) (ml : Int32) (p0 : Int32) (p1 : Int32) (fs : Nat → Int32) (hn : n ≤ 9) (h1n : 1 ≤ n) (hc : c0 ≤ 40) (h01 : T01 fs) : Met l yX7_row wsX7_row rm_c_X7_row_g (pm_ D cI cJ cZ [.ref m0, .int p0, .int p1] [(m0, .inr (7, [.int (nI n), .ref g1, .ref g2, .ref g3, .int (nI c0), .ref g4, .int my, .ref g5, .int mo, .ref g6, .int ml, .ref g7, .ref g8, .ref g9, .ref g10, .ref g11, .ref g12])), (g4, .inl (cZ, 20480, .inl fs))]) (va_Qi (fun (r : Int32) (u : Int32 × (Nat → Int32)) => ADD r c0 fs ((0 ≤ p0.toInt ∧ p0.toInt < c0) ∧ (0 ≤ p1.toInt ∧ p1.toInt < c0) ∧ c0 < 40) u.1 u.2) (fun (u : Int32 × (Nat → Int32)) tS => va_P D vwCl [(m0, .inr (7, [.int (nI n), .ref g1, .ref g2, .ref g3, .int u.1, .ref g4, .int my, .ref g5, .int mo, .ref g6, .int ml, .ref g7, .ref g8, .ref g9, .ref g10, .ref g11, .ref g12])), (g4, .inl (cZ, 20480, .inl u.2))] tS.heap) (aA [m0, g4])) 0 0 (aA [m0, g4]) := by
  refine Met.ofW (cc := cX7_row) (maxL := 4) (ret := (some .int)) (by decide) rfl ?_
  intro p e s m args below meth c s₁ B hml hv
  obtain ⟨rfl, hP, hKN, hD0⟩ := hv
  have hK := hKN.1
  have hx := B.exec
  have hb := B.bytes
  have hr := B.returns
  have hts := atoms_spec (ws := wsX7_row) B.pre
  have hown : s.vm.findClass RX7 = some m.cls := findClass_of_methodNamed B.named
  have hlocks := B.notSynchronized
  have hiX7 : ∀ w ∈ wsX70, w ∈ wsX7_row := by decide +kernel
  have hf23 := hts (.fieldLink RX7 23 "LookBenchModel" "says" "[Z") (by decide +kernel)
  have hf59 := hts (.fieldLink RX7 59 "LookBenchModel" "rules" "I") (by decide +kernel)
  obtain ⟨as, has⟩ : ∃ z : List Nat, z = [m0, g4] := ⟨_, rfl⟩
  have hD := hD0.addr (as := as) (by rw [has]; rfl)
  have hS : va_S (aA as) s.heap s.heap [] := va_S.rf
  have hl := lv_entry ([.ref m0, .int p0, .int p1]) (n := 4) (Nat.le_of_ble_eq_true rfl)
  rw [lg_entry_eq]
  generalize (lg_sl ([.ref m0, .int p0, .int p1]) ++ List.replicate (4 - (lg_sl ([.ref m0, .int p0, .int p1])).length) Slot.unset).toArray = ls at hl ⊢
  have hl : lv_has ls 4 [(0, .ref m0), (1, .int p0), (2, .int p1)] := hl
  generalize hQ : MQ below _ _ s _ _ _ = Q
  obtain ⟨H, hH⟩ : ∃ z, z = s.heap := ⟨_, rfl⟩
  have hP : va_P D vwCl [(m0, .inr (7, [.int (nI n), .ref g1, .ref g2, .ref g3, .int (nI c0), .ref g4, .int my, .ref g5, .int mo, .ref g6, .int ml, .ref g7, .ref g8, .ref g9, .ref g10, .ref g11, .ref g12])), (g4, .inl (cZ, 20480, .inl fs))] H := by rw [hH]; exact hP
  have hS : va_S (aA as) s.heap H [] := by rw [hH]; exact hS
  refine m_heap hH ?_
  clear hH
  have h2n := m_pow hn
  have h2p := m_powp n
  refine lv_aload_n hx hb dX7_row_0 rfl (lv_at hl 0 rfl) ?_
  refine lv_iload_n hx hb dX7_row_1 rfl (lv_at hl 1 rfl) ?_
  refine pu_i (va_runV (As := [.int p0]) (rest := []) ⟨hx, hb, hml, hown, hts⟩ (c_X7_isRule l D cI cJ cZ m0 g1 g2 g3 g4 g5 g6 g7 g8 g9 g10 g11 g12 c0 (nI n) my mo ml p0 (by first | assumption | omega)) (cwV 1 hts gX7_row_X7_isRule rfl rfl rfl (by decide +kernel) ⟨Nat.le_of_ble_eq_true rfl, Nat.le_of_ble_eq_true rfl⟩) ⟨pc_blind, va_recv hK hP (ci := 7) (q0 := 0) rfl rfl, fun U hU hW => ⟨rfl, by rw [hU]; exact hP.sub (ws' := [(m0, .inr (7, [.int (nI n), .ref g1, .ref g2, .ref g3, .int (nI c0), .ref g4, .int my, .ref g5, .int mo, .ref g6, .int ml, .ref g7, .ref g8, .ref g9, .ref g10, .ref g11, .ref g12]))]) [0] rfl, hKN.warm hW⟩⟩ rfl rfl hl.1 rfl (lv_room (Nat.le_of_ble_eq_true rfl)) dX7_row_2 ⟨Nat.le_of_ble_eq_true rfl, Nat.le_of_ble_eq_true rfl⟩) hS hP (fun r1 H locs w1r hP hS => ?_)
  have w1 : B01 r1 (0 ≤ p0.toInt ∧ p0.toInt < c0) := w1r
  clear w1r
  rcases w1 with ⟨rfl, w1⟩ | ⟨rfl, w1⟩
  · skip
    obtain ⟨j9, hj9, rfl⟩ := m_nat w1
    have tj9 : (nI j9).toInt = (j9 : Int) := nI_toInt (by omega)
    refine lv_if_eq (tgt := 25) hx hb dX7_row_5 (by decide) (fun c2 => ?_) (fun c2 => ?_)
    · exact absurd c2 (by first | decide | exact nz_lt (by omega) | exact fun h => h (nz_ge (by omega)))
    · skip
      refine lv_aload_n hx hb dX7_row_8 rfl (lv_at hl 0 rfl) ?_
      refine lv_iload_n hx hb dX7_row_9 rfl (lv_at hl 2 rfl) ?_
      refine pu_i (va_runV (As := [.int p1]) (rest := []) ⟨hx, hb, hml, hown, hts⟩ (c_X7_isRule l D cI cJ cZ m0 g1 g2 g3 g4 g5 g6 g7 g8 g9 g10 g11 g12 c0 (nI n) my mo ml p1 (by first | assumption | omega)) (cwV 1 hts gX7_row_X7_isRule rfl rfl rfl (by decide +kernel) ⟨Nat.le_of_ble_eq_true rfl, Nat.le_of_ble_eq_true rfl⟩) ⟨pc_blind, va_recv hK hP (ci := 7) (q0 := 0) rfl rfl, fun U hU hW => ⟨rfl, by rw [hU]; exact hP.sub (ws' := [(m0, .inr (7, [.int (nI n), .ref g1, .ref g2, .ref g3, .int (nI c0), .ref g4, .int my, .ref g5, .int mo, .ref g6, .int ml, .ref g7, .ref g8, .ref g9, .ref g10, .ref g11, .ref g12]))]) [0] rfl, hKN.warm hW⟩⟩ rfl rfl hl.1 rfl (lv_room (Nat.le_of_ble_eq_true rfl)) dX7_row_10 ⟨Nat.le_of_ble_eq_true rfl, Nat.le_of_ble_eq_true rfl⟩) hS hP (fun r3 H locs w3r hP hS => ?_)
      have w3 : B01 r3 (0 ≤ p1.toInt ∧ p1.toInt < c0) := w3r
      clear w3r
      rcases w3 with ⟨rfl, w3⟩ | ⟨rfl, w3⟩
      · skip
        obtain ⟨j8, hj8, rfl⟩ := m_nat w3
        have tj8 : (nI j8).toInt = (j8 : Int) := nI_toInt (by omega)
        refine lv_if_eq (tgt := 25) hx hb dX7_row_13 (by decide) (fun c4 => ?_) (fun c4 => ?_)
        · exact absurd c4 (by first | decide | exact nz_lt (by omega) | exact fun h => h (nz_ge (by omega)))
        · skip
          refine lv_aload_n hx hb dX7_row_16 rfl (lv_at hl 0 rfl) ?_
          refine va_get (D := D) (ci := 7) (v := .int (nI c0)) (C := RX7) (T := TX7) (N := 17) hx hb hts hiX7 hown hK hP 0 rfl rfl 4 (by decide) hf59 (fun _ h9 => h9) rfl dX7_row_17 ?_
          refine lv_bipush (v := nI 40) hx hb dX7_row_20 (by decide) ?_
          refine lv_icmp_ne (tgt := 27) hx hb dX7_row_22 (by decide) (fun c5 => ?_) (fun c5 => ?_)
          · skip
            have d5 := c5
            rw [nI_eq (by omega) (by omega)] at d5
            refine lv_iconst (v := nI 0) hx hb dX7_row_27 (by decide) ?_
            refine lv_istore_n (lv' := [(3, .int (nI 0)), (0, .ref m0), (1, .int (nI j9)), (2, .int (nI j8))]) hx hb dX7_row_28 rfl hl (by decide) rfl (fun ls hl => ?_)
            have loop6 : ∀ (fu : Nat) (k : Nat) (us : Nat → Int32) (H : Heap) (locs : List Loc) (ls : Array Slot), (k ≤ 2 ^ n ∧ 2 ^ n < k + fu) → (T01 us) → va_P D vwCl [(m0, .inr (7, [.int (nI n), .ref g1, .ref g2, .ref g3, .int (nI c0), .ref g4, .int my, .ref g5, .int mo, .ref g6, .int ml, .ref g7, .ref g8, .ref g9, .ref g10, .ref g11, .ref g12])), (g4, .inl (cZ, 20480, .inl us))] H → va_D (aA as) [(m0, .inr (7, [.int (nI n), .ref g1, .ref g2, .ref g3, .int (nI c0), .ref g4, .int my, .ref g5, .int mo, .ref g6, .int ml, .ref g7, .ref g8, .ref g9, .ref g10, .ref g11, .ref g12])), (g4, .inl (cZ, 20480, .inl us))] → va_S (aA as) s.heap H locs → lv_has ls 4 [(3, .int (nI k)), (0, .ref m0), (1, .int (nI j9)), (2, .int (nI j8))] → W p l e (headSpec wsX7_row rm_c_X7_row_g).room s m ([.ref m0, .int (nI j9), .int (nI j8)] : List Value).toArray below meth c H locs 0 0 Q (F0 m 29 ls []) := by
              intro fu
              induction fu with
              | zero => intro k us H locs ls hk hT; exact absurd hk (by omega)
              | succ fu ih6 =>
                intro k us H locs ls hk hT hP hD hS hl
                refine lv_iload_n hx hb dX7_row_29 rfl (lv_at hl 0 rfl) ?_
                refine lv_aload_n hx hb dX7_row_30 rfl (lv_at hl 1 rfl) ?_
                refine pu_i (va_runV (As := []) (rest := [.int (nI k)]) ⟨hx, hb, hml, hown, hts⟩ (c_X7_settings l D cI cJ cZ m0 g1 g2 g3 g4 g5 g6 g7 g8 g9 g10 g11 g12 n (nI c0) my mo ml (by first | assumption | omega)) (cwV 0 hts gX7_row_X7_settings rfl rfl rfl (by decide +kernel) ⟨Nat.le_of_ble_eq_true rfl, Nat.le_of_ble_eq_true rfl⟩) ⟨pc_blind, va_recv hK hP (ci := 7) (q0 := 0) rfl rfl, fun U hU hW => ⟨rfl, by rw [hU]; exact hP.sub (ws' := [(m0, .inr (7, [.int (nI n), .ref g1, .ref g2, .ref g3, .int (nI c0), .ref g4, .int my, .ref g5, .int mo, .ref g6, .int ml, .ref g7, .ref g8, .ref g9, .ref g10, .ref g11, .ref g12]))]) [0] rfl, hKN.warm hW⟩⟩ rfl rfl hl.1 rfl (lv_room (Nat.le_of_ble_eq_true rfl)) dX7_row_31 ⟨Nat.le_of_ble_eq_true rfl, Nat.le_of_ble_eq_true rfl⟩) hS hP (fun r7 H locs w7r hP hS => ?_)
                have w7 : r7 = nI (2 ^ n) := w7r
                clear w7r
                obtain rfl : r7 = nI (2 ^ n) := w7
                refine lv_icmp_ge (tgt := 93) hx hb dX7_row_34 (by decide) (fun c8 => ?_) (fun c8 => ?_)
                · skip
                  have d8 := c8
                  rw [nI_leI (by omega) (by omega)] at d8
                  refine lv_aload_n hx hb dX7_row_93 rfl (lv_at hl 1 rfl) ?_
                  refine mu_i (n := 2) (wc := [(m0, .inr (7, [.int (nI n), .ref g1, .ref g2, .ref g3, .int (nI c0), .ref g4, .int my, .ref g5, .int mo, .ref g6, .int ml, .ref g7, .ref g8, .ref g9, .ref g10, .ref g11, .ref g12]))]) (va_runV (As := []) (rest := []) ⟨hx, hb, hml, hown, hts⟩ (c_X7_added l D cI cJ cZ m0 g1 g2 g3 g4 g5 g6 g7 g8 g9 g10 g11 g12 c0 (nI n) my mo ml (by first | assumption | omega)) (cwV 0 hts gX7_row_X7_added rfl rfl rfl (by decide +kernel) ⟨Nat.le_of_ble_eq_true rfl, Nat.le_of_ble_eq_true rfl⟩) ⟨pm_blind, va_recv hK hP (ci := 7) (q0 := 0) rfl rfl, fun U hU hW => ⟨rfl, by rw [hU]; exact hP.sub (ws' := [(m0, .inr (7, [.int (nI n), .ref g1, .ref g2, .ref g3, .int (nI c0), .ref g4, .int my, .ref g5, .int mo, .ref g6, .int ml, .ref g7, .ref g8, .ref g9, .ref g10, .ref g11, .ref g12]))]) [0] rfl, hKN.warm hW, (hD.sub (ws' := [(m0, .inr (7, [.int (nI n), .ref g1, .ref g2, .ref g3, .int (nI c0), .ref g4, .int my, .ref g5, .int mo, .ref g6, .int ml, .ref g7, .ref g8, .ref g9, .ref g10, .ref g11, .ref g12]))]) [0] (by decide) rfl).weaken (fun _ _ _ _ => trivial)⟩⟩ rfl rfl hl.1 rfl (lv_room (Nat.le_of_ble_eq_true rfl)) dX7_row_94 ⟨Nat.le_of_ble_eq_true rfl, Nat.le_of_ble_eq_true rfl⟩) hS hP hD (fun (u : Unit) => [(m0, .inr (7, [.int (nI n), .ref g1, .ref g2, .ref g3, .int (nI (c0 + 1)), .ref g4, .int my, .ref g5, .int mo, .ref g6, .int ml, .ref g7, .ref g8, .ref g9, .ref g10, .ref g11, .ref g12])), (g4, .inl (cZ, 20480, .inl us))]) [0] [1] rfl rfl (fun _ => rfl) (fun _ => rfl) (fun _ => rfl) (fun _ => rfl) (by decide) (by decide) (fun r9 u9 H locs w9r hP hD hS => ?_)
                  have hP : va_P D vwCl [(m0, .inr (7, [.int (nI n), .ref g1, .ref g2, .ref g3, .int (nI (c0 + 1)), .ref g4, .int my, .ref g5, .int mo, .ref g6, .int ml, .ref g7, .ref g8, .ref g9, .ref g10, .ref g11, .ref g12])), (g4, .inl (cZ, 20480, .inl us))] H := hP
                  have hD : va_D (aA as) [(m0, .inr (7, [.int (nI n), .ref g1, .ref g2, .ref g3, .int (nI (c0 + 1)), .ref g4, .int my, .ref g5, .int mo, .ref g6, .int ml, .ref g7, .ref g8, .ref g9, .ref g10, .ref g11, .ref g12])), (g4, .inl (cZ, 20480, .inl us))] := hD
                  have w9 : r9 = nI c0 := w9r
                  clear w9r
                  rw [← hQ]
                  exact W.iret (v := r9) hx hb hr (fun tS htS hWS => ⟨⟨r9, (nI (c0 + 1), us), rfl, Or.inl ⟨by assumption, by omega, rfl, by assumption⟩, m_at htS hP⟩, by rw [← has]; exact hS.F htS⟩) (by rw [← has]; exact hS.2.2) dX7_row_97
                · skip
                  have d8 := c8
                  rw [nI_leI (by omega) (by omega)] at d8
                  refine lv_aload_n hx hb dX7_row_37 rfl (lv_at hl 1 rfl) ?_
                  refine va_get (D := D) (ci := 7) (v := .ref g4) (C := RX7) (T := TX7) (N := 17) hx hb hts hiX7 hown hK hP 0 rfl rfl 5 (by decide) hf23 (fun _ h9 => h9) rfl dX7_row_38 ?_
                  refine lv_sipush (v := nI 512) hx hb dX7_row_41 (by decide) ?_
                  refine lv_aload_n hx hb dX7_row_44 rfl (lv_at hl 1 rfl) ?_
                  refine va_get (D := D) (ci := 7) (v := .int (nI c0)) (C := RX7) (T := TX7) (N := 17) hx hb hts hiX7 hown hK hP 0 rfl rfl 4 (by decide) hf59 (fun _ h9 => h9) rfl dX7_row_45 ?_
                  refine lv_imul hx hb dX7_row_48 ?_
                  refine cn_i (y := nI (512 * c0)) (pk_mul 512 c0) ?_
                  refine lv_iload_n hx hb dX7_row_49 rfl (lv_at hl 0 rfl) ?_
                  refine lv_iadd hx hb dX7_row_50 ?_
                  refine cn_i (y := nI ((512 * c0) + k)) (nI_add (512 * c0) k) ?_
                  refine lv_aload_n hx hb dX7_row_51 rfl (lv_at hl 1 rfl) ?_
                  refine va_get (D := D) (ci := 7) (v := .ref g4) (C := RX7) (T := TX7) (N := 17) hx hb hts hiX7 hown hK hP 0 rfl rfl 5 (by decide) hf23 (fun _ h9 => h9) rfl dX7_row_52 ?_
                  refine lv_sipush (v := nI 512) hx hb dX7_row_55 (by decide) ?_
                  refine lv_iload_n hx hb dX7_row_58 rfl (lv_at hl 2 rfl) ?_
                  refine lv_imul hx hb dX7_row_59 ?_
                  refine cn_i (y := nI (512 * j9)) (pk_mul 512 j9) ?_
                  refine lv_iload_n hx hb dX7_row_60 rfl (lv_at hl 0 rfl) ?_
                  refine lv_iadd hx hb dX7_row_61 ?_
                  refine cn_i (y := nI ((512 * j9) + k)) (nI_add (512 * j9) k) ?_
                  refine va_zald hx hb hK hP 1 2 rfl rfl (i := nI ((512 * j9) + k)) (vp_in_nI (by omega) (by omega)) dX7_row_62 ?_
                  refine cn_i (y := us ((512 * j9) + k)) (congrArg us (nI_clamp (by omega))) ?_
                  refine lv_if_eq (tgt := 85) hx hb dX7_row_63 (by decide) (fun c10 => ?_) (fun c10 => ?_)
                  · skip
                    refine lv_iconst (v := nI 0) hx hb dX7_row_85 (by decide) ?_
                    refine va_zast hx hb hK hP hD hS 1 2 rfl rfl (i := nI ((512 * c0) + k)) (vp_in_nI (by omega) (by omega)) dX7_row_86 (fun H locs hP hD hS => ?_)
                    have hP : va_P D vwCl [(m0, .inr (7, [.int (nI n), .ref g1, .ref g2, .ref g3, .int (nI c0), .ref g4, .int my, .ref g5, .int mo, .ref g6, .int ml, .ref g7, .ref g8, .ref g9, .ref g10, .ref g11, .ref g12])), (g4, .inl (cZ, 20480, .inl (upd us (nI ((512 * c0) + k)).toNatClampNeg (vp_nar .boolean (nI 0)))))] H := hP
                    have hD : va_D (aA as) [(m0, .inr (7, [.int (nI n), .ref g1, .ref g2, .ref g3, .int (nI c0), .ref g4, .int my, .ref g5, .int mo, .ref g6, .int ml, .ref g7, .ref g8, .ref g9, .ref g10, .ref g11, .ref g12])), (g4, .inl (cZ, 20480, .inl (upd us (nI ((512 * c0) + k)).toNatClampNeg (vp_nar .boolean (nI 0)))))] := hD
                    rw [nI_clamp (n := ((512 * c0) + k)) (by omega)] at hP hD
                    refine lv_iinc (v := nI (k + 1)) (lv' := [(3, .int (nI (k + 1))), (0, .ref m0), (1, .int (nI j9)), (2, .int (nI j8))]) hx hb dX7_row_87 hl (k := 0) rfl (nI_1 k) (by decide) rfl (fun ls hl => ?_)
                    refine lv_goto (tgt := 29) hx hb dX7_row_90 (by decide) ?_
                    exact ih6 (k + 1) (upd us ((512 * c0) + k) (vp_nar .boolean (nI 0))) _ _ _ (by omega) (m_u01 hT (by decide)) hP hD hS (lv_sub hl [0, 1, 2, 3] rfl)
                  · skip
                    refine lv_aload_n hx hb dX7_row_66 rfl (lv_at hl 1 rfl) ?_
                    refine va_get (D := D) (ci := 7) (v := .ref g4) (C := RX7) (T := TX7) (N := 17) hx hb hts hiX7 hown hK hP 0 rfl rfl 5 (by decide) hf23 (fun _ h9 => h9) rfl dX7_row_67 ?_
                    refine lv_sipush (v := nI 512) hx hb dX7_row_70 (by decide) ?_
                    refine lv_iload_n hx hb dX7_row_73 rfl (lv_at hl 3 rfl) ?_
                    refine lv_imul hx hb dX7_row_74 ?_
                    refine cn_i (y := nI (512 * j8)) (pk_mul 512 j8) ?_
                    refine lv_iload_n hx hb dX7_row_75 rfl (lv_at hl 0 rfl) ?_
                    refine lv_iadd hx hb dX7_row_76 ?_
                    refine cn_i (y := nI ((512 * j8) + k)) (nI_add (512 * j8) k) ?_
                    refine va_zald hx hb hK hP 1 2 rfl rfl (i := nI ((512 * j8) + k)) (vp_in_nI (by omega) (by omega)) dX7_row_77 ?_
                    refine cn_i (y := us ((512 * j8) + k)) (congrArg us (nI_clamp (by omega))) ?_
                    refine lv_if_eq (tgt := 85) hx hb dX7_row_78 (by decide) (fun c11 => ?_) (fun c11 => ?_)
                    · skip
                      refine lv_iconst (v := nI 0) hx hb dX7_row_85 (by decide) ?_
                      refine va_zast hx hb hK hP hD hS 1 2 rfl rfl (i := nI ((512 * c0) + k)) (vp_in_nI (by omega) (by omega)) dX7_row_86 (fun H locs hP hD hS => ?_)
                      have hP : va_P D vwCl [(m0, .inr (7, [.int (nI n), .ref g1, .ref g2, .ref g3, .int (nI c0), .ref g4, .int my, .ref g5, .int mo, .ref g6, .int ml, .ref g7, .ref g8, .ref g9, .ref g10, .ref g11, .ref g12])), (g4, .inl (cZ, 20480, .inl (upd us (nI ((512 * c0) + k)).toNatClampNeg (vp_nar .boolean (nI 0)))))] H := hP
                      have hD : va_D (aA as) [(m0, .inr (7, [.int (nI n), .ref g1, .ref g2, .ref g3, .int (nI c0), .ref g4, .int my, .ref g5, .int mo, .ref g6, .int ml, .ref g7, .ref g8, .ref g9, .ref g10, .ref g11, .ref g12])), (g4, .inl (cZ, 20480, .inl (upd us (nI ((512 * c0) + k)).toNatClampNeg (vp_nar .boolean (nI 0)))))] := hD
                      rw [nI_clamp (n := ((512 * c0) + k)) (by omega)] at hP hD
                      refine lv_iinc (v := nI (k + 1)) (lv' := [(3, .int (nI (k + 1))), (0, .ref m0), (1, .int (nI j9)), (2, .int (nI j8))]) hx hb dX7_row_87 hl (k := 0) rfl (nI_1 k) (by decide) rfl (fun ls hl => ?_)
                      refine lv_goto (tgt := 29) hx hb dX7_row_90 (by decide) ?_
                      exact ih6 (k + 1) (upd us ((512 * c0) + k) (vp_nar .boolean (nI 0))) _ _ _ (by omega) (m_u01 hT (by decide)) hP hD hS (lv_sub hl [0, 1, 2, 3] rfl)
                    · skip
                      refine lv_iconst (v := nI 1) hx hb dX7_row_81 (by decide) ?_
                      refine lv_goto (tgt := 86) hx hb dX7_row_82 (by decide) ?_
                      refine va_zast hx hb hK hP hD hS 1 2 rfl rfl (i := nI ((512 * c0) + k)) (vp_in_nI (by omega) (by omega)) dX7_row_86 (fun H locs hP hD hS => ?_)
                      have hP : va_P D vwCl [(m0, .inr (7, [.int (nI n), .ref g1, .ref g2, .ref g3, .int (nI c0), .ref g4, .int my, .ref g5, .int mo, .ref g6, .int ml, .ref g7, .ref g8, .ref g9, .ref g10, .ref g11, .ref g12])), (g4, .inl (cZ, 20480, .inl (upd us (nI ((512 * c0) + k)).toNatClampNeg (vp_nar .boolean (nI 1)))))] H := hP
                      have hD : va_D (aA as) [(m0, .inr (7, [.int (nI n), .ref g1, .ref g2, .ref g3, .int (nI c0), .ref g4, .int my, .ref g5, .int mo, .ref g6, .int ml, .ref g7, .ref g8, .ref g9, .ref g10, .ref g11, .ref g12])), (g4, .inl (cZ, 20480, .inl (upd us (nI ((512 * c0) + k)).toNatClampNeg (vp_nar .boolean (nI 1)))))] := hD
                      rw [nI_clamp (n := ((512 * c0) + k)) (by omega)] at hP hD
                      refine lv_iinc (v := nI (k + 1)) (lv' := [(3, .int (nI (k + 1))), (0, .ref m0), (1, .int (nI j9)), (2, .int (nI j8))]) hx hb dX7_row_87 hl (k := 0) rfl (nI_1 k) (by decide) rfl (fun ls hl => ?_)
                      refine lv_goto (tgt := 29) hx hb dX7_row_90 (by decide) ?_
                      exact ih6 (k + 1) (upd us ((512 * c0) + k) (vp_nar .boolean (nI 1))) _ _ _ (by omega) (m_u01 hT (by decide)) hP hD hS (lv_sub hl [0, 1, 2, 3] rfl)
            exact loop6 (2 ^ n + 1) 0 fs _ _ _ (by omega) h01 hP hD hS (lv_sub hl [0, 1, 2, 3] rfl)
          · skip
            have d5 := c5
            rw [nI_eq (by omega) (by omega)] at d5
            refine lv_iconst (v := (-1 : Int32)) hx hb dX7_row_25 (by decide) ?_
            rw [← hQ]
            exact W.iret (v := (-1 : Int32)) hx hb hr (fun tS htS hWS => ⟨⟨(-1 : Int32), (nI c0, fs), rfl, Or.inr ⟨rfl, by omega, rfl, rfl⟩, m_at htS hP⟩, by rw [← has]; exact hS.F htS⟩) (by rw [← has]; exact hS.2.2) dX7_row_26
      · skip
        refine lv_if_eq (tgt := 25) hx hb dX7_row_13 (by decide) (fun c12 => ?_) (fun c12 => ?_)
        · skip
          refine lv_iconst (v := (-1 : Int32)) hx hb dX7_row_25 (by decide) ?_
          rw [← hQ]
          exact W.iret (v := (-1 : Int32)) hx hb hr (fun tS htS hWS => ⟨⟨(-1 : Int32), (nI c0, fs), rfl, Or.inr ⟨rfl, by omega, rfl, rfl⟩, m_at htS hP⟩, by rw [← has]; exact hS.F htS⟩) (by rw [← has]; exact hS.2.2) dX7_row_26
        · exact absurd c12 (by first | decide | exact nz_lt (by omega) | exact fun h => h (nz_ge (by omega)))
  · skip
    refine lv_if_eq (tgt := 25) hx hb dX7_row_5 (by decide) (fun c13 => ?_) (fun c13 => ?_)
    · skip
      refine lv_iconst (v := (-1 : Int32)) hx hb dX7_row_25 (by decide) ?_
      rw [← hQ]
      exact W.iret (v := (-1 : Int32)) hx hb hr (fun tS htS hWS => ⟨⟨(-1 : Int32), (nI c0, fs), rfl, Or.inr ⟨rfl, by omega, rfl, rfl⟩, m_at htS hP⟩, by rw [← has]; exact hS.F htS⟩) (by rw [← has]; exact hS.2.2) dX7_row_26
    · exact absurd c13 (by first | decide | exact nz_lt (by omega) | exact fun h => h (nz_ge (by omega)))
def rm_c_X7_side_g : Room := { frames := 2, cells := 0, slots := 0, locals := 46 }
set_option maxHeartbeats 400000 in
set_option maxRecDepth 100000 in
theorem c_X7_side_g (l : Launch) (D : va_G) (cI cJ cZ : ClassId) (m0 : Nat) (g1 : Nat) (g2 : Nat) (g3 : Nat) (g4 : Nat) (g5 : Nat) (g6 : Nat) (g7 : Nat) (g8 : Nat) (g9 : Nat) (g10 : Nat) (g11 : Nat) (g12 : Nat) (n : Nat) (c0 : Nat) (my : Int32) (mo : Int32) (ml : Int32) (p0 : Int32) (p1 : Int32) (fs : Nat → Int32) (hn : n ≤ 9) (h1n : 1 ≤ n) (hc : c0 ≤ 40) (h01 : T01 fs) : Met l yX7_side wsX7_side rm_c_X7_side_g (pm_ D cI cJ cZ [.ref m0, .int p0, .int p1] [(m0, .inr (7, [.int (nI n), .ref g1, .ref g2, .ref g3, .int (nI c0), .ref g4, .int my, .ref g5, .int mo, .ref g6, .int ml, .ref g7, .ref g8, .ref g9, .ref g10, .ref g11, .ref g12])), (g4, .inl (cZ, 20480, .inl fs))]) (va_Qi (fun (r : Int32) (u : Int32 × (Nat → Int32)) => ADD r c0 fs ((0 ≤ p0.toInt ∧ p0.toInt < c0) ∧ (0 ≤ p1.toInt ∧ p1.toInt < c0) ∧ c0 < 40) u.1 u.2) (fun (u : Int32 × (Nat → Int32)) tS => va_P D vwCl [(m0, .inr (7, [.int (nI n), .ref g1, .ref g2, .ref g3, .int u.1, .ref g4, .int my, .ref g5, .int mo, .ref g6, .int ml, .ref g7, .ref g8, .ref g9, .ref g10, .ref g11, .ref g12])), (g4, .inl (cZ, 20480, .inl u.2))] tS.heap) (aA [m0, g4])) 0 0 (aA [m0, g4]) := by
  refine Met.ofW (cc := cX7_side) (maxL := 4) (ret := (some .int)) (by decide) rfl ?_
  intro p e s m args below meth c s₁ B hml hv
  obtain ⟨rfl, hP, hKN, hD0⟩ := hv
  have hK := hKN.1
  have hx := B.exec
  have hb := B.bytes
  have hr := B.returns
  have hts := atoms_spec (ws := wsX7_side) B.pre
  have hown : s.vm.findClass RX7 = some m.cls := findClass_of_methodNamed B.named
  have hlocks := B.notSynchronized
  have hiX7 : ∀ w ∈ wsX70, w ∈ wsX7_side := by decide +kernel
  have hf23 := hts (.fieldLink RX7 23 "LookBenchModel" "says" "[Z") (by decide +kernel)
  have hf59 := hts (.fieldLink RX7 59 "LookBenchModel" "rules" "I") (by decide +kernel)
  obtain ⟨as, has⟩ : ∃ z : List Nat, z = [m0, g4] := ⟨_, rfl⟩
  have hD := hD0.addr (as := as) (by rw [has]; rfl)
  have hS : va_S (aA as) s.heap s.heap [] := va_S.rf
  have hl := lv_entry ([.ref m0, .int p0, .int p1]) (n := 4) (Nat.le_of_ble_eq_true rfl)
  rw [lg_entry_eq]
  generalize (lg_sl ([.ref m0, .int p0, .int p1]) ++ List.replicate (4 - (lg_sl ([.ref m0, .int p0, .int p1])).length) Slot.unset).toArray = ls at hl ⊢
  have hl : lv_has ls 4 [(0, .ref m0), (1, .int p0), (2, .int p1)] := hl
  generalize hQ : MQ below _ _ s _ _ _ = Q
  obtain ⟨H, hH⟩ : ∃ z, z = s.heap := ⟨_, rfl⟩
  have hP : va_P D vwCl [(m0, .inr (7, [.int (nI n), .ref g1, .ref g2, .ref g3, .int (nI c0), .ref g4, .int my, .ref g5, .int mo, .ref g6, .int ml, .ref g7, .ref g8, .ref g9, .ref g10, .ref g11, .ref g12])), (g4, .inl (cZ, 20480, .inl fs))] H := by rw [hH]; exact hP
  have hS : va_S (aA as) s.heap H [] := by rw [hH]; exact hS
  refine m_heap hH ?_
  clear hH
  have h2n := m_pow hn
  have h2p := m_powp n
  refine lv_aload_n hx hb dX7_side_0 rfl (lv_at hl 0 rfl) ?_
  refine lv_iload_n hx hb dX7_side_1 rfl (lv_at hl 1 rfl) ?_
  refine pu_i (va_runV (As := [.int p0]) (rest := []) ⟨hx, hb, hml, hown, hts⟩ (c_X7_isRule l D cI cJ cZ m0 g1 g2 g3 g4 g5 g6 g7 g8 g9 g10 g11 g12 c0 (nI n) my mo ml p0 (by first | assumption | omega)) (cwV 1 hts gX7_side_X7_isRule rfl rfl rfl (by decide +kernel) ⟨Nat.le_of_ble_eq_true rfl, Nat.le_of_ble_eq_true rfl⟩) ⟨pc_blind, va_recv hK hP (ci := 7) (q0 := 0) rfl rfl, fun U hU hW => ⟨rfl, by rw [hU]; exact hP.sub (ws' := [(m0, .inr (7, [.int (nI n), .ref g1, .ref g2, .ref g3, .int (nI c0), .ref g4, .int my, .ref g5, .int mo, .ref g6, .int ml, .ref g7, .ref g8, .ref g9, .ref g10, .ref g11, .ref g12]))]) [0] rfl, hKN.warm hW⟩⟩ rfl rfl hl.1 rfl (lv_room (Nat.le_of_ble_eq_true rfl)) dX7_side_2 ⟨Nat.le_of_ble_eq_true rfl, Nat.le_of_ble_eq_true rfl⟩) hS hP (fun r1 H locs w1r hP hS => ?_)
  have w1 : B01 r1 (0 ≤ p0.toInt ∧ p0.toInt < c0) := w1r
  clear w1r
  rcases w1 with ⟨rfl, w1⟩ | ⟨rfl, w1⟩
  · skip
    obtain ⟨j9, hj9, rfl⟩ := m_nat w1
    have tj9 : (nI j9).toInt = (j9 : Int) := nI_toInt (by omega)
    refine lv_if_eq (tgt := 25) hx hb dX7_side_5 (by decide) (fun c2 => ?_) (fun c2 => ?_)
    · exact absurd c2 (by first | decide | exact nz_lt (by omega) | exact fun h => h (nz_ge (by omega)))
    · skip
      refine lv_aload_n hx hb dX7_side_8 rfl (lv_at hl 0 rfl) ?_
      refine lv_iload_n hx hb dX7_side_9 rfl (lv_at hl 2 rfl) ?_
      refine pu_i (va_runV (As := [.int p1]) (rest := []) ⟨hx, hb, hml, hown, hts⟩ (c_X7_isRule l D cI cJ cZ m0 g1 g2 g3 g4 g5 g6 g7 g8 g9 g10 g11 g12 c0 (nI n) my mo ml p1 (by first | assumption | omega)) (cwV 1 hts gX7_side_X7_isRule rfl rfl rfl (by decide +kernel) ⟨Nat.le_of_ble_eq_true rfl, Nat.le_of_ble_eq_true rfl⟩) ⟨pc_blind, va_recv hK hP (ci := 7) (q0 := 0) rfl rfl, fun U hU hW => ⟨rfl, by rw [hU]; exact hP.sub (ws' := [(m0, .inr (7, [.int (nI n), .ref g1, .ref g2, .ref g3, .int (nI c0), .ref g4, .int my, .ref g5, .int mo, .ref g6, .int ml, .ref g7, .ref g8, .ref g9, .ref g10, .ref g11, .ref g12]))]) [0] rfl, hKN.warm hW⟩⟩ rfl rfl hl.1 rfl (lv_room (Nat.le_of_ble_eq_true rfl)) dX7_side_10 ⟨Nat.le_of_ble_eq_true rfl, Nat.le_of_ble_eq_true rfl⟩) hS hP (fun r3 H locs w3r hP hS => ?_)
      have w3 : B01 r3 (0 ≤ p1.toInt ∧ p1.toInt < c0) := w3r
      clear w3r
      rcases w3 with ⟨rfl, w3⟩ | ⟨rfl, w3⟩
      · skip
        obtain ⟨j8, hj8, rfl⟩ := m_nat w3
        have tj8 : (nI j8).toInt = (j8 : Int) := nI_toInt (by omega)
        refine lv_if_eq (tgt := 25) hx hb dX7_side_13 (by decide) (fun c4 => ?_) (fun c4 => ?_)
        · exact absurd c4 (by first | decide | exact nz_lt (by omega) | exact fun h => h (nz_ge (by omega)))
        · skip
          refine lv_aload_n hx hb dX7_side_16 rfl (lv_at hl 0 rfl) ?_
          refine va_get (D := D) (ci := 7) (v := .int (nI c0)) (C := RX7) (T := TX7) (N := 17) hx hb hts hiX7 hown hK hP 0 rfl rfl 4 (by decide) hf59 (fun _ h9 => h9) rfl dX7_side_17 ?_
          refine lv_bipush (v := nI 40) hx hb dX7_side_20 (by decide) ?_
          refine lv_icmp_ne (tgt := 27) hx hb dX7_side_22 (by decide) (fun c5 => ?_) (fun c5 => ?_)
          · skip
            have d5 := c5
            rw [nI_eq (by omega) (by omega)] at d5
            refine lv_iconst (v := nI 0) hx hb dX7_side_27 (by decide) ?_
            refine lv_istore_n (lv' := [(3, .int (nI 0)), (0, .ref m0), (1, .int (nI j9)), (2, .int (nI j8))]) hx hb dX7_side_28 rfl hl (by decide) rfl (fun ls hl => ?_)
            have loop6 : ∀ (fu : Nat) (k : Nat) (us : Nat → Int32) (H : Heap) (locs : List Loc) (ls : Array Slot), (k ≤ 2 ^ n ∧ 2 ^ n < k + fu) → (T01 us) → va_P D vwCl [(m0, .inr (7, [.int (nI n), .ref g1, .ref g2, .ref g3, .int (nI c0), .ref g4, .int my, .ref g5, .int mo, .ref g6, .int ml, .ref g7, .ref g8, .ref g9, .ref g10, .ref g11, .ref g12])), (g4, .inl (cZ, 20480, .inl us))] H → va_D (aA as) [(m0, .inr (7, [.int (nI n), .ref g1, .ref g2, .ref g3, .int (nI c0), .ref g4, .int my, .ref g5, .int mo, .ref g6, .int ml, .ref g7, .ref g8, .ref g9, .ref g10, .ref g11, .ref g12])), (g4, .inl (cZ, 20480, .inl us))] → va_S (aA as) s.heap H locs → lv_has ls 4 [(3, .int (nI k)), (0, .ref m0), (1, .int (nI j9)), (2, .int (nI j8))] → W p l e (headSpec wsX7_side rm_c_X7_side_g).room s m ([.ref m0, .int (nI j9), .int (nI j8)] : List Value).toArray below meth c H locs 0 0 Q (F0 m 29 ls []) := by
              intro fu
              induction fu with
              | zero => intro k us H locs ls hk hT; exact absurd hk (by omega)
              | succ fu ih6 =>
                intro k us H locs ls hk hT hP hD hS hl
                refine lv_iload_n hx hb dX7_side_29 rfl (lv_at hl 0 rfl) ?_
                refine lv_aload_n hx hb dX7_side_30 rfl (lv_at hl 1 rfl) ?_
                refine pu_i (va_runV (As := []) (rest := [.int (nI k)]) ⟨hx, hb, hml, hown, hts⟩ (c_X7_settings l D cI cJ cZ m0 g1 g2 g3 g4 g5 g6 g7 g8 g9 g10 g11 g12 n (nI c0) my mo ml (by first | assumption | omega)) (cwV 0 hts gX7_side_X7_settings rfl rfl rfl (by decide +kernel) ⟨Nat.le_of_ble_eq_true rfl, Nat.le_of_ble_eq_true rfl⟩) ⟨pc_blind, va_recv hK hP (ci := 7) (q0 := 0) rfl rfl, fun U hU hW => ⟨rfl, by rw [hU]; exact hP.sub (ws' := [(m0, .inr (7, [.int (nI n), .ref g1, .ref g2, .ref g3, .int (nI c0), .ref g4, .int my, .ref g5, .int mo, .ref g6, .int ml, .ref g7, .ref g8, .ref g9, .ref g10, .ref g11, .ref g12]))]) [0] rfl, hKN.warm hW⟩⟩ rfl rfl hl.1 rfl (lv_room (Nat.le_of_ble_eq_true rfl)) dX7_side_31 ⟨Nat.le_of_ble_eq_true rfl, Nat.le_of_ble_eq_true rfl⟩) hS hP (fun r7 H locs w7r hP hS => ?_)
                have w7 : r7 = nI (2 ^ n) := w7r
                clear w7r
                obtain rfl : r7 = nI (2 ^ n) := w7
                refine lv_icmp_ge (tgt := 93) hx hb dX7_side_34 (by decide) (fun c8 => ?_) (fun c8 => ?_)
                · skip
                  have d8 := c8
                  rw [nI_leI (by omega) (by omega)] at d8
                  refine lv_aload_n hx hb dX7_side_93 rfl (lv_at hl 1 rfl) ?_
                  refine mu_i (n := 2) (wc := [(m0, .inr (7, [.int (nI n), .ref g1, .ref g2, .ref g3, .int (nI c0), .ref g4, .int my, .ref g5, .int mo, .ref g6, .int ml, .ref g7, .ref g8, .ref g9, .ref g10, .ref g11, .ref g12]))]) (va_runV (As := []) (rest := []) ⟨hx, hb, hml, hown, hts⟩ (c_X7_added l D cI cJ cZ m0 g1 g2 g3 g4 g5 g6 g7 g8 g9 g10 g11 g12 c0 (nI n) my mo ml (by first | assumption | omega)) (cwV 0 hts gX7_side_X7_added rfl rfl rfl (by decide +kernel) ⟨Nat.le_of_ble_eq_true rfl, Nat.le_of_ble_eq_true rfl⟩) ⟨pm_blind, va_recv hK hP (ci := 7) (q0 := 0) rfl rfl, fun U hU hW => ⟨rfl, by rw [hU]; exact hP.sub (ws' := [(m0, .inr (7, [.int (nI n), .ref g1, .ref g2, .ref g3, .int (nI c0), .ref g4, .int my, .ref g5, .int mo, .ref g6, .int ml, .ref g7, .ref g8, .ref g9, .ref g10, .ref g11, .ref g12]))]) [0] rfl, hKN.warm hW, (hD.sub (ws' := [(m0, .inr (7, [.int (nI n), .ref g1, .ref g2, .ref g3, .int (nI c0), .ref g4, .int my, .ref g5, .int mo, .ref g6, .int ml, .ref g7, .ref g8, .ref g9, .ref g10, .ref g11, .ref g12]))]) [0] (by decide) rfl).weaken (fun _ _ _ _ => trivial)⟩⟩ rfl rfl hl.1 rfl (lv_room (Nat.le_of_ble_eq_true rfl)) dX7_side_94 ⟨Nat.le_of_ble_eq_true rfl, Nat.le_of_ble_eq_true rfl⟩) hS hP hD (fun (u : Unit) => [(m0, .inr (7, [.int (nI n), .ref g1, .ref g2, .ref g3, .int (nI (c0 + 1)), .ref g4, .int my, .ref g5, .int mo, .ref g6, .int ml, .ref g7, .ref g8, .ref g9, .ref g10, .ref g11, .ref g12])), (g4, .inl (cZ, 20480, .inl us))]) [0] [1] rfl rfl (fun _ => rfl) (fun _ => rfl) (fun _ => rfl) (fun _ => rfl) (by decide) (by decide) (fun r9 u9 H locs w9r hP hD hS => ?_)
                  have hP : va_P D vwCl [(m0, .inr (7, [.int (nI n), .ref g1, .ref g2, .ref g3, .int (nI (c0 + 1)), .ref g4, .int my, .ref g5, .int mo, .ref g6, .int ml, .ref g7, .ref g8, .ref g9, .ref g10, .ref g11, .ref g12])), (g4, .inl (cZ, 20480, .inl us))] H := hP
                  have hD : va_D (aA as) [(m0, .inr (7, [.int (nI n), .ref g1, .ref g2, .ref g3, .int (nI (c0 + 1)), .ref g4, .int my, .ref g5, .int mo, .ref g6, .int ml, .ref g7, .ref g8, .ref g9, .ref g10, .ref g11, .ref g12])), (g4, .inl (cZ, 20480, .inl us))] := hD
                  have w9 : r9 = nI c0 := w9r
                  clear w9r
                  rw [← hQ]
                  exact W.iret (v := r9) hx hb hr (fun tS htS hWS => ⟨⟨r9, (nI (c0 + 1), us), rfl, Or.inl ⟨by assumption, by omega, rfl, by assumption⟩, m_at htS hP⟩, by rw [← has]; exact hS.F htS⟩) (by rw [← has]; exact hS.2.2) dX7_side_97
                · skip
                  have d8 := c8
                  rw [nI_leI (by omega) (by omega)] at d8
                  refine lv_aload_n hx hb dX7_side_37 rfl (lv_at hl 1 rfl) ?_
                  refine va_get (D := D) (ci := 7) (v := .ref g4) (C := RX7) (T := TX7) (N := 17) hx hb hts hiX7 hown hK hP 0 rfl rfl 5 (by decide) hf23 (fun _ h9 => h9) rfl dX7_side_38 ?_
                  refine lv_sipush (v := nI 512) hx hb dX7_side_41 (by decide) ?_
                  refine lv_aload_n hx hb dX7_side_44 rfl (lv_at hl 1 rfl) ?_
                  refine va_get (D := D) (ci := 7) (v := .int (nI c0)) (C := RX7) (T := TX7) (N := 17) hx hb hts hiX7 hown hK hP 0 rfl rfl 4 (by decide) hf59 (fun _ h9 => h9) rfl dX7_side_45 ?_
                  refine lv_imul hx hb dX7_side_48 ?_
                  refine cn_i (y := nI (512 * c0)) (pk_mul 512 c0) ?_
                  refine lv_iload_n hx hb dX7_side_49 rfl (lv_at hl 0 rfl) ?_
                  refine lv_iadd hx hb dX7_side_50 ?_
                  refine cn_i (y := nI ((512 * c0) + k)) (nI_add (512 * c0) k) ?_
                  refine lv_aload_n hx hb dX7_side_51 rfl (lv_at hl 1 rfl) ?_
                  refine va_get (D := D) (ci := 7) (v := .ref g4) (C := RX7) (T := TX7) (N := 17) hx hb hts hiX7 hown hK hP 0 rfl rfl 5 (by decide) hf23 (fun _ h9 => h9) rfl dX7_side_52 ?_
                  refine lv_sipush (v := nI 512) hx hb dX7_side_55 (by decide) ?_
                  refine lv_iload_n hx hb dX7_side_58 rfl (lv_at hl 2 rfl) ?_
                  refine lv_imul hx hb dX7_side_59 ?_
                  refine cn_i (y := nI (512 * j9)) (pk_mul 512 j9) ?_
                  refine lv_iload_n hx hb dX7_side_60 rfl (lv_at hl 0 rfl) ?_
                  refine lv_iadd hx hb dX7_side_61 ?_
                  refine cn_i (y := nI ((512 * j9) + k)) (nI_add (512 * j9) k) ?_
                  refine va_zald hx hb hK hP 1 2 rfl rfl (i := nI ((512 * j9) + k)) (vp_in_nI (by omega) (by omega)) dX7_side_62 ?_
                  refine cn_i (y := us ((512 * j9) + k)) (congrArg us (nI_clamp (by omega))) ?_
                  refine lv_if_ne (tgt := 81) hx hb dX7_side_63 (by decide) (fun c10 => ?_) (fun c10 => ?_)
                  · skip
                    refine lv_iconst (v := nI 1) hx hb dX7_side_81 (by decide) ?_
                    refine lv_goto (tgt := 86) hx hb dX7_side_82 (by decide) ?_
                    refine va_zast hx hb hK hP hD hS 1 2 rfl rfl (i := nI ((512 * c0) + k)) (vp_in_nI (by omega) (by omega)) dX7_side_86 (fun H locs hP hD hS => ?_)
                    have hP : va_P D vwCl [(m0, .inr (7, [.int (nI n), .ref g1, .ref g2, .ref g3, .int (nI c0), .ref g4, .int my, .ref g5, .int mo, .ref g6, .int ml, .ref g7, .ref g8, .ref g9, .ref g10, .ref g11, .ref g12])), (g4, .inl (cZ, 20480, .inl (upd us (nI ((512 * c0) + k)).toNatClampNeg (vp_nar .boolean (nI 1)))))] H := hP
                    have hD : va_D (aA as) [(m0, .inr (7, [.int (nI n), .ref g1, .ref g2, .ref g3, .int (nI c0), .ref g4, .int my, .ref g5, .int mo, .ref g6, .int ml, .ref g7, .ref g8, .ref g9, .ref g10, .ref g11, .ref g12])), (g4, .inl (cZ, 20480, .inl (upd us (nI ((512 * c0) + k)).toNatClampNeg (vp_nar .boolean (nI 1)))))] := hD
                    rw [nI_clamp (n := ((512 * c0) + k)) (by omega)] at hP hD
                    refine lv_iinc (v := nI (k + 1)) (lv' := [(3, .int (nI (k + 1))), (0, .ref m0), (1, .int (nI j9)), (2, .int (nI j8))]) hx hb dX7_side_87 hl (k := 0) rfl (nI_1 k) (by decide) rfl (fun ls hl => ?_)
                    refine lv_goto (tgt := 29) hx hb dX7_side_90 (by decide) ?_
                    exact ih6 (k + 1) (upd us ((512 * c0) + k) (vp_nar .boolean (nI 1))) _ _ _ (by omega) (m_u01 hT (by decide)) hP hD hS (lv_sub hl [0, 1, 2, 3] rfl)
                  · skip
                    refine lv_aload_n hx hb dX7_side_66 rfl (lv_at hl 1 rfl) ?_
                    refine va_get (D := D) (ci := 7) (v := .ref g4) (C := RX7) (T := TX7) (N := 17) hx hb hts hiX7 hown hK hP 0 rfl rfl 5 (by decide) hf23 (fun _ h9 => h9) rfl dX7_side_67 ?_
                    refine lv_sipush (v := nI 512) hx hb dX7_side_70 (by decide) ?_
                    refine lv_iload_n hx hb dX7_side_73 rfl (lv_at hl 3 rfl) ?_
                    refine lv_imul hx hb dX7_side_74 ?_
                    refine cn_i (y := nI (512 * j8)) (pk_mul 512 j8) ?_
                    refine lv_iload_n hx hb dX7_side_75 rfl (lv_at hl 0 rfl) ?_
                    refine lv_iadd hx hb dX7_side_76 ?_
                    refine cn_i (y := nI ((512 * j8) + k)) (nI_add (512 * j8) k) ?_
                    refine va_zald hx hb hK hP 1 2 rfl rfl (i := nI ((512 * j8) + k)) (vp_in_nI (by omega) (by omega)) dX7_side_77 ?_
                    refine cn_i (y := us ((512 * j8) + k)) (congrArg us (nI_clamp (by omega))) ?_
                    refine lv_if_eq (tgt := 85) hx hb dX7_side_78 (by decide) (fun c11 => ?_) (fun c11 => ?_)
                    · skip
                      refine lv_iconst (v := nI 0) hx hb dX7_side_85 (by decide) ?_
                      refine va_zast hx hb hK hP hD hS 1 2 rfl rfl (i := nI ((512 * c0) + k)) (vp_in_nI (by omega) (by omega)) dX7_side_86 (fun H locs hP hD hS => ?_)
                      have hP : va_P D vwCl [(m0, .inr (7, [.int (nI n), .ref g1, .ref g2, .ref g3, .int (nI c0), .ref g4, .int my, .ref g5, .int mo, .ref g6, .int ml, .ref g7, .ref g8, .ref g9, .ref g10, .ref g11, .ref g12])), (g4, .inl (cZ, 20480, .inl (upd us (nI ((512 * c0) + k)).toNatClampNeg (vp_nar .boolean (nI 0)))))] H := hP
                      have hD : va_D (aA as) [(m0, .inr (7, [.int (nI n), .ref g1, .ref g2, .ref g3, .int (nI c0), .ref g4, .int my, .ref g5, .int mo, .ref g6, .int ml, .ref g7, .ref g8, .ref g9, .ref g10, .ref g11, .ref g12])), (g4, .inl (cZ, 20480, .inl (upd us (nI ((512 * c0) + k)).toNatClampNeg (vp_nar .boolean (nI 0)))))] := hD
                      rw [nI_clamp (n := ((512 * c0) + k)) (by omega)] at hP hD
                      refine lv_iinc (v := nI (k + 1)) (lv' := [(3, .int (nI (k + 1))), (0, .ref m0), (1, .int (nI j9)), (2, .int (nI j8))]) hx hb dX7_side_87 hl (k := 0) rfl (nI_1 k) (by decide) rfl (fun ls hl => ?_)
                      refine lv_goto (tgt := 29) hx hb dX7_side_90 (by decide) ?_
                      exact ih6 (k + 1) (upd us ((512 * c0) + k) (vp_nar .boolean (nI 0))) _ _ _ (by omega) (m_u01 hT (by decide)) hP hD hS (lv_sub hl [0, 1, 2, 3] rfl)
                    · skip
                      refine lv_iconst (v := nI 1) hx hb dX7_side_81 (by decide) ?_
                      refine lv_goto (tgt := 86) hx hb dX7_side_82 (by decide) ?_
                      refine va_zast hx hb hK hP hD hS 1 2 rfl rfl (i := nI ((512 * c0) + k)) (vp_in_nI (by omega) (by omega)) dX7_side_86 (fun H locs hP hD hS => ?_)
                      have hP : va_P D vwCl [(m0, .inr (7, [.int (nI n), .ref g1, .ref g2, .ref g3, .int (nI c0), .ref g4, .int my, .ref g5, .int mo, .ref g6, .int ml, .ref g7, .ref g8, .ref g9, .ref g10, .ref g11, .ref g12])), (g4, .inl (cZ, 20480, .inl (upd us (nI ((512 * c0) + k)).toNatClampNeg (vp_nar .boolean (nI 1)))))] H := hP
                      have hD : va_D (aA as) [(m0, .inr (7, [.int (nI n), .ref g1, .ref g2, .ref g3, .int (nI c0), .ref g4, .int my, .ref g5, .int mo, .ref g6, .int ml, .ref g7, .ref g8, .ref g9, .ref g10, .ref g11, .ref g12])), (g4, .inl (cZ, 20480, .inl (upd us (nI ((512 * c0) + k)).toNatClampNeg (vp_nar .boolean (nI 1)))))] := hD
                      rw [nI_clamp (n := ((512 * c0) + k)) (by omega)] at hP hD
                      refine lv_iinc (v := nI (k + 1)) (lv' := [(3, .int (nI (k + 1))), (0, .ref m0), (1, .int (nI j9)), (2, .int (nI j8))]) hx hb dX7_side_87 hl (k := 0) rfl (nI_1 k) (by decide) rfl (fun ls hl => ?_)
                      refine lv_goto (tgt := 29) hx hb dX7_side_90 (by decide) ?_
                      exact ih6 (k + 1) (upd us ((512 * c0) + k) (vp_nar .boolean (nI 1))) _ _ _ (by omega) (m_u01 hT (by decide)) hP hD hS (lv_sub hl [0, 1, 2, 3] rfl)
            exact loop6 (2 ^ n + 1) 0 fs _ _ _ (by omega) h01 hP hD hS (lv_sub hl [0, 1, 2, 3] rfl)
          · skip
            have d5 := c5
            rw [nI_eq (by omega) (by omega)] at d5
            refine lv_iconst (v := (-1 : Int32)) hx hb dX7_side_25 (by decide) ?_
            rw [← hQ]
            exact W.iret (v := (-1 : Int32)) hx hb hr (fun tS htS hWS => ⟨⟨(-1 : Int32), (nI c0, fs), rfl, Or.inr ⟨rfl, by omega, rfl, rfl⟩, m_at htS hP⟩, by rw [← has]; exact hS.F htS⟩) (by rw [← has]; exact hS.2.2) dX7_side_26
      · skip
        refine lv_if_eq (tgt := 25) hx hb dX7_side_13 (by decide) (fun c12 => ?_) (fun c12 => ?_)
        · skip
          refine lv_iconst (v := (-1 : Int32)) hx hb dX7_side_25 (by decide) ?_
          rw [← hQ]
          exact W.iret (v := (-1 : Int32)) hx hb hr (fun tS htS hWS => ⟨⟨(-1 : Int32), (nI c0, fs), rfl, Or.inr ⟨rfl, by omega, rfl, rfl⟩, m_at htS hP⟩, by rw [← has]; exact hS.F htS⟩) (by rw [← has]; exact hS.2.2) dX7_side_26
        · exact absurd c12 (by first | decide | exact nz_lt (by omega) | exact fun h => h (nz_ge (by omega)))
  · skip
    refine lv_if_eq (tgt := 25) hx hb dX7_side_5 (by decide) (fun c13 => ?_) (fun c13 => ?_)
    · skip
      refine lv_iconst (v := (-1 : Int32)) hx hb dX7_side_25 (by decide) ?_
      rw [← hQ]
      exact W.iret (v := (-1 : Int32)) hx hb hr (fun tS htS hWS => ⟨⟨(-1 : Int32), (nI c0, fs), rfl, Or.inr ⟨rfl, by omega, rfl, rfl⟩, m_at htS hP⟩, by rw [← has]; exact hS.F htS⟩) (by rw [← has]; exact hS.2.2) dX7_side_26
    · exact absurd c13 (by first | decide | exact nz_lt (by omega) | exact fun h => h (nz_ge (by omega)))
def rm_c_X7_dual_g : Room := { frames := 2, cells := 0, slots := 0, locals := 46 }
set_option maxHeartbeats 400000 in
set_option maxRecDepth 100000 in
theorem c_X7_dual_g (l : Launch) (D : va_G) (cI cJ cZ : ClassId) (m0 : Nat) (g1 : Nat) (g2 : Nat) (g3 : Nat) (g4 : Nat) (g5 : Nat) (g6 : Nat) (g7 : Nat) (g8 : Nat) (g9 : Nat) (g10 : Nat) (g11 : Nat) (g12 : Nat) (n : Nat) (c0 : Nat) (my : Int32) (mo : Int32) (ml : Int32) (p0 : Int32) (fs : Nat → Int32) (hn : n ≤ 9) (h1n : 1 ≤ n) (hc : c0 ≤ 40) (h01 : T01 fs) : Met l yX7_dual wsX7_dual rm_c_X7_dual_g (pm_ D cI cJ cZ [.ref m0, .int p0] [(m0, .inr (7, [.int (nI n), .ref g1, .ref g2, .ref g3, .int (nI c0), .ref g4, .int my, .ref g5, .int mo, .ref g6, .int ml, .ref g7, .ref g8, .ref g9, .ref g10, .ref g11, .ref g12])), (g4, .inl (cZ, 20480, .inl fs))]) (va_Qi (fun (r : Int32) (u : Int32 × (Nat → Int32)) => ADD r c0 fs ((0 ≤ p0.toInt ∧ p0.toInt < c0) ∧ c0 < 40) u.1 u.2) (fun (u : Int32 × (Nat → Int32)) tS => va_P D vwCl [(m0, .inr (7, [.int (nI n), .ref g1, .ref g2, .ref g3, .int u.1, .ref g4, .int my, .ref g5, .int mo, .ref g6, .int ml, .ref g7, .ref g8, .ref g9, .ref g10, .ref g11, .ref g12])), (g4, .inl (cZ, 20480, .inl u.2))] tS.heap) (aA [m0, g4])) 0 0 (aA [m0, g4]) := by
  refine Met.ofW (cc := cX7_dual) (maxL := 3) (ret := (some .int)) (by decide) rfl ?_
  intro p e s m args below meth c s₁ B hml hv
  obtain ⟨rfl, hP, hKN, hD0⟩ := hv
  have hK := hKN.1
  have hx := B.exec
  have hb := B.bytes
  have hr := B.returns
  have hts := atoms_spec (ws := wsX7_dual) B.pre
  have hown : s.vm.findClass RX7 = some m.cls := findClass_of_methodNamed B.named
  have hlocks := B.notSynchronized
  have hiX7 : ∀ w ∈ wsX70, w ∈ wsX7_dual := by decide +kernel
  have hf23 := hts (.fieldLink RX7 23 "LookBenchModel" "says" "[Z") (by decide +kernel)
  have hf59 := hts (.fieldLink RX7 59 "LookBenchModel" "rules" "I") (by decide +kernel)
  obtain ⟨as, has⟩ : ∃ z : List Nat, z = [m0, g4] := ⟨_, rfl⟩
  have hD := hD0.addr (as := as) (by rw [has]; rfl)
  have hS : va_S (aA as) s.heap s.heap [] := va_S.rf
  have hl := lv_entry ([.ref m0, .int p0]) (n := 3) (Nat.le_of_ble_eq_true rfl)
  rw [lg_entry_eq]
  generalize (lg_sl ([.ref m0, .int p0]) ++ List.replicate (3 - (lg_sl ([.ref m0, .int p0])).length) Slot.unset).toArray = ls at hl ⊢
  have hl : lv_has ls 3 [(0, .ref m0), (1, .int p0)] := hl
  generalize hQ : MQ below _ _ s _ _ _ = Q
  obtain ⟨H, hH⟩ : ∃ z, z = s.heap := ⟨_, rfl⟩
  have hP : va_P D vwCl [(m0, .inr (7, [.int (nI n), .ref g1, .ref g2, .ref g3, .int (nI c0), .ref g4, .int my, .ref g5, .int mo, .ref g6, .int ml, .ref g7, .ref g8, .ref g9, .ref g10, .ref g11, .ref g12])), (g4, .inl (cZ, 20480, .inl fs))] H := by rw [hH]; exact hP
  have hS : va_S (aA as) s.heap H [] := by rw [hH]; exact hS
  refine m_heap hH ?_
  clear hH
  have h2n := m_pow hn
  have h2p := m_powp n
  refine lv_aload_n hx hb dX7_dual_0 rfl (lv_at hl 0 rfl) ?_
  refine lv_iload_n hx hb dX7_dual_1 rfl (lv_at hl 1 rfl) ?_
  refine pu_i (va_runV (As := [.int p0]) (rest := []) ⟨hx, hb, hml, hown, hts⟩ (c_X7_isRule l D cI cJ cZ m0 g1 g2 g3 g4 g5 g6 g7 g8 g9 g10 g11 g12 c0 (nI n) my mo ml p0 (by first | assumption | omega)) (cwV 1 hts gX7_dual_X7_isRule rfl rfl rfl (by decide +kernel) ⟨Nat.le_of_ble_eq_true rfl, Nat.le_of_ble_eq_true rfl⟩) ⟨pc_blind, va_recv hK hP (ci := 7) (q0 := 0) rfl rfl, fun U hU hW => ⟨rfl, by rw [hU]; exact hP.sub (ws' := [(m0, .inr (7, [.int (nI n), .ref g1, .ref g2, .ref g3, .int (nI c0), .ref g4, .int my, .ref g5, .int mo, .ref g6, .int ml, .ref g7, .ref g8, .ref g9, .ref g10, .ref g11, .ref g12]))]) [0] rfl, hKN.warm hW⟩⟩ rfl rfl hl.1 rfl (lv_room (Nat.le_of_ble_eq_true rfl)) dX7_dual_2 ⟨Nat.le_of_ble_eq_true rfl, Nat.le_of_ble_eq_true rfl⟩) hS hP (fun r1 H locs w1r hP hS => ?_)
  have w1 : B01 r1 (0 ≤ p0.toInt ∧ p0.toInt < c0) := w1r
  clear w1r
  rcases w1 with ⟨rfl, w1⟩ | ⟨rfl, w1⟩
  · skip
    obtain ⟨j9, hj9, rfl⟩ := m_nat w1
    have tj9 : (nI j9).toInt = (j9 : Int) := nI_toInt (by omega)
    refine lv_if_eq (tgt := 17) hx hb dX7_dual_5 (by decide) (fun c2 => ?_) (fun c2 => ?_)
    · exact absurd c2 (by first | decide | exact nz_lt (by omega) | exact fun h => h (nz_ge (by omega)))
    · skip
      refine lv_aload_n hx hb dX7_dual_8 rfl (lv_at hl 0 rfl) ?_
      refine va_get (D := D) (ci := 7) (v := .int (nI c0)) (C := RX7) (T := TX7) (N := 17) hx hb hts hiX7 hown hK hP 0 rfl rfl 4 (by decide) hf59 (fun _ h9 => h9) rfl dX7_dual_9 ?_
      refine lv_bipush (v := nI 40) hx hb dX7_dual_12 (by decide) ?_
      refine lv_icmp_ne (tgt := 19) hx hb dX7_dual_14 (by decide) (fun c3 => ?_) (fun c3 => ?_)
      · skip
        have d3 := c3
        rw [nI_eq (by omega) (by omega)] at d3
        refine lv_iconst (v := nI 0) hx hb dX7_dual_19 (by decide) ?_
        refine lv_istore_n (lv' := [(2, .int (nI 0)), (0, .ref m0), (1, .int (nI j9))]) hx hb dX7_dual_20 rfl hl (by decide) rfl (fun ls hl => ?_)
        have loop4 : ∀ (fu : Nat) (k : Nat) (us : Nat → Int32) (H : Heap) (locs : List Loc) (ls : Array Slot), (k ≤ 2 ^ n ∧ 2 ^ n < k + fu) → (T01 us) → va_P D vwCl [(m0, .inr (7, [.int (nI n), .ref g1, .ref g2, .ref g3, .int (nI c0), .ref g4, .int my, .ref g5, .int mo, .ref g6, .int ml, .ref g7, .ref g8, .ref g9, .ref g10, .ref g11, .ref g12])), (g4, .inl (cZ, 20480, .inl us))] H → va_D (aA as) [(m0, .inr (7, [.int (nI n), .ref g1, .ref g2, .ref g3, .int (nI c0), .ref g4, .int my, .ref g5, .int mo, .ref g6, .int ml, .ref g7, .ref g8, .ref g9, .ref g10, .ref g11, .ref g12])), (g4, .inl (cZ, 20480, .inl us))] → va_S (aA as) s.heap H locs → lv_has ls 3 [(2, .int (nI k)), (0, .ref m0), (1, .int (nI j9))] → W p l e (headSpec wsX7_dual rm_c_X7_dual_g).room s m ([.ref m0, .int (nI j9)] : List Value).toArray below meth c H locs 0 0 Q (F0 m 21 ls []) := by
          intro fu
          induction fu with
          | zero => intro k us H locs ls hk hT; exact absurd hk (by omega)
          | succ fu ih4 =>
            intro k us H locs ls hk hT hP hD hS hl
            refine lv_iload_n hx hb dX7_dual_21 rfl (lv_at hl 0 rfl) ?_
            refine lv_aload_n hx hb dX7_dual_22 rfl (lv_at hl 1 rfl) ?_
            refine pu_i (va_runV (As := []) (rest := [.int (nI k)]) ⟨hx, hb, hml, hown, hts⟩ (c_X7_settings l D cI cJ cZ m0 g1 g2 g3 g4 g5 g6 g7 g8 g9 g10 g11 g12 n (nI c0) my mo ml (by first | assumption | omega)) (cwV 0 hts gX7_dual_X7_settings rfl rfl rfl (by decide +kernel) ⟨Nat.le_of_ble_eq_true rfl, Nat.le_of_ble_eq_true rfl⟩) ⟨pc_blind, va_recv hK hP (ci := 7) (q0 := 0) rfl rfl, fun U hU hW => ⟨rfl, by rw [hU]; exact hP.sub (ws' := [(m0, .inr (7, [.int (nI n), .ref g1, .ref g2, .ref g3, .int (nI c0), .ref g4, .int my, .ref g5, .int mo, .ref g6, .int ml, .ref g7, .ref g8, .ref g9, .ref g10, .ref g11, .ref g12]))]) [0] rfl, hKN.warm hW⟩⟩ rfl rfl hl.1 rfl (lv_room (Nat.le_of_ble_eq_true rfl)) dX7_dual_23 ⟨Nat.le_of_ble_eq_true rfl, Nat.le_of_ble_eq_true rfl⟩) hS hP (fun r5 H locs w5r hP hS => ?_)
            have w5 : r5 = nI (2 ^ n) := w5r
            clear w5r
            obtain rfl : r5 = nI (2 ^ n) := w5
            refine lv_icmp_ge (tgt := 77) hx hb dX7_dual_26 (by decide) (fun c6 => ?_) (fun c6 => ?_)
            · skip
              have d6 := c6
              rw [nI_leI (by omega) (by omega)] at d6
              refine lv_aload_n hx hb dX7_dual_77 rfl (lv_at hl 1 rfl) ?_
              refine mu_i (n := 2) (wc := [(m0, .inr (7, [.int (nI n), .ref g1, .ref g2, .ref g3, .int (nI c0), .ref g4, .int my, .ref g5, .int mo, .ref g6, .int ml, .ref g7, .ref g8, .ref g9, .ref g10, .ref g11, .ref g12]))]) (va_runV (As := []) (rest := []) ⟨hx, hb, hml, hown, hts⟩ (c_X7_added l D cI cJ cZ m0 g1 g2 g3 g4 g5 g6 g7 g8 g9 g10 g11 g12 c0 (nI n) my mo ml (by first | assumption | omega)) (cwV 0 hts gX7_dual_X7_added rfl rfl rfl (by decide +kernel) ⟨Nat.le_of_ble_eq_true rfl, Nat.le_of_ble_eq_true rfl⟩) ⟨pm_blind, va_recv hK hP (ci := 7) (q0 := 0) rfl rfl, fun U hU hW => ⟨rfl, by rw [hU]; exact hP.sub (ws' := [(m0, .inr (7, [.int (nI n), .ref g1, .ref g2, .ref g3, .int (nI c0), .ref g4, .int my, .ref g5, .int mo, .ref g6, .int ml, .ref g7, .ref g8, .ref g9, .ref g10, .ref g11, .ref g12]))]) [0] rfl, hKN.warm hW, (hD.sub (ws' := [(m0, .inr (7, [.int (nI n), .ref g1, .ref g2, .ref g3, .int (nI c0), .ref g4, .int my, .ref g5, .int mo, .ref g6, .int ml, .ref g7, .ref g8, .ref g9, .ref g10, .ref g11, .ref g12]))]) [0] (by decide) rfl).weaken (fun _ _ _ _ => trivial)⟩⟩ rfl rfl hl.1 rfl (lv_room (Nat.le_of_ble_eq_true rfl)) dX7_dual_78 ⟨Nat.le_of_ble_eq_true rfl, Nat.le_of_ble_eq_true rfl⟩) hS hP hD (fun (u : Unit) => [(m0, .inr (7, [.int (nI n), .ref g1, .ref g2, .ref g3, .int (nI (c0 + 1)), .ref g4, .int my, .ref g5, .int mo, .ref g6, .int ml, .ref g7, .ref g8, .ref g9, .ref g10, .ref g11, .ref g12])), (g4, .inl (cZ, 20480, .inl us))]) [0] [1] rfl rfl (fun _ => rfl) (fun _ => rfl) (fun _ => rfl) (fun _ => rfl) (by decide) (by decide) (fun r7 u7 H locs w7r hP hD hS => ?_)
              have hP : va_P D vwCl [(m0, .inr (7, [.int (nI n), .ref g1, .ref g2, .ref g3, .int (nI (c0 + 1)), .ref g4, .int my, .ref g5, .int mo, .ref g6, .int ml, .ref g7, .ref g8, .ref g9, .ref g10, .ref g11, .ref g12])), (g4, .inl (cZ, 20480, .inl us))] H := hP
              have hD : va_D (aA as) [(m0, .inr (7, [.int (nI n), .ref g1, .ref g2, .ref g3, .int (nI (c0 + 1)), .ref g4, .int my, .ref g5, .int mo, .ref g6, .int ml, .ref g7, .ref g8, .ref g9, .ref g10, .ref g11, .ref g12])), (g4, .inl (cZ, 20480, .inl us))] := hD
              have w7 : r7 = nI c0 := w7r
              clear w7r
              rw [← hQ]
              exact W.iret (v := r7) hx hb hr (fun tS htS hWS => ⟨⟨r7, (nI (c0 + 1), us), rfl, Or.inl ⟨by assumption, by omega, rfl, by assumption⟩, m_at htS hP⟩, by rw [← has]; exact hS.F htS⟩) (by rw [← has]; exact hS.2.2) dX7_dual_81
            · skip
              have d6 := c6
              rw [nI_leI (by omega) (by omega)] at d6
              refine lv_aload_n hx hb dX7_dual_29 rfl (lv_at hl 1 rfl) ?_
              refine va_get (D := D) (ci := 7) (v := .ref g4) (C := RX7) (T := TX7) (N := 17) hx hb hts hiX7 hown hK hP 0 rfl rfl 5 (by decide) hf23 (fun _ h9 => h9) rfl dX7_dual_30 ?_
              refine lv_sipush (v := nI 512) hx hb dX7_dual_33 (by decide) ?_
              refine lv_aload_n hx hb dX7_dual_36 rfl (lv_at hl 1 rfl) ?_
              refine va_get (D := D) (ci := 7) (v := .int (nI c0)) (C := RX7) (T := TX7) (N := 17) hx hb hts hiX7 hown hK hP 0 rfl rfl 4 (by decide) hf59 (fun _ h9 => h9) rfl dX7_dual_37 ?_
              refine lv_imul hx hb dX7_dual_40 ?_
              refine cn_i (y := nI (512 * c0)) (pk_mul 512 c0) ?_
              refine lv_iload_n hx hb dX7_dual_41 rfl (lv_at hl 0 rfl) ?_
              refine lv_iadd hx hb dX7_dual_42 ?_
              refine cn_i (y := nI ((512 * c0) + k)) (nI_add (512 * c0) k) ?_
              refine lv_aload_n hx hb dX7_dual_43 rfl (lv_at hl 1 rfl) ?_
              refine va_get (D := D) (ci := 7) (v := .ref g4) (C := RX7) (T := TX7) (N := 17) hx hb hts hiX7 hown hK hP 0 rfl rfl 5 (by decide) hf23 (fun _ h9 => h9) rfl dX7_dual_44 ?_
              refine lv_sipush (v := nI 512) hx hb dX7_dual_47 (by decide) ?_
              refine lv_iload_n hx hb dX7_dual_50 rfl (lv_at hl 2 rfl) ?_
              refine lv_imul hx hb dX7_dual_51 ?_
              refine cn_i (y := nI (512 * j9)) (pk_mul 512 j9) ?_
              refine lv_aload_n hx hb dX7_dual_52 rfl (lv_at hl 1 rfl) ?_
              refine pu_i (va_runV (As := []) (rest := [.int (nI (512 * j9)), .ref g4, .int (nI ((512 * c0) + k)), .ref g4]) ⟨hx, hb, hml, hown, hts⟩ (c_X7_settings l D cI cJ cZ m0 g1 g2 g3 g4 g5 g6 g7 g8 g9 g10 g11 g12 n (nI c0) my mo ml (by first | assumption | omega)) (cwV 0 hts gX7_dual_X7_settings rfl rfl rfl (by decide +kernel) ⟨Nat.le_of_ble_eq_true rfl, Nat.le_of_ble_eq_true rfl⟩) ⟨pc_blind, va_recv hK hP (ci := 7) (q0 := 0) rfl rfl, fun U hU hW => ⟨rfl, by rw [hU]; exact hP.sub (ws' := [(m0, .inr (7, [.int (nI n), .ref g1, .ref g2, .ref g3, .int (nI c0), .ref g4, .int my, .ref g5, .int mo, .ref g6, .int ml, .ref g7, .ref g8, .ref g9, .ref g10, .ref g11, .ref g12]))]) [0] rfl, hKN.warm hW⟩⟩ rfl rfl hl.1 rfl (lv_room (Nat.le_of_ble_eq_true rfl)) dX7_dual_53 ⟨Nat.le_of_ble_eq_true rfl, Nat.le_of_ble_eq_true rfl⟩) hS hP (fun r8 H locs w8r hP hS => ?_)
              have w8 : r8 = nI (2 ^ n) := w8r
              clear w8r
              obtain rfl : r8 = nI (2 ^ n) := w8
              refine lv_iadd hx hb dX7_dual_56 ?_
              refine cn_i (y := nI ((512 * j9) + (2 ^ n))) (nI_add (512 * j9) (2 ^ n)) ?_
              refine lv_iconst (v := nI 1) hx hb dX7_dual_57 (by decide) ?_
              refine lv_isub hx hb dX7_dual_58 ?_
              refine cn_i (y := nI (((512 * j9) + (2 ^ n)) - 1)) (pk_sub (a := ((512 * j9) + (2 ^ n))) (b := 1) (by omega)) ?_
              refine lv_iload_n hx hb dX7_dual_59 rfl (lv_at hl 0 rfl) ?_
              refine lv_isub hx hb dX7_dual_60 ?_
              refine cn_i (y := nI ((((512 * j9) + (2 ^ n)) - 1) - k)) (pk_sub (a := (((512 * j9) + (2 ^ n)) - 1)) (b := k) (by omega)) ?_
              refine va_zald hx hb hK hP 1 2 rfl rfl (i := nI ((((512 * j9) + (2 ^ n)) - 1) - k)) (vp_in_nI (by omega) (by omega)) dX7_dual_61 ?_
              refine cn_i (y := us ((((512 * j9) + (2 ^ n)) - 1) - k)) (congrArg us (nI_clamp (by omega))) ?_
              refine lv_if_ne (tgt := 69) hx hb dX7_dual_62 (by decide) (fun c9 => ?_) (fun c9 => ?_)
              · skip
                refine lv_iconst (v := nI 0) hx hb dX7_dual_69 (by decide) ?_
                refine va_zast hx hb hK hP hD hS 1 2 rfl rfl (i := nI ((512 * c0) + k)) (vp_in_nI (by omega) (by omega)) dX7_dual_70 (fun H locs hP hD hS => ?_)
                have hP : va_P D vwCl [(m0, .inr (7, [.int (nI n), .ref g1, .ref g2, .ref g3, .int (nI c0), .ref g4, .int my, .ref g5, .int mo, .ref g6, .int ml, .ref g7, .ref g8, .ref g9, .ref g10, .ref g11, .ref g12])), (g4, .inl (cZ, 20480, .inl (upd us (nI ((512 * c0) + k)).toNatClampNeg (vp_nar .boolean (nI 0)))))] H := hP
                have hD : va_D (aA as) [(m0, .inr (7, [.int (nI n), .ref g1, .ref g2, .ref g3, .int (nI c0), .ref g4, .int my, .ref g5, .int mo, .ref g6, .int ml, .ref g7, .ref g8, .ref g9, .ref g10, .ref g11, .ref g12])), (g4, .inl (cZ, 20480, .inl (upd us (nI ((512 * c0) + k)).toNatClampNeg (vp_nar .boolean (nI 0)))))] := hD
                rw [nI_clamp (n := ((512 * c0) + k)) (by omega)] at hP hD
                refine lv_iinc (v := nI (k + 1)) (lv' := [(2, .int (nI (k + 1))), (0, .ref m0), (1, .int (nI j9))]) hx hb dX7_dual_71 hl (k := 0) rfl (nI_1 k) (by decide) rfl (fun ls hl => ?_)
                refine lv_goto (tgt := 21) hx hb dX7_dual_74 (by decide) ?_
                exact ih4 (k + 1) (upd us ((512 * c0) + k) (vp_nar .boolean (nI 0))) _ _ _ (by omega) (m_u01 hT (by decide)) hP hD hS (lv_sub hl [0, 1, 2] rfl)
              · skip
                refine lv_iconst (v := nI 1) hx hb dX7_dual_65 (by decide) ?_
                refine lv_goto (tgt := 70) hx hb dX7_dual_66 (by decide) ?_
                refine va_zast hx hb hK hP hD hS 1 2 rfl rfl (i := nI ((512 * c0) + k)) (vp_in_nI (by omega) (by omega)) dX7_dual_70 (fun H locs hP hD hS => ?_)
                have hP : va_P D vwCl [(m0, .inr (7, [.int (nI n), .ref g1, .ref g2, .ref g3, .int (nI c0), .ref g4, .int my, .ref g5, .int mo, .ref g6, .int ml, .ref g7, .ref g8, .ref g9, .ref g10, .ref g11, .ref g12])), (g4, .inl (cZ, 20480, .inl (upd us (nI ((512 * c0) + k)).toNatClampNeg (vp_nar .boolean (nI 1)))))] H := hP
                have hD : va_D (aA as) [(m0, .inr (7, [.int (nI n), .ref g1, .ref g2, .ref g3, .int (nI c0), .ref g4, .int my, .ref g5, .int mo, .ref g6, .int ml, .ref g7, .ref g8, .ref g9, .ref g10, .ref g11, .ref g12])), (g4, .inl (cZ, 20480, .inl (upd us (nI ((512 * c0) + k)).toNatClampNeg (vp_nar .boolean (nI 1)))))] := hD
                rw [nI_clamp (n := ((512 * c0) + k)) (by omega)] at hP hD
                refine lv_iinc (v := nI (k + 1)) (lv' := [(2, .int (nI (k + 1))), (0, .ref m0), (1, .int (nI j9))]) hx hb dX7_dual_71 hl (k := 0) rfl (nI_1 k) (by decide) rfl (fun ls hl => ?_)
                refine lv_goto (tgt := 21) hx hb dX7_dual_74 (by decide) ?_
                exact ih4 (k + 1) (upd us ((512 * c0) + k) (vp_nar .boolean (nI 1))) _ _ _ (by omega) (m_u01 hT (by decide)) hP hD hS (lv_sub hl [0, 1, 2] rfl)
        exact loop4 (2 ^ n + 1) 0 fs _ _ _ (by omega) h01 hP hD hS (lv_sub hl [0, 1, 2] rfl)
      · skip
        have d3 := c3
        rw [nI_eq (by omega) (by omega)] at d3
        refine lv_iconst (v := (-1 : Int32)) hx hb dX7_dual_17 (by decide) ?_
        rw [← hQ]
        exact W.iret (v := (-1 : Int32)) hx hb hr (fun tS htS hWS => ⟨⟨(-1 : Int32), (nI c0, fs), rfl, Or.inr ⟨rfl, by omega, rfl, rfl⟩, m_at htS hP⟩, by rw [← has]; exact hS.F htS⟩) (by rw [← has]; exact hS.2.2) dX7_dual_18
  · skip
    refine lv_if_eq (tgt := 17) hx hb dX7_dual_5 (by decide) (fun c10 => ?_) (fun c10 => ?_)
    · skip
      refine lv_iconst (v := (-1 : Int32)) hx hb dX7_dual_17 (by decide) ?_
      rw [← hQ]
      exact W.iret (v := (-1 : Int32)) hx hb hr (fun tS htS hWS => ⟨⟨(-1 : Int32), (nI c0, fs), rfl, Or.inr ⟨rfl, by omega, rfl, rfl⟩, m_at htS hP⟩, by rw [← has]; exact hS.F htS⟩) (by rw [← has]; exact hS.2.2) dX7_dual_18
    · exact absurd c10 (by first | decide | exact nz_lt (by omega) | exact fun h => h (nz_ge (by omega)))
def rm_c_X7_single_g : Room := { frames := 2, cells := 0, slots := 0, locals := 46 }
set_option maxHeartbeats 400000 in
set_option maxRecDepth 100000 in
theorem c_X7_single_g (l : Launch) (D : va_G) (cI cJ cZ : ClassId) (m0 : Nat) (g1 : Nat) (g2 : Nat) (g3 : Nat) (g4 : Nat) (g5 : Nat) (g6 : Nat) (g7 : Nat) (g8 : Nat) (g9 : Nat) (g10 : Nat) (g11 : Nat) (g12 : Nat) (n : Nat) (c0 : Nat) (my : Int32) (mo : Int32) (ml : Int32) (p0 : Int32) (fs : Nat → Int32) (hn : n ≤ 9) (h1n : 1 ≤ n) (hc : c0 ≤ 40) (h01 : T01 fs) : Met l yX7_single wsX7_single rm_c_X7_single_g (pm_ D cI cJ cZ [.ref m0, .int p0] [(m0, .inr (7, [.int (nI n), .ref g1, .ref g2, .ref g3, .int (nI c0), .ref g4, .int my, .ref g5, .int mo, .ref g6, .int ml, .ref g7, .ref g8, .ref g9, .ref g10, .ref g11, .ref g12])), (g4, .inl (cZ, 20480, .inl fs))]) (va_Qi (fun (r : Int32) (u : Int32 × (Nat → Int32)) => ADD r c0 fs ((0 ≤ p0.toInt ∧ p0.toInt < n) ∧ c0 < 40) u.1 u.2) (fun (u : Int32 × (Nat → Int32)) tS => va_P D vwCl [(m0, .inr (7, [.int (nI n), .ref g1, .ref g2, .ref g3, .int u.1, .ref g4, .int my, .ref g5, .int mo, .ref g6, .int ml, .ref g7, .ref g8, .ref g9, .ref g10, .ref g11, .ref g12])), (g4, .inl (cZ, 20480, .inl u.2))] tS.heap) (aA [m0, g4])) 0 0 (aA [m0, g4]) := by
  refine Met.ofW (cc := cX7_single) (maxL := 3) (ret := (some .int)) (by decide) rfl ?_
  intro p e s m args below meth c s₁ B hml hv
  obtain ⟨rfl, hP, hKN, hD0⟩ := hv
  have hK := hKN.1
  have hx := B.exec
  have hb := B.bytes
  have hr := B.returns
  have hts := atoms_spec (ws := wsX7_single) B.pre
  have hown : s.vm.findClass RX7 = some m.cls := findClass_of_methodNamed B.named
  have hlocks := B.notSynchronized
  have hiX7 : ∀ w ∈ wsX70, w ∈ wsX7_single := by decide +kernel
  have hf23 := hts (.fieldLink RX7 23 "LookBenchModel" "says" "[Z") (by decide +kernel)
  have hf59 := hts (.fieldLink RX7 59 "LookBenchModel" "rules" "I") (by decide +kernel)
  obtain ⟨as, has⟩ : ∃ z : List Nat, z = [m0, g4] := ⟨_, rfl⟩
  have hD := hD0.addr (as := as) (by rw [has]; rfl)
  have hS : va_S (aA as) s.heap s.heap [] := va_S.rf
  have hl := lv_entry ([.ref m0, .int p0]) (n := 3) (Nat.le_of_ble_eq_true rfl)
  rw [lg_entry_eq]
  generalize (lg_sl ([.ref m0, .int p0]) ++ List.replicate (3 - (lg_sl ([.ref m0, .int p0])).length) Slot.unset).toArray = ls at hl ⊢
  have hl : lv_has ls 3 [(0, .ref m0), (1, .int p0)] := hl
  generalize hQ : MQ below _ _ s _ _ _ = Q
  obtain ⟨H, hH⟩ : ∃ z, z = s.heap := ⟨_, rfl⟩
  have hP : va_P D vwCl [(m0, .inr (7, [.int (nI n), .ref g1, .ref g2, .ref g3, .int (nI c0), .ref g4, .int my, .ref g5, .int mo, .ref g6, .int ml, .ref g7, .ref g8, .ref g9, .ref g10, .ref g11, .ref g12])), (g4, .inl (cZ, 20480, .inl fs))] H := by rw [hH]; exact hP
  have hS : va_S (aA as) s.heap H [] := by rw [hH]; exact hS
  refine m_heap hH ?_
  clear hH
  have h2n := m_pow hn
  have h2p := m_powp n
  refine lv_aload_n hx hb dX7_single_0 rfl (lv_at hl 0 rfl) ?_
  refine lv_iload_n hx hb dX7_single_1 rfl (lv_at hl 1 rfl) ?_
  refine pu_i (va_runV (As := [.int p0]) (rest := []) ⟨hx, hb, hml, hown, hts⟩ (c_X7_isPart l D cI cJ cZ m0 g1 g2 g3 g4 g5 g6 g7 g8 g9 g10 g11 g12 n (nI c0) my mo ml p0 (by first | assumption | omega) (by first | assumption | omega)) (cwV 1 hts gX7_single_X7_isPart rfl rfl rfl (by decide +kernel) ⟨Nat.le_of_ble_eq_true rfl, Nat.le_of_ble_eq_true rfl⟩) ⟨pc_blind, va_recv hK hP (ci := 7) (q0 := 0) rfl rfl, fun U hU hW => ⟨rfl, by rw [hU]; exact hP.sub (ws' := [(m0, .inr (7, [.int (nI n), .ref g1, .ref g2, .ref g3, .int (nI c0), .ref g4, .int my, .ref g5, .int mo, .ref g6, .int ml, .ref g7, .ref g8, .ref g9, .ref g10, .ref g11, .ref g12]))]) [0] rfl, hKN.warm hW⟩⟩ rfl rfl hl.1 rfl (lv_room (Nat.le_of_ble_eq_true rfl)) dX7_single_2 ⟨Nat.le_of_ble_eq_true rfl, Nat.le_of_ble_eq_true rfl⟩) hS hP (fun r1 H locs w1r hP hS => ?_)
  have w1 : B01 r1 (0 ≤ p0.toInt ∧ p0.toInt < n) := w1r
  clear w1r
  rcases w1 with ⟨rfl, w1⟩ | ⟨rfl, w1⟩
  · skip
    obtain ⟨j9, hj9, rfl⟩ := m_nat w1
    have tj9 : (nI j9).toInt = (j9 : Int) := nI_toInt (by omega)
    refine lv_if_eq (tgt := 17) hx hb dX7_single_5 (by decide) (fun c2 => ?_) (fun c2 => ?_)
    · exact absurd c2 (by first | decide | exact nz_lt (by omega) | exact fun h => h (nz_ge (by omega)))
    · skip
      refine lv_aload_n hx hb dX7_single_8 rfl (lv_at hl 0 rfl) ?_
      refine va_get (D := D) (ci := 7) (v := .int (nI c0)) (C := RX7) (T := TX7) (N := 17) hx hb hts hiX7 hown hK hP 0 rfl rfl 4 (by decide) hf59 (fun _ h9 => h9) rfl dX7_single_9 ?_
      refine lv_bipush (v := nI 40) hx hb dX7_single_12 (by decide) ?_
      refine lv_icmp_ne (tgt := 19) hx hb dX7_single_14 (by decide) (fun c3 => ?_) (fun c3 => ?_)
      · skip
        have d3 := c3
        rw [nI_eq (by omega) (by omega)] at d3
        refine lv_iconst (v := nI 0) hx hb dX7_single_19 (by decide) ?_
        refine lv_istore_n (lv' := [(2, .int (nI 0)), (0, .ref m0), (1, .int (nI j9))]) hx hb dX7_single_20 rfl hl (by decide) rfl (fun ls hl => ?_)
        have loop4 : ∀ (fu : Nat) (k : Nat) (us : Nat → Int32) (H : Heap) (locs : List Loc) (ls : Array Slot), (k ≤ 2 ^ n ∧ 2 ^ n < k + fu) → (T01 us) → va_P D vwCl [(m0, .inr (7, [.int (nI n), .ref g1, .ref g2, .ref g3, .int (nI c0), .ref g4, .int my, .ref g5, .int mo, .ref g6, .int ml, .ref g7, .ref g8, .ref g9, .ref g10, .ref g11, .ref g12])), (g4, .inl (cZ, 20480, .inl us))] H → va_D (aA as) [(m0, .inr (7, [.int (nI n), .ref g1, .ref g2, .ref g3, .int (nI c0), .ref g4, .int my, .ref g5, .int mo, .ref g6, .int ml, .ref g7, .ref g8, .ref g9, .ref g10, .ref g11, .ref g12])), (g4, .inl (cZ, 20480, .inl us))] → va_S (aA as) s.heap H locs → lv_has ls 3 [(2, .int (nI k)), (0, .ref m0), (1, .int (nI j9))] → W p l e (headSpec wsX7_single rm_c_X7_single_g).room s m ([.ref m0, .int (nI j9)] : List Value).toArray below meth c H locs 0 0 Q (F0 m 21 ls []) := by
          intro fu
          induction fu with
          | zero => intro k us H locs ls hk hT; exact absurd hk (by omega)
          | succ fu ih4 =>
            intro k us H locs ls hk hT hP hD hS hl
            refine lv_iload_n hx hb dX7_single_21 rfl (lv_at hl 0 rfl) ?_
            refine lv_aload_n hx hb dX7_single_22 rfl (lv_at hl 1 rfl) ?_
            refine pu_i (va_runV (As := []) (rest := [.int (nI k)]) ⟨hx, hb, hml, hown, hts⟩ (c_X7_settings l D cI cJ cZ m0 g1 g2 g3 g4 g5 g6 g7 g8 g9 g10 g11 g12 n (nI c0) my mo ml (by first | assumption | omega)) (cwV 0 hts gX7_single_X7_settings rfl rfl rfl (by decide +kernel) ⟨Nat.le_of_ble_eq_true rfl, Nat.le_of_ble_eq_true rfl⟩) ⟨pc_blind, va_recv hK hP (ci := 7) (q0 := 0) rfl rfl, fun U hU hW => ⟨rfl, by rw [hU]; exact hP.sub (ws' := [(m0, .inr (7, [.int (nI n), .ref g1, .ref g2, .ref g3, .int (nI c0), .ref g4, .int my, .ref g5, .int mo, .ref g6, .int ml, .ref g7, .ref g8, .ref g9, .ref g10, .ref g11, .ref g12]))]) [0] rfl, hKN.warm hW⟩⟩ rfl rfl hl.1 rfl (lv_room (Nat.le_of_ble_eq_true rfl)) dX7_single_23 ⟨Nat.le_of_ble_eq_true rfl, Nat.le_of_ble_eq_true rfl⟩) hS hP (fun r5 H locs w5r hP hS => ?_)
            have w5 : r5 = nI (2 ^ n) := w5r
            clear w5r
            obtain rfl : r5 = nI (2 ^ n) := w5
            refine lv_icmp_ge (tgt := 64) hx hb dX7_single_26 (by decide) (fun c6 => ?_) (fun c6 => ?_)
            · skip
              have d6 := c6
              rw [nI_leI (by omega) (by omega)] at d6
              refine lv_aload_n hx hb dX7_single_64 rfl (lv_at hl 1 rfl) ?_
              refine mu_i (n := 2) (wc := [(m0, .inr (7, [.int (nI n), .ref g1, .ref g2, .ref g3, .int (nI c0), .ref g4, .int my, .ref g5, .int mo, .ref g6, .int ml, .ref g7, .ref g8, .ref g9, .ref g10, .ref g11, .ref g12]))]) (va_runV (As := []) (rest := []) ⟨hx, hb, hml, hown, hts⟩ (c_X7_added l D cI cJ cZ m0 g1 g2 g3 g4 g5 g6 g7 g8 g9 g10 g11 g12 c0 (nI n) my mo ml (by first | assumption | omega)) (cwV 0 hts gX7_single_X7_added rfl rfl rfl (by decide +kernel) ⟨Nat.le_of_ble_eq_true rfl, Nat.le_of_ble_eq_true rfl⟩) ⟨pm_blind, va_recv hK hP (ci := 7) (q0 := 0) rfl rfl, fun U hU hW => ⟨rfl, by rw [hU]; exact hP.sub (ws' := [(m0, .inr (7, [.int (nI n), .ref g1, .ref g2, .ref g3, .int (nI c0), .ref g4, .int my, .ref g5, .int mo, .ref g6, .int ml, .ref g7, .ref g8, .ref g9, .ref g10, .ref g11, .ref g12]))]) [0] rfl, hKN.warm hW, (hD.sub (ws' := [(m0, .inr (7, [.int (nI n), .ref g1, .ref g2, .ref g3, .int (nI c0), .ref g4, .int my, .ref g5, .int mo, .ref g6, .int ml, .ref g7, .ref g8, .ref g9, .ref g10, .ref g11, .ref g12]))]) [0] (by decide) rfl).weaken (fun _ _ _ _ => trivial)⟩⟩ rfl rfl hl.1 rfl (lv_room (Nat.le_of_ble_eq_true rfl)) dX7_single_65 ⟨Nat.le_of_ble_eq_true rfl, Nat.le_of_ble_eq_true rfl⟩) hS hP hD (fun (u : Unit) => [(m0, .inr (7, [.int (nI n), .ref g1, .ref g2, .ref g3, .int (nI (c0 + 1)), .ref g4, .int my, .ref g5, .int mo, .ref g6, .int ml, .ref g7, .ref g8, .ref g9, .ref g10, .ref g11, .ref g12])), (g4, .inl (cZ, 20480, .inl us))]) [0] [1] rfl rfl (fun _ => rfl) (fun _ => rfl) (fun _ => rfl) (fun _ => rfl) (by decide) (by decide) (fun r7 u7 H locs w7r hP hD hS => ?_)
              have hP : va_P D vwCl [(m0, .inr (7, [.int (nI n), .ref g1, .ref g2, .ref g3, .int (nI (c0 + 1)), .ref g4, .int my, .ref g5, .int mo, .ref g6, .int ml, .ref g7, .ref g8, .ref g9, .ref g10, .ref g11, .ref g12])), (g4, .inl (cZ, 20480, .inl us))] H := hP
              have hD : va_D (aA as) [(m0, .inr (7, [.int (nI n), .ref g1, .ref g2, .ref g3, .int (nI (c0 + 1)), .ref g4, .int my, .ref g5, .int mo, .ref g6, .int ml, .ref g7, .ref g8, .ref g9, .ref g10, .ref g11, .ref g12])), (g4, .inl (cZ, 20480, .inl us))] := hD
              have w7 : r7 = nI c0 := w7r
              clear w7r
              rw [← hQ]
              exact W.iret (v := r7) hx hb hr (fun tS htS hWS => ⟨⟨r7, (nI (c0 + 1), us), rfl, Or.inl ⟨by assumption, by omega, rfl, by assumption⟩, m_at htS hP⟩, by rw [← has]; exact hS.F htS⟩) (by rw [← has]; exact hS.2.2) dX7_single_68
            · skip
              have d6 := c6
              rw [nI_leI (by omega) (by omega)] at d6
              refine lv_aload_n hx hb dX7_single_29 rfl (lv_at hl 1 rfl) ?_
              refine va_get (D := D) (ci := 7) (v := .ref g4) (C := RX7) (T := TX7) (N := 17) hx hb hts hiX7 hown hK hP 0 rfl rfl 5 (by decide) hf23 (fun _ h9 => h9) rfl dX7_single_30 ?_
              refine lv_sipush (v := nI 512) hx hb dX7_single_33 (by decide) ?_
              refine lv_aload_n hx hb dX7_single_36 rfl (lv_at hl 1 rfl) ?_
              refine va_get (D := D) (ci := 7) (v := .int (nI c0)) (C := RX7) (T := TX7) (N := 17) hx hb hts hiX7 hown hK hP 0 rfl rfl 4 (by decide) hf59 (fun _ h9 => h9) rfl dX7_single_37 ?_
              refine lv_imul hx hb dX7_single_40 ?_
              refine cn_i (y := nI (512 * c0)) (pk_mul 512 c0) ?_
              refine lv_iload_n hx hb dX7_single_41 rfl (lv_at hl 0 rfl) ?_
              refine lv_iadd hx hb dX7_single_42 ?_
              refine cn_i (y := nI ((512 * c0) + k)) (nI_add (512 * c0) k) ?_
              refine lv_iload_n hx hb dX7_single_43 rfl (lv_at hl 0 rfl) ?_
              refine lv_iload_n hx hb dX7_single_44 rfl (lv_at hl 2 rfl) ?_
              refine lv_ishr hx hb dX7_single_45 ?_
              refine cn_i (y := nI (k / 2 ^ j9)) (m_shr (by omega) (by omega)) ?_
              refine lv_iconst (v := nI 1) hx hb dX7_single_46 (by decide) ?_
              refine lv_iand hx hb dX7_single_47 ?_
              refine cn_i (y := nI ((k / 2 ^ j9) % 2)) (m_andn1 (by first | omega | exact Nat.lt_of_le_of_lt (Nat.div_le_self _ _) (by omega))) ?_
              refine lv_iconst (v := nI 1) hx hb dX7_single_48 (by decide) ?_
              refine lv_icmp_ne (tgt := 56) hx hb dX7_single_49 (by decide) (fun c8 => ?_) (fun c8 => ?_)
              · skip
                have d8 := c8
                rw [nI_eq (by omega) (by omega)] at d8
                refine lv_iconst (v := nI 0) hx hb dX7_single_56 (by decide) ?_
                refine va_zast hx hb hK hP hD hS 1 2 rfl rfl (i := nI ((512 * c0) + k)) (vp_in_nI (by omega) (by omega)) dX7_single_57 (fun H locs hP hD hS => ?_)
                have hP : va_P D vwCl [(m0, .inr (7, [.int (nI n), .ref g1, .ref g2, .ref g3, .int (nI c0), .ref g4, .int my, .ref g5, .int mo, .ref g6, .int ml, .ref g7, .ref g8, .ref g9, .ref g10, .ref g11, .ref g12])), (g4, .inl (cZ, 20480, .inl (upd us (nI ((512 * c0) + k)).toNatClampNeg (vp_nar .boolean (nI 0)))))] H := hP
                have hD : va_D (aA as) [(m0, .inr (7, [.int (nI n), .ref g1, .ref g2, .ref g3, .int (nI c0), .ref g4, .int my, .ref g5, .int mo, .ref g6, .int ml, .ref g7, .ref g8, .ref g9, .ref g10, .ref g11, .ref g12])), (g4, .inl (cZ, 20480, .inl (upd us (nI ((512 * c0) + k)).toNatClampNeg (vp_nar .boolean (nI 0)))))] := hD
                rw [nI_clamp (n := ((512 * c0) + k)) (by omega)] at hP hD
                refine lv_iinc (v := nI (k + 1)) (lv' := [(2, .int (nI (k + 1))), (0, .ref m0), (1, .int (nI j9))]) hx hb dX7_single_58 hl (k := 0) rfl (nI_1 k) (by decide) rfl (fun ls hl => ?_)
                refine lv_goto (tgt := 21) hx hb dX7_single_61 (by decide) ?_
                exact ih4 (k + 1) (upd us ((512 * c0) + k) (vp_nar .boolean (nI 0))) _ _ _ (by omega) (m_u01 hT (by decide)) hP hD hS (lv_sub hl [0, 1, 2] rfl)
              · skip
                have d8 := c8
                rw [nI_eq (by omega) (by omega)] at d8
                refine lv_iconst (v := nI 1) hx hb dX7_single_52 (by decide) ?_
                refine lv_goto (tgt := 57) hx hb dX7_single_53 (by decide) ?_
                refine va_zast hx hb hK hP hD hS 1 2 rfl rfl (i := nI ((512 * c0) + k)) (vp_in_nI (by omega) (by omega)) dX7_single_57 (fun H locs hP hD hS => ?_)
                have hP : va_P D vwCl [(m0, .inr (7, [.int (nI n), .ref g1, .ref g2, .ref g3, .int (nI c0), .ref g4, .int my, .ref g5, .int mo, .ref g6, .int ml, .ref g7, .ref g8, .ref g9, .ref g10, .ref g11, .ref g12])), (g4, .inl (cZ, 20480, .inl (upd us (nI ((512 * c0) + k)).toNatClampNeg (vp_nar .boolean (nI 1)))))] H := hP
                have hD : va_D (aA as) [(m0, .inr (7, [.int (nI n), .ref g1, .ref g2, .ref g3, .int (nI c0), .ref g4, .int my, .ref g5, .int mo, .ref g6, .int ml, .ref g7, .ref g8, .ref g9, .ref g10, .ref g11, .ref g12])), (g4, .inl (cZ, 20480, .inl (upd us (nI ((512 * c0) + k)).toNatClampNeg (vp_nar .boolean (nI 1)))))] := hD
                rw [nI_clamp (n := ((512 * c0) + k)) (by omega)] at hP hD
                refine lv_iinc (v := nI (k + 1)) (lv' := [(2, .int (nI (k + 1))), (0, .ref m0), (1, .int (nI j9))]) hx hb dX7_single_58 hl (k := 0) rfl (nI_1 k) (by decide) rfl (fun ls hl => ?_)
                refine lv_goto (tgt := 21) hx hb dX7_single_61 (by decide) ?_
                exact ih4 (k + 1) (upd us ((512 * c0) + k) (vp_nar .boolean (nI 1))) _ _ _ (by omega) (m_u01 hT (by decide)) hP hD hS (lv_sub hl [0, 1, 2] rfl)
        exact loop4 (2 ^ n + 1) 0 fs _ _ _ (by omega) h01 hP hD hS (lv_sub hl [0, 1, 2] rfl)
      · skip
        have d3 := c3
        rw [nI_eq (by omega) (by omega)] at d3
        refine lv_iconst (v := (-1 : Int32)) hx hb dX7_single_17 (by decide) ?_
        rw [← hQ]
        exact W.iret (v := (-1 : Int32)) hx hb hr (fun tS htS hWS => ⟨⟨(-1 : Int32), (nI c0, fs), rfl, Or.inr ⟨rfl, by omega, rfl, rfl⟩, m_at htS hP⟩, by rw [← has]; exact hS.F htS⟩) (by rw [← has]; exact hS.2.2) dX7_single_18
  · skip
    refine lv_if_eq (tgt := 17) hx hb dX7_single_5 (by decide) (fun c9 => ?_) (fun c9 => ?_)
    · skip
      refine lv_iconst (v := (-1 : Int32)) hx hb dX7_single_17 (by decide) ?_
      rw [← hQ]
      exact W.iret (v := (-1 : Int32)) hx hb hr (fun tS htS hWS => ⟨⟨(-1 : Int32), (nI c0, fs), rfl, Or.inr ⟨rfl, by omega, rfl, rfl⟩, m_at htS hP⟩, by rw [← has]; exact hS.F htS⟩) (by rw [← has]; exact hS.2.2) dX7_single_18
    · exact absurd c9 (by first | decide | exact nz_lt (by omega) | exact fun h => h (nz_ge (by omega)))
def rm_c_X7_some_g : Room := { frames := 1, cells := 0, slots := 0, locals := 25 }
set_option maxHeartbeats 400000 in
set_option maxRecDepth 100000 in
theorem c_X7_some_g (l : Launch) (D : va_G) (cI cJ cZ : ClassId) (m0 : Nat) (g1 : Nat) (g2 : Nat) (g3 : Nat) (g4 : Nat) (g5 : Nat) (g6 : Nat) (g7 : Nat) (g8 : Nat) (g9 : Nat) (g10 : Nat) (g11 : Nat) (g12 : Nat) (n : Nat) (c0 : Nat) (my : Int32) (mo : Int32) (ml : Int32) (se : Int32) (wi : Int32) (kk : Int32) (wo : Int64) (fs : Nat → Int32) (hn : n ≤ 9) (h1n : 1 ≤ n) (hc : c0 ≤ 40) (h01 : T01 fs) : Met l yX7_some wsX7_some rm_c_X7_some_g (pm_ D cI cJ cZ [.ref m0, .int se, .long wo, .int wi, .int kk] [(m0, .inr (7, [.int (nI n), .ref g1, .ref g2, .ref g3, .int (nI c0), .ref g4, .int my, .ref g5, .int mo, .ref g6, .int ml, .ref g7, .ref g8, .ref g9, .ref g10, .ref g11, .ref g12])), (g4, .inl (cZ, 20480, .inl fs))]) (va_Qi (fun (r : Int32) (u : Int32 × (Nat → Int32)) => ADD r c0 fs (0 ≤ se.toInt ∧ se.toInt < (2 ^ n : Nat) ∧ 0 ≤ wo.toInt ∧ 0 ≤ wi.toInt ∧ wi.toInt ≤ 3 ∧ 0 ≤ kk.toInt ∧ kk.toInt ≤ 100 ∧ c0 < 40) u.1 u.2) (fun (u : Int32 × (Nat → Int32)) tS => va_P D vwCl [(m0, .inr (7, [.int (nI n), .ref g1, .ref g2, .ref g3, .int u.1, .ref g4, .int my, .ref g5, .int mo, .ref g6, .int ml, .ref g7, .ref g8, .ref g9, .ref g10, .ref g11, .ref g12])), (g4, .inl (cZ, 20480, .inl u.2))] tS.heap) (aA [m0, g4])) 0 0 (aA [m0, g4]) := by
  refine Met.ofW (cc := cX7_some) (maxL := 11) (ret := (some .int)) (by decide) rfl ?_
  intro p e s m args below meth c s₁ B hml hv
  obtain ⟨rfl, hP, hKN, hD0⟩ := hv
  have hK := hKN.1
  have hx := B.exec
  have hb := B.bytes
  have hr := B.returns
  have hts := atoms_spec (ws := wsX7_some) B.pre
  have hown : s.vm.findClass RX7 = some m.cls := findClass_of_methodNamed B.named
  have hlocks := B.notSynchronized
  have hiX7 : ∀ w ∈ wsX70, w ∈ wsX7_some := by decide +kernel
  have hf7 := hts (.fieldLink RX7 7 "LookBenchModel" "parts" "I") (by decide +kernel)
  have hf23 := hts (.fieldLink RX7 23 "LookBenchModel" "says" "[Z") (by decide +kernel)
  have hf59 := hts (.fieldLink RX7 59 "LookBenchModel" "rules" "I") (by decide +kernel)
  obtain ⟨as, has⟩ : ∃ z : List Nat, z = [m0, g4] := ⟨_, rfl⟩
  have hD := hD0.addr (as := as) (by rw [has]; rfl)
  have hS : va_S (aA as) s.heap s.heap [] := va_S.rf
  have hl := lv_entry ([.ref m0, .int se, .long wo, .int wi, .int kk]) (n := 11) (Nat.le_of_ble_eq_true rfl)
  rw [lg_entry_eq]
  generalize (lg_sl ([.ref m0, .int se, .long wo, .int wi, .int kk]) ++ List.replicate (11 - (lg_sl ([.ref m0, .int se, .long wo, .int wi, .int kk])).length) Slot.unset).toArray = ls at hl ⊢
  have hl : lv_has ls 11 [(0, .ref m0), (1, .int se), (2, .long wo), (4, .int wi), (5, .int kk)] := hl
  generalize hQ : MQ below _ _ s _ _ _ = Q
  obtain ⟨H, hH⟩ : ∃ z, z = s.heap := ⟨_, rfl⟩
  have hP : va_P D vwCl [(m0, .inr (7, [.int (nI n), .ref g1, .ref g2, .ref g3, .int (nI c0), .ref g4, .int my, .ref g5, .int mo, .ref g6, .int ml, .ref g7, .ref g8, .ref g9, .ref g10, .ref g11, .ref g12])), (g4, .inl (cZ, 20480, .inl fs))] H := by rw [hH]; exact hP
  have hS : va_S (aA as) s.heap H [] := by rw [hH]; exact hS
  refine m_heap hH ?_
  clear hH
  have h2n := m_pow hn
  have h2p := m_powp n
  refine lv_iload_n hx hb dX7_some_0 rfl (lv_at hl 1 rfl) ?_
  refine lv_i2l hx hb dX7_some_1 rfl ?_
  refine lv_lconst (v := lN 0) hx hb dX7_some_2 (by decide) ?_
  refine lv_aload_n hx hb dX7_some_3 rfl (lv_at hl 0 rfl) ?_
  refine pu_i (va_runV (As := []) (rest := [.long (lN 0), .long se.toInt64]) ⟨hx, hb, hml, hown, hts⟩ (c_X7_settings l D cI cJ cZ m0 g1 g2 g3 g4 g5 g6 g7 g8 g9 g10 g11 g12 n (nI c0) my mo ml (by first | assumption | omega)) (cwV 0 hts gX7_some_X7_settings rfl rfl rfl (by decide +kernel) ⟨Nat.le_of_ble_eq_true rfl, Nat.le_of_ble_eq_true rfl⟩) ⟨pc_blind, va_recv hK hP (ci := 7) (q0 := 0) rfl rfl, fun U hU hW => ⟨rfl, by rw [hU]; exact hP.sub (ws' := [(m0, .inr (7, [.int (nI n), .ref g1, .ref g2, .ref g3, .int (nI c0), .ref g4, .int my, .ref g5, .int mo, .ref g6, .int ml, .ref g7, .ref g8, .ref g9, .ref g10, .ref g11, .ref g12]))]) [0] rfl, hKN.warm hW⟩⟩ rfl rfl hl.1 rfl (lv_room (Nat.le_of_ble_eq_true rfl)) dX7_some_4 ⟨Nat.le_of_ble_eq_true rfl, Nat.le_of_ble_eq_true rfl⟩) hS hP (fun r1 H locs w1r hP hS => ?_)
  have w1 : r1 = nI (2 ^ n) := w1r
  clear w1r
  obtain rfl : r1 = nI (2 ^ n) := w1
  refine lv_iconst (v := nI 1) hx hb dX7_some_7 (by decide) ?_
  refine lv_isub hx hb dX7_some_8 ?_
  refine cn_i (y := nI ((2 ^ n) - 1)) (pk_sub (a := (2 ^ n)) (b := 1) (by omega)) ?_
  refine lv_i2l hx hb dX7_some_9 rfl ?_
  refine cn_l (y := lN ((2 ^ n) - 1)) (nI_l (by omega)) ?_
  refine pu_i (va_runS (As := [.long se.toInt64, .long (lN 0), .long (lN ((2 ^ n) - 1))]) (rest := []) ⟨hx, hb, hml, hown, hts⟩ (c_X7_in l D cI cJ cZ se.toInt64 (lN 0) (lN ((2 ^ n) - 1))) (va_cwS 3 hts gX7_some_X7_in rfl rfl rfl (by decide +kernel) ⟨Nat.le_of_ble_eq_true rfl, Nat.le_of_ble_eq_true rfl⟩) ⟨pc_blind, fun U hU hW => ⟨rfl, by rw [hU]; exact hP.sub (ws' := []) [] rfl, hKN.warm hW⟩⟩ rfl rfl hl.1 rfl (lv_room (Nat.le_of_ble_eq_true rfl)) dX7_some_10 ⟨Nat.le_of_ble_eq_true rfl, Nat.le_of_ble_eq_true rfl⟩) hS hP (fun r2 H locs w2r hP hS => ?_)
  have w2 : B01 r2 ((lN 0).toInt ≤ se.toInt64.toInt ∧ se.toInt64.toInt ≤ (lN ((2 ^ n) - 1)).toInt) := w2r
  clear w2r
  rw [lN_toInt (n := 0) (by omega), j2 se, lN_toInt (n := ((2 ^ n) - 1)) (by omega)] at w2
  rcases w2 with ⟨rfl, w2⟩ | ⟨rfl, w2⟩
  · skip
    refine lv_if_eq (tgt := 57) hx hb dX7_some_13 (by decide) (fun c3 => ?_) (fun c3 => ?_)
    · exact absurd c3 (by first | decide | exact nz_lt (by omega) | exact fun h => h (nz_ge (by omega)))
    · skip
      refine lv_iload hx hb dX7_some_16 (lv_at hl 3 rfl) ?_
      refine lv_i2l hx hb dX7_some_18 rfl ?_
      refine lv_lconst (v := lN 0) hx hb dX7_some_19 (by decide) ?_
      refine lv_ldc2 (v := lN 3) hx hb hown (hts (.constantLong RX7 86 (lN 3)) (by decide +kernel)) dX7_some_20 ?_
      refine pu_i (va_runS (As := [.long wi.toInt64, .long (lN 0), .long (lN 3)]) (rest := []) ⟨hx, hb, hml, hown, hts⟩ (c_X7_in l D cI cJ cZ wi.toInt64 (lN 0) (lN 3)) (va_cwS 3 hts gX7_some_X7_in rfl rfl rfl (by decide +kernel) ⟨Nat.le_of_ble_eq_true rfl, Nat.le_of_ble_eq_true rfl⟩) ⟨pc_blind, fun U hU hW => ⟨rfl, by rw [hU]; exact hP.sub (ws' := []) [] rfl, hKN.warm hW⟩⟩ rfl rfl hl.1 rfl (lv_room (Nat.le_of_ble_eq_true rfl)) dX7_some_23 ⟨Nat.le_of_ble_eq_true rfl, Nat.le_of_ble_eq_true rfl⟩) hS hP (fun r4 H locs w4r hP hS => ?_)
      have w4 : B01 r4 ((lN 0).toInt ≤ wi.toInt64.toInt ∧ wi.toInt64.toInt ≤ (lN 3).toInt) := w4r
      clear w4r
      rw [lN_toInt (n := 0) (by omega), j2 wi, lN_toInt (n := 3) (by omega)] at w4
      rcases w4 with ⟨rfl, w4⟩ | ⟨rfl, w4⟩
      · skip
        refine lv_if_eq (tgt := 57) hx hb dX7_some_26 (by decide) (fun c5 => ?_) (fun c5 => ?_)
        · exact absurd c5 (by first | decide | exact nz_lt (by omega) | exact fun h => h (nz_ge (by omega)))
        · skip
          refine lv_iload hx hb dX7_some_29 (lv_at hl 4 rfl) ?_
          refine lv_i2l hx hb dX7_some_31 rfl ?_
          refine lv_lconst (v := lN 0) hx hb dX7_some_32 (by decide) ?_
          refine lv_ldc2 (v := lN 100) hx hb hown (hts (.constantLong RX7 88 (lN 100)) (by decide +kernel)) dX7_some_33 ?_
          refine pu_i (va_runS (As := [.long kk.toInt64, .long (lN 0), .long (lN 100)]) (rest := []) ⟨hx, hb, hml, hown, hts⟩ (c_X7_in l D cI cJ cZ kk.toInt64 (lN 0) (lN 100)) (va_cwS 3 hts gX7_some_X7_in rfl rfl rfl (by decide +kernel) ⟨Nat.le_of_ble_eq_true rfl, Nat.le_of_ble_eq_true rfl⟩) ⟨pc_blind, fun U hU hW => ⟨rfl, by rw [hU]; exact hP.sub (ws' := []) [] rfl, hKN.warm hW⟩⟩ rfl rfl hl.1 rfl (lv_room (Nat.le_of_ble_eq_true rfl)) dX7_some_36 ⟨Nat.le_of_ble_eq_true rfl, Nat.le_of_ble_eq_true rfl⟩) hS hP (fun r6 H locs w6r hP hS => ?_)
          have w6 : B01 r6 ((lN 0).toInt ≤ kk.toInt64.toInt ∧ kk.toInt64.toInt ≤ (lN 100).toInt) := w6r
          clear w6r
          rw [lN_toInt (n := 0) (by omega), j2 kk, lN_toInt (n := 100) (by omega)] at w6
          rcases w6 with ⟨rfl, w6⟩ | ⟨rfl, w6⟩
          · skip
            refine lv_if_eq (tgt := 57) hx hb dX7_some_39 (by decide) (fun c7 => ?_) (fun c7 => ?_)
            · exact absurd c7 (by first | decide | exact nz_lt (by omega) | exact fun h => h (nz_ge (by omega)))
            · skip
              refine lv_lload_n hx hb dX7_some_42 rfl (lv_at hl 2 rfl) ?_
              refine lv_lconst (v := lN 0) hx hb dX7_some_43 (by decide) ?_
              refine W.lcmp hx hb dX7_some_44 ?_
              refine lv_if_lt (tgt := 57) hx hb dX7_some_45 (by decide) (fun c8 => ?_) (fun c8 => ?_)
              · skip
                have d8 := c8
                rw [lc_lt, j_lt, lN_toInt (n := 0) (by omega)] at d8
                refine lv_iconst (v := (-1 : Int32)) hx hb dX7_some_57 (by decide) ?_
                rw [← hQ]
                exact W.iret (v := (-1 : Int32)) hx hb hr (fun tS htS hWS => ⟨⟨(-1 : Int32), (nI c0, fs), rfl, Or.inr ⟨rfl, by omega, rfl, rfl⟩, m_at htS hP⟩, by rw [← has]; exact hS.F htS⟩) (by rw [← has]; exact hS.2.2) dX7_some_58
              · skip
                have d8 := c8
                rw [lc_lt, j_lt, lN_toInt (n := 0) (by omega)] at d8
                refine lv_aload_n hx hb dX7_some_48 rfl (lv_at hl 0 rfl) ?_
                refine va_get (D := D) (ci := 7) (v := .int (nI c0)) (C := RX7) (T := TX7) (N := 17) hx hb hts hiX7 hown hK hP 0 rfl rfl 4 (by decide) hf59 (fun _ h9 => h9) rfl dX7_some_49 ?_
                refine lv_bipush (v := nI 40) hx hb dX7_some_52 (by decide) ?_
                refine lv_icmp_ne (tgt := 59) hx hb dX7_some_54 (by decide) (fun c9 => ?_) (fun c9 => ?_)
                · skip
                  have d9 := c9
                  rw [nI_eq (by omega) (by omega)] at d9
                  refine lv_iconst (v := nI 0) hx hb dX7_some_59 (by decide) ?_
                  refine lv_istore (lv' := [(6, .int (nI 0)), (0, .ref m0), (1, .int se), (2, .long wo), (4, .int wi), (5, .int kk)]) hx hb dX7_some_60 hl (by decide) rfl (fun ls hl => ?_)
                  have loop10 : ∀ (fu : Nat) (k : Nat) (us : Nat → Int32) (H : Heap) (locs : List Loc) (ls : Array Slot), (k ≤ 2 ^ n ∧ 2 ^ n < k + fu) → (T01 us) → va_P D vwCl [(m0, .inr (7, [.int (nI n), .ref g1, .ref g2, .ref g3, .int (nI c0), .ref g4, .int my, .ref g5, .int mo, .ref g6, .int ml, .ref g7, .ref g8, .ref g9, .ref g10, .ref g11, .ref g12])), (g4, .inl (cZ, 20480, .inl us))] H → va_D (aA as) [(m0, .inr (7, [.int (nI n), .ref g1, .ref g2, .ref g3, .int (nI c0), .ref g4, .int my, .ref g5, .int mo, .ref g6, .int ml, .ref g7, .ref g8, .ref g9, .ref g10, .ref g11, .ref g12])), (g4, .inl (cZ, 20480, .inl us))] → va_S (aA as) s.heap H locs → lv_has ls 11 [(6, .int (nI k)), (0, .ref m0), (1, .int se), (2, .long wo), (4, .int wi), (5, .int kk)] → W p l e (headSpec wsX7_some rm_c_X7_some_g).room s m ([.ref m0, .int se, .long wo, .int wi, .int kk] : List Value).toArray below meth c H locs 0 0 Q (F0 m 62 ls []) := by
                    intro fu
                    induction fu with
                    | zero => intro k us H locs ls hk hT; exact absurd hk (by omega)
                    | succ fu ih10 =>
                      intro k us H locs ls hk hT hP hD hS hl
                      refine lv_iload hx hb dX7_some_62 (lv_at hl 0 rfl) ?_
                      refine lv_aload_n hx hb dX7_some_64 rfl (lv_at hl 1 rfl) ?_
                      refine pu_i (va_runV (As := []) (rest := [.int (nI k)]) ⟨hx, hb, hml, hown, hts⟩ (c_X7_settings l D cI cJ cZ m0 g1 g2 g3 g4 g5 g6 g7 g8 g9 g10 g11 g12 n (nI c0) my mo ml (by first | assumption | omega)) (cwV 0 hts gX7_some_X7_settings rfl rfl rfl (by decide +kernel) ⟨Nat.le_of_ble_eq_true rfl, Nat.le_of_ble_eq_true rfl⟩) ⟨pc_blind, va_recv hK hP (ci := 7) (q0 := 0) rfl rfl, fun U hU hW => ⟨rfl, by rw [hU]; exact hP.sub (ws' := [(m0, .inr (7, [.int (nI n), .ref g1, .ref g2, .ref g3, .int (nI c0), .ref g4, .int my, .ref g5, .int mo, .ref g6, .int ml, .ref g7, .ref g8, .ref g9, .ref g10, .ref g11, .ref g12]))]) [0] rfl, hKN.warm hW⟩⟩ rfl rfl hl.1 rfl (lv_room (Nat.le_of_ble_eq_true rfl)) dX7_some_65 ⟨Nat.le_of_ble_eq_true rfl, Nat.le_of_ble_eq_true rfl⟩) hS hP (fun r11 H locs w11r hP hS => ?_)
                      have w11 : r11 = nI (2 ^ n) := w11r
                      clear w11r
                      obtain rfl : r11 = nI (2 ^ n) := w11
                      refine lv_icmp_ge (tgt := 193) hx hb dX7_some_68 (by decide) (fun c12 => ?_) (fun c12 => ?_)
                      · skip
                        have d12 := c12
                        rw [nI_leI (by omega) (by omega)] at d12
                        refine lv_aload_n hx hb dX7_some_193 rfl (lv_at hl 1 rfl) ?_
                        refine mu_i (n := 2) (wc := [(m0, .inr (7, [.int (nI n), .ref g1, .ref g2, .ref g3, .int (nI c0), .ref g4, .int my, .ref g5, .int mo, .ref g6, .int ml, .ref g7, .ref g8, .ref g9, .ref g10, .ref g11, .ref g12]))]) (va_runV (As := []) (rest := []) ⟨hx, hb, hml, hown, hts⟩ (c_X7_added l D cI cJ cZ m0 g1 g2 g3 g4 g5 g6 g7 g8 g9 g10 g11 g12 c0 (nI n) my mo ml (by first | assumption | omega)) (cwV 0 hts gX7_some_X7_added rfl rfl rfl (by decide +kernel) ⟨Nat.le_of_ble_eq_true rfl, Nat.le_of_ble_eq_true rfl⟩) ⟨pm_blind, va_recv hK hP (ci := 7) (q0 := 0) rfl rfl, fun U hU hW => ⟨rfl, by rw [hU]; exact hP.sub (ws' := [(m0, .inr (7, [.int (nI n), .ref g1, .ref g2, .ref g3, .int (nI c0), .ref g4, .int my, .ref g5, .int mo, .ref g6, .int ml, .ref g7, .ref g8, .ref g9, .ref g10, .ref g11, .ref g12]))]) [0] rfl, hKN.warm hW, (hD.sub (ws' := [(m0, .inr (7, [.int (nI n), .ref g1, .ref g2, .ref g3, .int (nI c0), .ref g4, .int my, .ref g5, .int mo, .ref g6, .int ml, .ref g7, .ref g8, .ref g9, .ref g10, .ref g11, .ref g12]))]) [0] (by decide) rfl).weaken (fun _ _ _ _ => trivial)⟩⟩ rfl rfl hl.1 rfl (lv_room (Nat.le_of_ble_eq_true rfl)) dX7_some_194 ⟨Nat.le_of_ble_eq_true rfl, Nat.le_of_ble_eq_true rfl⟩) hS hP hD (fun (u : Unit) => [(m0, .inr (7, [.int (nI n), .ref g1, .ref g2, .ref g3, .int (nI (c0 + 1)), .ref g4, .int my, .ref g5, .int mo, .ref g6, .int ml, .ref g7, .ref g8, .ref g9, .ref g10, .ref g11, .ref g12])), (g4, .inl (cZ, 20480, .inl us))]) [0] [1] rfl rfl (fun _ => rfl) (fun _ => rfl) (fun _ => rfl) (fun _ => rfl) (by decide) (by decide) (fun r13 u13 H locs w13r hP hD hS => ?_)
                        have hP : va_P D vwCl [(m0, .inr (7, [.int (nI n), .ref g1, .ref g2, .ref g3, .int (nI (c0 + 1)), .ref g4, .int my, .ref g5, .int mo, .ref g6, .int ml, .ref g7, .ref g8, .ref g9, .ref g10, .ref g11, .ref g12])), (g4, .inl (cZ, 20480, .inl us))] H := hP
                        have hD : va_D (aA as) [(m0, .inr (7, [.int (nI n), .ref g1, .ref g2, .ref g3, .int (nI (c0 + 1)), .ref g4, .int my, .ref g5, .int mo, .ref g6, .int ml, .ref g7, .ref g8, .ref g9, .ref g10, .ref g11, .ref g12])), (g4, .inl (cZ, 20480, .inl us))] := hD
                        have w13 : r13 = nI c0 := w13r
                        clear w13r
                        rw [← hQ]
                        exact W.iret (v := r13) hx hb hr (fun tS htS hWS => ⟨⟨r13, (nI (c0 + 1), us), rfl, Or.inl ⟨by assumption, by omega, rfl, by assumption⟩, m_at htS hP⟩, by rw [← has]; exact hS.F htS⟩) (by rw [← has]; exact hS.2.2) dX7_some_197
                      · skip
                        have d12 := c12
                        rw [nI_leI (by omega) (by omega)] at d12
                        refine lv_iconst (v := nI 0) hx hb dX7_some_71 (by decide) ?_
                        refine lv_istore (lv' := [(7, .int (nI 0)), (6, .int (nI k)), (0, .ref m0), (1, .int se), (2, .long wo), (4, .int wi), (5, .int kk)]) hx hb dX7_some_72 hl (by decide) rfl (fun ls hl => ?_)
                        refine lv_iconst (v := nI 0) hx hb dX7_some_74 (by decide) ?_
                        refine lv_istore (lv' := [(8, .int (nI 0)), (7, .int (nI 0)), (6, .int (nI k)), (0, .ref m0), (1, .int se), (2, .long wo), (4, .int wi), (5, .int kk)]) hx hb dX7_some_75 hl (by decide) rfl (fun ls hl => ?_)
                        refine lv_iconst (v := nI 0) hx hb dX7_some_77 (by decide) ?_
                        refine lv_istore (lv' := [(9, .int (nI 0)), (8, .int (nI 0)), (7, .int (nI 0)), (6, .int (nI k)), (0, .ref m0), (1, .int se), (2, .long wo), (4, .int wi), (5, .int kk)]) hx hb dX7_some_78 hl (by decide) rfl (fun ls hl => ?_)
                        have loop14 : ∀ (fu : Nat) (k2 : Nat) (v7 : Int32) (v8 : Int32) (H : Heap) (locs : List Loc) (ls : Array Slot), (k2 ≤ n ∧ n < k2 + fu) → va_P D vwCl [(m0, .inr (7, [.int (nI n), .ref g1, .ref g2, .ref g3, .int (nI c0), .ref g4, .int my, .ref g5, .int mo, .ref g6, .int ml, .ref g7, .ref g8, .ref g9, .ref g10, .ref g11, .ref g12])), (g4, .inl (cZ, 20480, .inl us))] H → va_D (aA as) [(m0, .inr (7, [.int (nI n), .ref g1, .ref g2, .ref g3, .int (nI c0), .ref g4, .int my, .ref g5, .int mo, .ref g6, .int ml, .ref g7, .ref g8, .ref g9, .ref g10, .ref g11, .ref g12])), (g4, .inl (cZ, 20480, .inl us))] → va_S (aA as) s.heap H locs → lv_has ls 11 [(9, .int (nI k2)), (8, .int v8), (7, .int v7), (6, .int (nI k)), (0, .ref m0), (1, .int se), (2, .long wo), (4, .int wi), (5, .int kk)] → W p l e (headSpec wsX7_some rm_c_X7_some_g).room s m ([.ref m0, .int se, .long wo, .int wi, .int kk] : List Value).toArray below meth c H locs 0 0 Q (F0 m 80 ls []) := by
                          intro fu
                          induction fu with
                          | zero => intro k2 v7 v8 H locs ls hk2; exact absurd hk2 (by omega)
                          | succ fu ih14 =>
                            intro k2 v7 v8 H locs ls hk2 hP hD hS hl
                            have hs1 := sb_lt se k2
                            refine lv_iload hx hb dX7_some_80 (lv_at hl 0 rfl) ?_
                            refine lv_aload_n hx hb dX7_some_82 rfl (lv_at hl 4 rfl) ?_
                            refine va_get (D := D) (ci := 7) (v := .int (nI n)) (C := RX7) (T := TX7) (N := 17) hx hb hts hiX7 hown hK hP 0 rfl rfl 0 (by decide) hf7 (fun _ h9 => h9) rfl dX7_some_83 ?_
                            refine lv_icmp_ge (tgt := 159) hx hb dX7_some_86 (by decide) (fun c15 => ?_) (fun c15 => ?_)
                            · skip
                              have d15 := c15
                              rw [nI_leI (by omega) (by omega)] at d15
                              refine lv_aload_n hx hb dX7_some_159 rfl (lv_at hl 4 rfl) ?_
                              refine va_get (D := D) (ci := 7) (v := .ref g4) (C := RX7) (T := TX7) (N := 17) hx hb hts hiX7 hown hK hP 0 rfl rfl 5 (by decide) hf23 (fun _ h9 => h9) rfl dX7_some_160 ?_
                              refine lv_sipush (v := nI 512) hx hb dX7_some_163 (by decide) ?_
                              refine lv_aload_n hx hb dX7_some_166 rfl (lv_at hl 4 rfl) ?_
                              refine va_get (D := D) (ci := 7) (v := .int (nI c0)) (C := RX7) (T := TX7) (N := 17) hx hb hts hiX7 hown hK hP 0 rfl rfl 4 (by decide) hf59 (fun _ h9 => h9) rfl dX7_some_167 ?_
                              refine lv_imul hx hb dX7_some_170 ?_
                              refine cn_i (y := nI (512 * c0)) (pk_mul 512 c0) ?_
                              refine lv_iload hx hb dX7_some_171 (lv_at hl 3 rfl) ?_
                              refine lv_iadd hx hb dX7_some_173 ?_
                              refine cn_i (y := nI ((512 * c0) + k)) (nI_add (512 * c0) k) ?_
                              refine lv_iload hx hb dX7_some_174 (lv_at hl 2 rfl) ?_
                              refine lv_iload hx hb dX7_some_176 (lv_at hl 8 rfl) ?_
                              refine lv_icmp_lt (tgt := 185) hx hb dX7_some_178 (by decide) (fun c16 => ?_) (fun c16 => ?_)
                              · skip
                                have d16 := c16
                                rw [i_lt] at d16
                                refine lv_iconst (v := nI 0) hx hb dX7_some_185 (by decide) ?_
                                refine va_zast hx hb hK hP hD hS 1 2 rfl rfl (i := nI ((512 * c0) + k)) (vp_in_nI (by omega) (by omega)) dX7_some_186 (fun H locs hP hD hS => ?_)
                                have hP : va_P D vwCl [(m0, .inr (7, [.int (nI n), .ref g1, .ref g2, .ref g3, .int (nI c0), .ref g4, .int my, .ref g5, .int mo, .ref g6, .int ml, .ref g7, .ref g8, .ref g9, .ref g10, .ref g11, .ref g12])), (g4, .inl (cZ, 20480, .inl (upd us (nI ((512 * c0) + k)).toNatClampNeg (vp_nar .boolean (nI 0)))))] H := hP
                                have hD : va_D (aA as) [(m0, .inr (7, [.int (nI n), .ref g1, .ref g2, .ref g3, .int (nI c0), .ref g4, .int my, .ref g5, .int mo, .ref g6, .int ml, .ref g7, .ref g8, .ref g9, .ref g10, .ref g11, .ref g12])), (g4, .inl (cZ, 20480, .inl (upd us (nI ((512 * c0) + k)).toNatClampNeg (vp_nar .boolean (nI 0)))))] := hD
                                rw [nI_clamp (n := ((512 * c0) + k)) (by omega)] at hP hD
                                refine lv_iinc (v := nI (k + 1)) (lv' := [(6, .int (nI (k + 1))), (9, .int (nI k2)), (8, .int v8), (7, .int v7), (0, .ref m0), (1, .int se), (2, .long wo), (4, .int wi), (5, .int kk)]) hx hb dX7_some_187 hl (k := 3) rfl (nI_1 k) (by decide) rfl (fun ls hl => ?_)
                                refine lv_goto (tgt := 62) hx hb dX7_some_190 (by decide) ?_
                                exact ih10 (k + 1) (upd us ((512 * c0) + k) (vp_nar .boolean (nI 0))) _ _ _ (by omega) (m_u01 hT (by decide)) hP hD hS (lv_sub hl [0, 4, 5, 6, 7, 8] rfl)
                              · skip
                                have d16 := c16
                                rw [i_lt] at d16
                                refine lv_iconst (v := nI 1) hx hb dX7_some_181 (by decide) ?_
                                refine lv_goto (tgt := 186) hx hb dX7_some_182 (by decide) ?_
                                refine va_zast hx hb hK hP hD hS 1 2 rfl rfl (i := nI ((512 * c0) + k)) (vp_in_nI (by omega) (by omega)) dX7_some_186 (fun H locs hP hD hS => ?_)
                                have hP : va_P D vwCl [(m0, .inr (7, [.int (nI n), .ref g1, .ref g2, .ref g3, .int (nI c0), .ref g4, .int my, .ref g5, .int mo, .ref g6, .int ml, .ref g7, .ref g8, .ref g9, .ref g10, .ref g11, .ref g12])), (g4, .inl (cZ, 20480, .inl (upd us (nI ((512 * c0) + k)).toNatClampNeg (vp_nar .boolean (nI 1)))))] H := hP
                                have hD : va_D (aA as) [(m0, .inr (7, [.int (nI n), .ref g1, .ref g2, .ref g3, .int (nI c0), .ref g4, .int my, .ref g5, .int mo, .ref g6, .int ml, .ref g7, .ref g8, .ref g9, .ref g10, .ref g11, .ref g12])), (g4, .inl (cZ, 20480, .inl (upd us (nI ((512 * c0) + k)).toNatClampNeg (vp_nar .boolean (nI 1)))))] := hD
                                rw [nI_clamp (n := ((512 * c0) + k)) (by omega)] at hP hD
                                refine lv_iinc (v := nI (k + 1)) (lv' := [(6, .int (nI (k + 1))), (9, .int (nI k2)), (8, .int v8), (7, .int v7), (0, .ref m0), (1, .int se), (2, .long wo), (4, .int wi), (5, .int kk)]) hx hb dX7_some_187 hl (k := 3) rfl (nI_1 k) (by decide) rfl (fun ls hl => ?_)
                                refine lv_goto (tgt := 62) hx hb dX7_some_190 (by decide) ?_
                                exact ih10 (k + 1) (upd us ((512 * c0) + k) (vp_nar .boolean (nI 1))) _ _ _ (by omega) (m_u01 hT (by decide)) hP hD hS (lv_sub hl [0, 4, 5, 6, 7, 8] rfl)
                            · skip
                              have d15 := c15
                              rw [nI_leI (by omega) (by omega)] at d15
                              refine lv_iload_n hx hb dX7_some_89 rfl (lv_at hl 5 rfl) ?_
                              refine lv_iload hx hb dX7_some_90 (lv_at hl 0 rfl) ?_
                              refine lv_ishr hx hb dX7_some_92 ?_
                              refine lv_iconst (v := nI 1) hx hb dX7_some_93 (by decide) ?_
                              refine lv_iand hx hb dX7_some_94 ?_
                              refine cn_i (y := nI (sb se k2)) (sb_ok se k2) ?_
                              refine lv_if_ne (tgt := 101) hx hb dX7_some_95 (by decide) (fun c17 => ?_) (fun c17 => ?_)
                              · skip
                                have d17 := c17
                                rw [nz_eq (by omega)] at d17
                                refine lv_iload hx hb dX7_some_101 (lv_at hl 7 rfl) ?_
                                refine lv_if_ne (tgt := 110) hx hb dX7_some_103 (by decide) (fun c18 => ?_) (fun c18 => ?_)
                                · skip
                                  have d18 := c18
                                  rw [i_eq, i_z] at d18
                                  refine lv_lload_n hx hb dX7_some_110 rfl (lv_at hl 6 rfl) ?_
                                  refine lv_iload hx hb dX7_some_111 (lv_at hl 1 rfl) ?_
                                  refine lv_lshr hx hb dX7_some_113 rfl ?_
                                  refine lv_lconst (v := lN 1) hx hb dX7_some_114 (by decide) ?_
                                  refine lv_iload hx hb dX7_some_115 (lv_at hl 7 rfl) ?_
                                  refine lv_lshl hx hb dX7_some_117 rfl ?_
                                  refine lv_lconst (v := lN 1) hx hb dX7_some_118 (by decide) ?_
                                  refine lv_lsub hx hb dX7_some_119 ?_
                                  refine lv_land hx hb dX7_some_120 ?_
                                  refine lv_l2i hx hb dX7_some_121 rfl ?_
                                  refine lv_istore (lv' := [(10, .int (((wo >>> (v8.toInt64 &&& 63)) &&& (((lN 1) <<< (wi.toInt64 &&& 63)) - (lN 1))).toInt32)), (9, .int (nI k2)), (8, .int v8), (7, .int v7), (6, .int (nI k)), (0, .ref m0), (1, .int se), (2, .long wo), (4, .int wi), (5, .int kk)]) hx hb dX7_some_122 hl (by decide) rfl (fun ls hl => ?_)
                                  refine lv_iload hx hb dX7_some_124 (lv_at hl 2 rfl) ?_
                                  refine lv_iload hx hb dX7_some_126 (lv_at hl 8 rfl) ?_
                                  refine lv_iadd hx hb dX7_some_128 ?_
                                  refine lv_istore (lv' := [(8, .int (v8 + wi)), (10, .int (((wo >>> (v8.toInt64 &&& 63)) &&& (((lN 1) <<< (wi.toInt64 &&& 63)) - (lN 1))).toInt32)), (9, .int (nI k2)), (7, .int v7), (6, .int (nI k)), (0, .ref m0), (1, .int se), (2, .long wo), (4, .int wi), (5, .int kk)]) hx hb dX7_some_129 hl (by decide) rfl (fun ls hl => ?_)
                                  refine lv_iload hx hb dX7_some_131 (lv_at hl 3 rfl) ?_
                                  refine lv_iload hx hb dX7_some_133 (lv_at hl 4 rfl) ?_
                                  refine lv_iload hx hb dX7_some_135 (lv_at hl 2 rfl) ?_
                                  refine lv_ishr hx hb dX7_some_137 ?_
                                  refine cn_i (y := nI (k / 2 ^ k2)) (m_shr (by omega) (by omega)) ?_
                                  refine lv_iconst (v := nI 1) hx hb dX7_some_138 (by decide) ?_
                                  refine lv_iand hx hb dX7_some_139 ?_
                                  refine cn_i (y := nI ((k / 2 ^ k2) % 2)) (m_andn1 (by first | omega | exact Nat.lt_of_le_of_lt (Nat.div_le_self _ _) (by omega))) ?_
                                  refine lv_iconst (v := nI 1) hx hb dX7_some_140 (by decide) ?_
                                  refine lv_icmp_ne (tgt := 149) hx hb dX7_some_141 (by decide) (fun c19 => ?_) (fun c19 => ?_)
                                  · skip
                                    have d19 := c19
                                    rw [nI_eq (by omega) (by omega)] at d19
                                    refine lv_iconst (v := nI 0) hx hb dX7_some_149 (by decide) ?_
                                    refine lv_iadd hx hb dX7_some_150 ?_
                                    refine lv_istore (lv' := [(7, .int (v7 + (nI 0))), (8, .int (v8 + wi)), (10, .int (((wo >>> (v8.toInt64 &&& 63)) &&& (((lN 1) <<< (wi.toInt64 &&& 63)) - (lN 1))).toInt32)), (9, .int (nI k2)), (6, .int (nI k)), (0, .ref m0), (1, .int se), (2, .long wo), (4, .int wi), (5, .int kk)]) hx hb dX7_some_151 hl (by decide) rfl (fun ls hl => ?_)
                                    refine lv_iinc (v := nI (k2 + 1)) (lv' := [(9, .int (nI (k2 + 1))), (7, .int (v7 + (nI 0))), (8, .int (v8 + wi)), (10, .int (((wo >>> (v8.toInt64 &&& 63)) &&& (((lN 1) <<< (wi.toInt64 &&& 63)) - (lN 1))).toInt32)), (6, .int (nI k)), (0, .ref m0), (1, .int se), (2, .long wo), (4, .int wi), (5, .int kk)]) hx hb dX7_some_153 hl (k := 3) rfl (nI_1 k2) (by decide) rfl (fun ls hl => ?_)
                                    refine lv_goto (tgt := 80) hx hb dX7_some_156 (by decide) ?_
                                    exact ih14 (k2 + 1) (v7 + (nI 0)) (v8 + wi) _ _ _ (by omega) hP hD hS (lv_sub hl [0, 2, 1, 4, 5, 6, 7, 8, 9] rfl)
                                  · skip
                                    have d19 := c19
                                    rw [nI_eq (by omega) (by omega)] at d19
                                    refine lv_iload hx hb dX7_some_144 (lv_at hl 1 rfl) ?_
                                    refine lv_goto (tgt := 150) hx hb dX7_some_146 (by decide) ?_
                                    refine lv_iadd hx hb dX7_some_150 ?_
                                    refine lv_istore (lv' := [(7, .int (v7 + (((wo >>> (v8.toInt64 &&& 63)) &&& (((lN 1) <<< (wi.toInt64 &&& 63)) - (lN 1))).toInt32))), (8, .int (v8 + wi)), (10, .int (((wo >>> (v8.toInt64 &&& 63)) &&& (((lN 1) <<< (wi.toInt64 &&& 63)) - (lN 1))).toInt32)), (9, .int (nI k2)), (6, .int (nI k)), (0, .ref m0), (1, .int se), (2, .long wo), (4, .int wi), (5, .int kk)]) hx hb dX7_some_151 hl (by decide) rfl (fun ls hl => ?_)
                                    refine lv_iinc (v := nI (k2 + 1)) (lv' := [(9, .int (nI (k2 + 1))), (7, .int (v7 + (((wo >>> (v8.toInt64 &&& 63)) &&& (((lN 1) <<< (wi.toInt64 &&& 63)) - (lN 1))).toInt32))), (8, .int (v8 + wi)), (10, .int (((wo >>> (v8.toInt64 &&& 63)) &&& (((lN 1) <<< (wi.toInt64 &&& 63)) - (lN 1))).toInt32)), (6, .int (nI k)), (0, .ref m0), (1, .int se), (2, .long wo), (4, .int wi), (5, .int kk)]) hx hb dX7_some_153 hl (k := 3) rfl (nI_1 k2) (by decide) rfl (fun ls hl => ?_)
                                    refine lv_goto (tgt := 80) hx hb dX7_some_156 (by decide) ?_
                                    exact ih14 (k2 + 1) (v7 + (((wo >>> (v8.toInt64 &&& 63)) &&& (((lN 1) <<< (wi.toInt64 &&& 63)) - (lN 1))).toInt32)) (v8 + wi) _ _ _ (by omega) hP hD hS (lv_sub hl [0, 2, 1, 4, 5, 6, 7, 8, 9] rfl)
                                · skip
                                  have d18 := c18
                                  rw [i_eq, i_z] at d18
                                  refine lv_iconst (v := nI 1) hx hb dX7_some_106 (by decide) ?_
                                  refine lv_goto (tgt := 122) hx hb dX7_some_107 (by decide) ?_
                                  refine lv_istore (lv' := [(10, .int (nI 1)), (9, .int (nI k2)), (8, .int v8), (7, .int v7), (6, .int (nI k)), (0, .ref m0), (1, .int se), (2, .long wo), (4, .int wi), (5, .int kk)]) hx hb dX7_some_122 hl (by decide) rfl (fun ls hl => ?_)
                                  refine lv_iload hx hb dX7_some_124 (lv_at hl 2 rfl) ?_
                                  refine lv_iload hx hb dX7_some_126 (lv_at hl 8 rfl) ?_
                                  refine lv_iadd hx hb dX7_some_128 ?_
                                  refine lv_istore (lv' := [(8, .int (v8 + wi)), (10, .int (nI 1)), (9, .int (nI k2)), (7, .int v7), (6, .int (nI k)), (0, .ref m0), (1, .int se), (2, .long wo), (4, .int wi), (5, .int kk)]) hx hb dX7_some_129 hl (by decide) rfl (fun ls hl => ?_)
                                  refine lv_iload hx hb dX7_some_131 (lv_at hl 3 rfl) ?_
                                  refine lv_iload hx hb dX7_some_133 (lv_at hl 4 rfl) ?_
                                  refine lv_iload hx hb dX7_some_135 (lv_at hl 2 rfl) ?_
                                  refine lv_ishr hx hb dX7_some_137 ?_
                                  refine cn_i (y := nI (k / 2 ^ k2)) (m_shr (by omega) (by omega)) ?_
                                  refine lv_iconst (v := nI 1) hx hb dX7_some_138 (by decide) ?_
                                  refine lv_iand hx hb dX7_some_139 ?_
                                  refine cn_i (y := nI ((k / 2 ^ k2) % 2)) (m_andn1 (by first | omega | exact Nat.lt_of_le_of_lt (Nat.div_le_self _ _) (by omega))) ?_
                                  refine lv_iconst (v := nI 1) hx hb dX7_some_140 (by decide) ?_
                                  refine lv_icmp_ne (tgt := 149) hx hb dX7_some_141 (by decide) (fun c20 => ?_) (fun c20 => ?_)
                                  · skip
                                    have d20 := c20
                                    rw [nI_eq (by omega) (by omega)] at d20
                                    refine lv_iconst (v := nI 0) hx hb dX7_some_149 (by decide) ?_
                                    refine lv_iadd hx hb dX7_some_150 ?_
                                    refine lv_istore (lv' := [(7, .int (v7 + (nI 0))), (8, .int (v8 + wi)), (10, .int (nI 1)), (9, .int (nI k2)), (6, .int (nI k)), (0, .ref m0), (1, .int se), (2, .long wo), (4, .int wi), (5, .int kk)]) hx hb dX7_some_151 hl (by decide) rfl (fun ls hl => ?_)
                                    refine lv_iinc (v := nI (k2 + 1)) (lv' := [(9, .int (nI (k2 + 1))), (7, .int (v7 + (nI 0))), (8, .int (v8 + wi)), (10, .int (nI 1)), (6, .int (nI k)), (0, .ref m0), (1, .int se), (2, .long wo), (4, .int wi), (5, .int kk)]) hx hb dX7_some_153 hl (k := 3) rfl (nI_1 k2) (by decide) rfl (fun ls hl => ?_)
                                    refine lv_goto (tgt := 80) hx hb dX7_some_156 (by decide) ?_
                                    exact ih14 (k2 + 1) (v7 + (nI 0)) (v8 + wi) _ _ _ (by omega) hP hD hS (lv_sub hl [0, 2, 1, 4, 5, 6, 7, 8, 9] rfl)
                                  · skip
                                    have d20 := c20
                                    rw [nI_eq (by omega) (by omega)] at d20
                                    refine lv_iload hx hb dX7_some_144 (lv_at hl 1 rfl) ?_
                                    refine lv_goto (tgt := 150) hx hb dX7_some_146 (by decide) ?_
                                    refine lv_iadd hx hb dX7_some_150 ?_
                                    refine lv_istore (lv' := [(7, .int (v7 + (nI 1))), (8, .int (v8 + wi)), (10, .int (nI 1)), (9, .int (nI k2)), (6, .int (nI k)), (0, .ref m0), (1, .int se), (2, .long wo), (4, .int wi), (5, .int kk)]) hx hb dX7_some_151 hl (by decide) rfl (fun ls hl => ?_)
                                    refine lv_iinc (v := nI (k2 + 1)) (lv' := [(9, .int (nI (k2 + 1))), (7, .int (v7 + (nI 1))), (8, .int (v8 + wi)), (10, .int (nI 1)), (6, .int (nI k)), (0, .ref m0), (1, .int se), (2, .long wo), (4, .int wi), (5, .int kk)]) hx hb dX7_some_153 hl (k := 3) rfl (nI_1 k2) (by decide) rfl (fun ls hl => ?_)
                                    refine lv_goto (tgt := 80) hx hb dX7_some_156 (by decide) ?_
                                    exact ih14 (k2 + 1) (v7 + (nI 1)) (v8 + wi) _ _ _ (by omega) hP hD hS (lv_sub hl [0, 2, 1, 4, 5, 6, 7, 8, 9] rfl)
                              · skip
                                have d17 := c17
                                rw [nz_eq (by omega)] at d17
                                refine lv_goto (tgt := 153) hx hb dX7_some_98 (by decide) ?_
                                refine lv_iinc (v := nI (k2 + 1)) (lv' := [(9, .int (nI (k2 + 1))), (8, .int v8), (7, .int v7), (6, .int (nI k)), (0, .ref m0), (1, .int se), (2, .long wo), (4, .int wi), (5, .int kk)]) hx hb dX7_some_153 hl (k := 0) rfl (nI_1 k2) (by decide) rfl (fun ls hl => ?_)
                                refine lv_goto (tgt := 80) hx hb dX7_some_156 (by decide) ?_
                                exact ih14 (k2 + 1) v7 v8 _ _ _ (by omega) hP hD hS (lv_sub hl [0, 1, 2, 3, 4, 5, 6, 7, 8] rfl)
                        exact loop14 (n + 1) 0 (nI 0) (nI 0) _ _ _ (by omega) hP hD hS (lv_sub hl [0, 1, 2, 3, 4, 5, 6, 7, 8] rfl)
                  exact loop10 (2 ^ n + 1) 0 fs _ _ _ (by omega) h01 hP hD hS (lv_sub hl [0, 1, 2, 3, 4, 5] rfl)
                · skip
                  have d9 := c9
                  rw [nI_eq (by omega) (by omega)] at d9
                  refine lv_iconst (v := (-1 : Int32)) hx hb dX7_some_57 (by decide) ?_
                  rw [← hQ]
                  exact W.iret (v := (-1 : Int32)) hx hb hr (fun tS htS hWS => ⟨⟨(-1 : Int32), (nI c0, fs), rfl, Or.inr ⟨rfl, by omega, rfl, rfl⟩, m_at htS hP⟩, by rw [← has]; exact hS.F htS⟩) (by rw [← has]; exact hS.2.2) dX7_some_58
          · skip
            refine lv_if_eq (tgt := 57) hx hb dX7_some_39 (by decide) (fun c21 => ?_) (fun c21 => ?_)
            · skip
              refine lv_iconst (v := (-1 : Int32)) hx hb dX7_some_57 (by decide) ?_
              rw [← hQ]
              exact W.iret (v := (-1 : Int32)) hx hb hr (fun tS htS hWS => ⟨⟨(-1 : Int32), (nI c0, fs), rfl, Or.inr ⟨rfl, by omega, rfl, rfl⟩, m_at htS hP⟩, by rw [← has]; exact hS.F htS⟩) (by rw [← has]; exact hS.2.2) dX7_some_58
            · exact absurd c21 (by first | decide | exact nz_lt (by omega) | exact fun h => h (nz_ge (by omega)))
      · skip
        refine lv_if_eq (tgt := 57) hx hb dX7_some_26 (by decide) (fun c22 => ?_) (fun c22 => ?_)
        · skip
          refine lv_iconst (v := (-1 : Int32)) hx hb dX7_some_57 (by decide) ?_
          rw [← hQ]
          exact W.iret (v := (-1 : Int32)) hx hb hr (fun tS htS hWS => ⟨⟨(-1 : Int32), (nI c0, fs), rfl, Or.inr ⟨rfl, by omega, rfl, rfl⟩, m_at htS hP⟩, by rw [← has]; exact hS.F htS⟩) (by rw [← has]; exact hS.2.2) dX7_some_58
        · exact absurd c22 (by first | decide | exact nz_lt (by omega) | exact fun h => h (nz_ge (by omega)))
  · skip
    refine lv_if_eq (tgt := 57) hx hb dX7_some_13 (by decide) (fun c23 => ?_) (fun c23 => ?_)
    · skip
      refine lv_iconst (v := (-1 : Int32)) hx hb dX7_some_57 (by decide) ?_
      rw [← hQ]
      exact W.iret (v := (-1 : Int32)) hx hb hr (fun tS htS hWS => ⟨⟨(-1 : Int32), (nI c0, fs), rfl, Or.inr ⟨rfl, by omega, rfl, rfl⟩, m_at htS hP⟩, by rw [← has]; exact hS.F htS⟩) (by rw [← has]; exact hS.2.2) dX7_some_58
    · exact absurd c23 (by first | decide | exact nz_lt (by omega) | exact fun h => h (nz_ge (by omega)))
def rm_c_X7_says_g : Room := { frames := 2, cells := 0, slots := 0, locals := 46 }
set_option maxHeartbeats 400000 in
set_option maxRecDepth 100000 in
theorem c_X7_says_g (l : Launch) (D : va_G) (cI cJ cZ : ClassId) (m0 : Nat) (g1 : Nat) (g2 : Nat) (g3 : Nat) (g4 : Nat) (g5 : Nat) (g6 : Nat) (g7 : Nat) (g8 : Nat) (g9 : Nat) (g10 : Nat) (g11 : Nat) (g12 : Nat) (n : Nat) (c0 : Nat) (my : Int32) (mo : Int32) (ml : Int32) (p0 : Int32) (p1 : Int32) (fs : Nat → Int32) (hn : n ≤ 9) (h1n : 1 ≤ n) (hc : c0 ≤ 40) (h01 : T01 fs) : Met l yX7_says wsX7_says rm_c_X7_says_g (pc_ D cI cJ cZ [.ref m0, .int p0, .int p1] [(m0, .inr (7, [.int (nI n), .ref g1, .ref g2, .ref g3, .int (nI c0), .ref g4, .int my, .ref g5, .int mo, .ref g6, .int ml, .ref g7, .ref g8, .ref g9, .ref g10, .ref g11, .ref g12])), (g4, .inl (cZ, 20480, .inl fs))]) (va_Qi (fun (r : Int32) (_ : Unit) => True) (fun _ _ => True) aN) 0 0 aN := by
  refine Met.ofW (cc := cX7_says) (maxL := 3) (ret := (some .int)) (by decide) rfl ?_
  intro p e s m args below meth c s₁ B hml hv
  obtain ⟨rfl, hP, hKN⟩ := hv
  have hK := hKN.1
  have hx := B.exec
  have hb := B.bytes
  have hr := B.returns
  have hts := atoms_spec (ws := wsX7_says) B.pre
  have hown : s.vm.findClass RX7 = some m.cls := findClass_of_methodNamed B.named
  have hlocks := B.notSynchronized
  have hiX7 : ∀ w ∈ wsX70, w ∈ wsX7_says := by decide +kernel
  have hf23 := hts (.fieldLink RX7 23 "LookBenchModel" "says" "[Z") (by decide +kernel)
  have hS : va_S aN s.heap s.heap [] := va_S.rf
  have hl := lv_entry ([.ref m0, .int p0, .int p1]) (n := 3) (Nat.le_of_ble_eq_true rfl)
  rw [lg_entry_eq]
  generalize (lg_sl ([.ref m0, .int p0, .int p1]) ++ List.replicate (3 - (lg_sl ([.ref m0, .int p0, .int p1])).length) Slot.unset).toArray = ls at hl ⊢
  have hl : lv_has ls 3 [(0, .ref m0), (1, .int p0), (2, .int p1)] := hl
  generalize hQ : MQ below _ _ s _ _ _ = Q
  obtain ⟨H, hH⟩ : ∃ z, z = s.heap := ⟨_, rfl⟩
  have hP : va_P D vwCl [(m0, .inr (7, [.int (nI n), .ref g1, .ref g2, .ref g3, .int (nI c0), .ref g4, .int my, .ref g5, .int mo, .ref g6, .int ml, .ref g7, .ref g8, .ref g9, .ref g10, .ref g11, .ref g12])), (g4, .inl (cZ, 20480, .inl fs))] H := by rw [hH]; exact hP
  have hS : va_S aN s.heap H [] := by rw [hH]; exact hS
  refine m_heap hH ?_
  clear hH
  have h2n := m_pow hn
  have h2p := m_powp n
  refine lv_aload_n hx hb dX7_says_0 rfl (lv_at hl 0 rfl) ?_
  refine lv_iload_n hx hb dX7_says_1 rfl (lv_at hl 1 rfl) ?_
  refine pu_i (va_runV (As := [.int p0]) (rest := []) ⟨hx, hb, hml, hown, hts⟩ (c_X7_isRule l D cI cJ cZ m0 g1 g2 g3 g4 g5 g6 g7 g8 g9 g10 g11 g12 c0 (nI n) my mo ml p0 (by first | assumption | omega)) (cwV 1 hts gX7_says_X7_isRule rfl rfl rfl (by decide +kernel) ⟨Nat.le_of_ble_eq_true rfl, Nat.le_of_ble_eq_true rfl⟩) ⟨pc_blind, va_recv hK hP (ci := 7) (q0 := 0) rfl rfl, fun U hU hW => ⟨rfl, by rw [hU]; exact hP.sub (ws' := [(m0, .inr (7, [.int (nI n), .ref g1, .ref g2, .ref g3, .int (nI c0), .ref g4, .int my, .ref g5, .int mo, .ref g6, .int ml, .ref g7, .ref g8, .ref g9, .ref g10, .ref g11, .ref g12]))]) [0] rfl, hKN.warm hW⟩⟩ rfl rfl hl.1 rfl (lv_room (Nat.le_of_ble_eq_true rfl)) dX7_says_2 ⟨Nat.le_of_ble_eq_true rfl, Nat.le_of_ble_eq_true rfl⟩) hS hP (fun r1 H locs w1r hP hS => ?_)
  have w1 : B01 r1 (0 ≤ p0.toInt ∧ p0.toInt < c0) := w1r
  clear w1r
  rcases w1 with ⟨rfl, w1⟩ | ⟨rfl, w1⟩
  · skip
    obtain ⟨j9, hj9, rfl⟩ := m_nat w1
    have tj9 : (nI j9).toInt = (j9 : Int) := nI_toInt (by omega)
    refine lv_if_eq (tgt := 24) hx hb dX7_says_5 (by decide) (fun c2 => ?_) (fun c2 => ?_)
    · exact absurd c2 (by first | decide | exact nz_lt (by omega) | exact fun h => h (nz_ge (by omega)))
    · skip
      refine lv_iload_n hx hb dX7_says_8 rfl (lv_at hl 2 rfl) ?_
      refine lv_i2l hx hb dX7_says_9 rfl ?_
      refine lv_lconst (v := lN 0) hx hb dX7_says_10 (by decide) ?_
      refine lv_aload_n hx hb dX7_says_11 rfl (lv_at hl 0 rfl) ?_
      refine pu_i (va_runV (As := []) (rest := [.long (lN 0), .long p1.toInt64]) ⟨hx, hb, hml, hown, hts⟩ (c_X7_settings l D cI cJ cZ m0 g1 g2 g3 g4 g5 g6 g7 g8 g9 g10 g11 g12 n (nI c0) my mo ml (by first | assumption | omega)) (cwV 0 hts gX7_says_X7_settings rfl rfl rfl (by decide +kernel) ⟨Nat.le_of_ble_eq_true rfl, Nat.le_of_ble_eq_true rfl⟩) ⟨pc_blind, va_recv hK hP (ci := 7) (q0 := 0) rfl rfl, fun U hU hW => ⟨rfl, by rw [hU]; exact hP.sub (ws' := [(m0, .inr (7, [.int (nI n), .ref g1, .ref g2, .ref g3, .int (nI c0), .ref g4, .int my, .ref g5, .int mo, .ref g6, .int ml, .ref g7, .ref g8, .ref g9, .ref g10, .ref g11, .ref g12]))]) [0] rfl, hKN.warm hW⟩⟩ rfl rfl hl.1 rfl (lv_room (Nat.le_of_ble_eq_true rfl)) dX7_says_12 ⟨Nat.le_of_ble_eq_true rfl, Nat.le_of_ble_eq_true rfl⟩) hS hP (fun r3 H locs w3r hP hS => ?_)
      have w3 : r3 = nI (2 ^ n) := w3r
      clear w3r
      obtain rfl : r3 = nI (2 ^ n) := w3
      refine lv_iconst (v := nI 1) hx hb dX7_says_15 (by decide) ?_
      refine lv_isub hx hb dX7_says_16 ?_
      refine cn_i (y := nI ((2 ^ n) - 1)) (pk_sub (a := (2 ^ n)) (b := 1) (by omega)) ?_
      refine lv_i2l hx hb dX7_says_17 rfl ?_
      refine cn_l (y := lN ((2 ^ n) - 1)) (nI_l (by omega)) ?_
      refine pu_i (va_runS (As := [.long p1.toInt64, .long (lN 0), .long (lN ((2 ^ n) - 1))]) (rest := []) ⟨hx, hb, hml, hown, hts⟩ (c_X7_in l D cI cJ cZ p1.toInt64 (lN 0) (lN ((2 ^ n) - 1))) (va_cwS 3 hts gX7_says_X7_in rfl rfl rfl (by decide +kernel) ⟨Nat.le_of_ble_eq_true rfl, Nat.le_of_ble_eq_true rfl⟩) ⟨pc_blind, fun U hU hW => ⟨rfl, by rw [hU]; exact hP.sub (ws' := []) [] rfl, hKN.warm hW⟩⟩ rfl rfl hl.1 rfl (lv_room (Nat.le_of_ble_eq_true rfl)) dX7_says_18 ⟨Nat.le_of_ble_eq_true rfl, Nat.le_of_ble_eq_true rfl⟩) hS hP (fun r4 H locs w4r hP hS => ?_)
      have w4 : B01 r4 ((lN 0).toInt ≤ p1.toInt64.toInt ∧ p1.toInt64.toInt ≤ (lN ((2 ^ n) - 1)).toInt) := w4r
      clear w4r
      rw [lN_toInt (n := 0) (by omega), j2 p1, lN_toInt (n := ((2 ^ n) - 1)) (by omega)] at w4
      rcases w4 with ⟨rfl, w4⟩ | ⟨rfl, w4⟩
      · skip
        obtain ⟨j8, hj8, rfl⟩ := m_nat (x := p1) (n := 2 ^ n) (by omega)
        refine lv_if_ne (tgt := 28) hx hb dX7_says_21 (by decide) (fun c5 => ?_) (fun c5 => ?_)
        · skip
          refine lv_aload_n hx hb dX7_says_28 rfl (lv_at hl 0 rfl) ?_
          refine va_get (D := D) (ci := 7) (v := .ref g4) (C := RX7) (T := TX7) (N := 17) hx hb hts hiX7 hown hK hP 0 rfl rfl 5 (by decide) hf23 (fun _ h9 => h9) rfl dX7_says_29 ?_
          refine lv_sipush (v := nI 512) hx hb dX7_says_32 (by decide) ?_
          refine lv_iload_n hx hb dX7_says_35 rfl (lv_at hl 1 rfl) ?_
          refine lv_imul hx hb dX7_says_36 ?_
          refine cn_i (y := nI (512 * j9)) (pk_mul 512 j9) ?_
          refine lv_iload_n hx hb dX7_says_37 rfl (lv_at hl 2 rfl) ?_
          refine lv_iadd hx hb dX7_says_38 ?_
          refine cn_i (y := nI ((512 * j9) + j8)) (nI_add (512 * j9) j8) ?_
          refine va_zald hx hb hK hP 1 2 rfl rfl (i := nI ((512 * j9) + j8)) (vp_in_nI (by omega) (by omega)) dX7_says_39 ?_
          refine cn_i (y := fs ((512 * j9) + j8)) (congrArg fs (nI_clamp (by omega))) ?_
          refine lv_if_eq (tgt := 47) hx hb dX7_says_40 (by decide) (fun c6 => ?_) (fun c6 => ?_)
          · skip
            refine lv_iconst (v := nI 0) hx hb dX7_says_47 (by decide) ?_
            rw [← hQ]
            exact W.iret (v := nI 0) hx hb hr (fun tS htS hWS => ⟨⟨(nI 0), (), rfl, trivial, trivial⟩, hS.F htS⟩) hS.2.2 dX7_says_48
          · skip
            refine lv_iconst (v := nI 1) hx hb dX7_says_43 (by decide) ?_
            refine lv_goto (tgt := 48) hx hb dX7_says_44 (by decide) ?_
            rw [← hQ]
            exact W.iret (v := nI 1) hx hb hr (fun tS htS hWS => ⟨⟨(nI 1), (), rfl, trivial, trivial⟩, hS.F htS⟩) hS.2.2 dX7_says_48
        · exact absurd c5 (by first | decide | exact nz_lt (by omega) | exact fun h => h (nz_ge (by omega)))
      · skip
        refine lv_if_ne (tgt := 28) hx hb dX7_says_21 (by decide) (fun c7 => ?_) (fun c7 => ?_)
        · exact absurd c7 (by first | decide | exact nz_lt (by omega) | exact fun h => h (nz_ge (by omega)))
        · skip
          refine lv_iconst (v := (-1 : Int32)) hx hb dX7_says_24 (by decide) ?_
          refine lv_goto (tgt := 48) hx hb dX7_says_25 (by decide) ?_
          rw [← hQ]
          exact W.iret (v := (-1 : Int32)) hx hb hr (fun tS htS hWS => ⟨⟨(-1 : Int32), (), rfl, trivial, trivial⟩, hS.F htS⟩) hS.2.2 dX7_says_48
  · skip
    refine lv_if_eq (tgt := 24) hx hb dX7_says_5 (by decide) (fun c8 => ?_) (fun c8 => ?_)
    · skip
      refine lv_iconst (v := (-1 : Int32)) hx hb dX7_says_24 (by decide) ?_
      refine lv_goto (tgt := 48) hx hb dX7_says_25 (by decide) ?_
      rw [← hQ]
      exact W.iret (v := (-1 : Int32)) hx hb hr (fun tS htS hWS => ⟨⟨(-1 : Int32), (), rfl, trivial, trivial⟩, hS.F htS⟩) hS.2.2 dX7_says_48
    · exact absurd c8 (by first | decide | exact nz_lt (by omega) | exact fun h => h (nz_ge (by omega)))
def rm_c_X7_differ_g : Room := { frames := 2, cells := 0, slots := 0, locals := 46 }
set_option maxHeartbeats 400000 in
set_option maxRecDepth 100000 in
theorem c_X7_differ_g (l : Launch) (D : va_G) (cI cJ cZ : ClassId) (m0 : Nat) (g1 : Nat) (g2 : Nat) (g3 : Nat) (g4 : Nat) (g5 : Nat) (g6 : Nat) (g7 : Nat) (g8 : Nat) (g9 : Nat) (g10 : Nat) (g11 : Nat) (g12 : Nat) (n : Nat) (c0 : Nat) (my : Int32) (mo : Int32) (ml : Int32) (p0 : Int32) (p1 : Int32) (fs : Nat → Int32) (hn : n ≤ 9) (h1n : 1 ≤ n) (hc : c0 ≤ 40) (h01 : T01 fs) : Met l yX7_differ wsX7_differ rm_c_X7_differ_g (pc_ D cI cJ cZ [.ref m0, .int p0, .int p1] [(m0, .inr (7, [.int (nI n), .ref g1, .ref g2, .ref g3, .int (nI c0), .ref g4, .int my, .ref g5, .int mo, .ref g6, .int ml, .ref g7, .ref g8, .ref g9, .ref g10, .ref g11, .ref g12])), (g4, .inl (cZ, 20480, .inl fs))]) (va_Qi (fun (r : Int32) (_ : Unit) => True) (fun _ _ => True) aN) 0 0 aN := by
  refine Met.ofW (cc := cX7_differ) (maxL := 4) (ret := (some .int)) (by decide) rfl ?_
  intro p e s m args below meth c s₁ B hml hv
  obtain ⟨rfl, hP, hKN⟩ := hv
  have hK := hKN.1
  have hx := B.exec
  have hb := B.bytes
  have hr := B.returns
  have hts := atoms_spec (ws := wsX7_differ) B.pre
  have hown : s.vm.findClass RX7 = some m.cls := findClass_of_methodNamed B.named
  have hlocks := B.notSynchronized
  have hiX7 : ∀ w ∈ wsX70, w ∈ wsX7_differ := by decide +kernel
  have hf23 := hts (.fieldLink RX7 23 "LookBenchModel" "says" "[Z") (by decide +kernel)
  have hS : va_S aN s.heap s.heap [] := va_S.rf
  have hl := lv_entry ([.ref m0, .int p0, .int p1]) (n := 4) (Nat.le_of_ble_eq_true rfl)
  rw [lg_entry_eq]
  generalize (lg_sl ([.ref m0, .int p0, .int p1]) ++ List.replicate (4 - (lg_sl ([.ref m0, .int p0, .int p1])).length) Slot.unset).toArray = ls at hl ⊢
  have hl : lv_has ls 4 [(0, .ref m0), (1, .int p0), (2, .int p1)] := hl
  generalize hQ : MQ below _ _ s _ _ _ = Q
  obtain ⟨H, hH⟩ : ∃ z, z = s.heap := ⟨_, rfl⟩
  have hP : va_P D vwCl [(m0, .inr (7, [.int (nI n), .ref g1, .ref g2, .ref g3, .int (nI c0), .ref g4, .int my, .ref g5, .int mo, .ref g6, .int ml, .ref g7, .ref g8, .ref g9, .ref g10, .ref g11, .ref g12])), (g4, .inl (cZ, 20480, .inl fs))] H := by rw [hH]; exact hP
  have hS : va_S aN s.heap H [] := by rw [hH]; exact hS
  refine m_heap hH ?_
  clear hH
  have h2n := m_pow hn
  have h2p := m_powp n
  refine lv_aload_n hx hb dX7_differ_0 rfl (lv_at hl 0 rfl) ?_
  refine lv_iload_n hx hb dX7_differ_1 rfl (lv_at hl 1 rfl) ?_
  refine pu_i (va_runV (As := [.int p0]) (rest := []) ⟨hx, hb, hml, hown, hts⟩ (c_X7_isRule l D cI cJ cZ m0 g1 g2 g3 g4 g5 g6 g7 g8 g9 g10 g11 g12 c0 (nI n) my mo ml p0 (by first | assumption | omega)) (cwV 1 hts gX7_differ_X7_isRule rfl rfl rfl (by decide +kernel) ⟨Nat.le_of_ble_eq_true rfl, Nat.le_of_ble_eq_true rfl⟩) ⟨pc_blind, va_recv hK hP (ci := 7) (q0 := 0) rfl rfl, fun U hU hW => ⟨rfl, by rw [hU]; exact hP.sub (ws' := [(m0, .inr (7, [.int (nI n), .ref g1, .ref g2, .ref g3, .int (nI c0), .ref g4, .int my, .ref g5, .int mo, .ref g6, .int ml, .ref g7, .ref g8, .ref g9, .ref g10, .ref g11, .ref g12]))]) [0] rfl, hKN.warm hW⟩⟩ rfl rfl hl.1 rfl (lv_room (Nat.le_of_ble_eq_true rfl)) dX7_differ_2 ⟨Nat.le_of_ble_eq_true rfl, Nat.le_of_ble_eq_true rfl⟩) hS hP (fun r1 H locs w1r hP hS => ?_)
  have w1 : B01 r1 (0 ≤ p0.toInt ∧ p0.toInt < c0) := w1r
  clear w1r
  rcases w1 with ⟨rfl, w1⟩ | ⟨rfl, w1⟩
  · skip
    obtain ⟨j9, hj9, rfl⟩ := m_nat w1
    have tj9 : (nI j9).toInt = (j9 : Int) := nI_toInt (by omega)
    refine lv_if_eq (tgt := 16) hx hb dX7_differ_5 (by decide) (fun c2 => ?_) (fun c2 => ?_)
    · exact absurd c2 (by first | decide | exact nz_lt (by omega) | exact fun h => h (nz_ge (by omega)))
    · skip
      refine lv_aload_n hx hb dX7_differ_8 rfl (lv_at hl 0 rfl) ?_
      refine lv_iload_n hx hb dX7_differ_9 rfl (lv_at hl 2 rfl) ?_
      refine pu_i (va_runV (As := [.int p1]) (rest := []) ⟨hx, hb, hml, hown, hts⟩ (c_X7_isRule l D cI cJ cZ m0 g1 g2 g3 g4 g5 g6 g7 g8 g9 g10 g11 g12 c0 (nI n) my mo ml p1 (by first | assumption | omega)) (cwV 1 hts gX7_differ_X7_isRule rfl rfl rfl (by decide +kernel) ⟨Nat.le_of_ble_eq_true rfl, Nat.le_of_ble_eq_true rfl⟩) ⟨pc_blind, va_recv hK hP (ci := 7) (q0 := 0) rfl rfl, fun U hU hW => ⟨rfl, by rw [hU]; exact hP.sub (ws' := [(m0, .inr (7, [.int (nI n), .ref g1, .ref g2, .ref g3, .int (nI c0), .ref g4, .int my, .ref g5, .int mo, .ref g6, .int ml, .ref g7, .ref g8, .ref g9, .ref g10, .ref g11, .ref g12]))]) [0] rfl, hKN.warm hW⟩⟩ rfl rfl hl.1 rfl (lv_room (Nat.le_of_ble_eq_true rfl)) dX7_differ_10 ⟨Nat.le_of_ble_eq_true rfl, Nat.le_of_ble_eq_true rfl⟩) hS hP (fun r3 H locs w3r hP hS => ?_)
      have w3 : B01 r3 (0 ≤ p1.toInt ∧ p1.toInt < c0) := w3r
      clear w3r
      rcases w3 with ⟨rfl, w3⟩ | ⟨rfl, w3⟩
      · skip
        obtain ⟨j8, hj8, rfl⟩ := m_nat w3
        have tj8 : (nI j8).toInt = (j8 : Int) := nI_toInt (by omega)
        refine lv_if_ne (tgt := 18) hx hb dX7_differ_13 (by decide) (fun c4 => ?_) (fun c4 => ?_)
        · skip
          refine lv_iconst (v := nI 0) hx hb dX7_differ_18 (by decide) ?_
          refine lv_istore_n (lv' := [(3, .int (nI 0)), (0, .ref m0), (1, .int (nI j9)), (2, .int (nI j8))]) hx hb dX7_differ_19 rfl hl (by decide) rfl (fun ls hl => ?_)
          have loop5 : ∀ (fu : Nat) (k : Nat) (H : Heap) (locs : List Loc) (ls : Array Slot), (k ≤ 2 ^ n ∧ 2 ^ n < k + fu) → va_P D vwCl [(m0, .inr (7, [.int (nI n), .ref g1, .ref g2, .ref g3, .int (nI c0), .ref g4, .int my, .ref g5, .int mo, .ref g6, .int ml, .ref g7, .ref g8, .ref g9, .ref g10, .ref g11, .ref g12])), (g4, .inl (cZ, 20480, .inl fs))] H → va_S aN s.heap H locs → lv_has ls 4 [(3, .int (nI k)), (0, .ref m0), (1, .int (nI j9)), (2, .int (nI j8))] → W p l e (headSpec wsX7_differ rm_c_X7_differ_g).room s m ([.ref m0, .int (nI j9), .int (nI j8)] : List Value).toArray below meth c H locs 0 0 Q (F0 m 20 ls []) := by
            intro fu
            induction fu with
            | zero => intro k H locs ls hk; exact absurd hk (by omega)
            | succ fu ih5 =>
              intro k H locs ls hk hP hS hl
              refine lv_iload_n hx hb dX7_differ_20 rfl (lv_at hl 0 rfl) ?_
              refine lv_aload_n hx hb dX7_differ_21 rfl (lv_at hl 1 rfl) ?_
              refine pu_i (va_runV (As := []) (rest := [.int (nI k)]) ⟨hx, hb, hml, hown, hts⟩ (c_X7_settings l D cI cJ cZ m0 g1 g2 g3 g4 g5 g6 g7 g8 g9 g10 g11 g12 n (nI c0) my mo ml (by first | assumption | omega)) (cwV 0 hts gX7_differ_X7_settings rfl rfl rfl (by decide +kernel) ⟨Nat.le_of_ble_eq_true rfl, Nat.le_of_ble_eq_true rfl⟩) ⟨pc_blind, va_recv hK hP (ci := 7) (q0 := 0) rfl rfl, fun U hU hW => ⟨rfl, by rw [hU]; exact hP.sub (ws' := [(m0, .inr (7, [.int (nI n), .ref g1, .ref g2, .ref g3, .int (nI c0), .ref g4, .int my, .ref g5, .int mo, .ref g6, .int ml, .ref g7, .ref g8, .ref g9, .ref g10, .ref g11, .ref g12]))]) [0] rfl, hKN.warm hW⟩⟩ rfl rfl hl.1 rfl (lv_room (Nat.le_of_ble_eq_true rfl)) dX7_differ_22 ⟨Nat.le_of_ble_eq_true rfl, Nat.le_of_ble_eq_true rfl⟩) hS hP (fun r6 H locs w6r hP hS => ?_)
              have w6 : r6 = nI (2 ^ n) := w6r
              clear w6r
              obtain rfl : r6 = nI (2 ^ n) := w6
              refine lv_icmp_ge (tgt := 63) hx hb dX7_differ_25 (by decide) (fun c7 => ?_) (fun c7 => ?_)
              · skip
                have d7 := c7
                rw [nI_leI (by omega) (by omega)] at d7
                refine lv_iconst (v := (-1 : Int32)) hx hb dX7_differ_63 (by decide) ?_
                rw [← hQ]
                exact W.iret (v := (-1 : Int32)) hx hb hr (fun tS htS hWS => ⟨⟨(-1 : Int32), (), rfl, trivial, trivial⟩, hS.F htS⟩) hS.2.2 dX7_differ_64
              · skip
                have d7 := c7
                rw [nI_leI (by omega) (by omega)] at d7
                refine lv_aload_n hx hb dX7_differ_28 rfl (lv_at hl 1 rfl) ?_
                refine va_get (D := D) (ci := 7) (v := .ref g4) (C := RX7) (T := TX7) (N := 17) hx hb hts hiX7 hown hK hP 0 rfl rfl 5 (by decide) hf23 (fun _ h9 => h9) rfl dX7_differ_29 ?_
                refine lv_sipush (v := nI 512) hx hb dX7_differ_32 (by decide) ?_
                refine lv_iload_n hx hb dX7_differ_35 rfl (lv_at hl 2 rfl) ?_
                refine lv_imul hx hb dX7_differ_36 ?_
                refine cn_i (y := nI (512 * j9)) (pk_mul 512 j9) ?_
                refine lv_iload_n hx hb dX7_differ_37 rfl (lv_at hl 0 rfl) ?_
                refine lv_iadd hx hb dX7_differ_38 ?_
                refine cn_i (y := nI ((512 * j9) + k)) (nI_add (512 * j9) k) ?_
                refine va_zald hx hb hK hP 1 2 rfl rfl (i := nI ((512 * j9) + k)) (vp_in_nI (by omega) (by omega)) dX7_differ_39 ?_
                refine cn_i (y := fs ((512 * j9) + k)) (congrArg fs (nI_clamp (by omega))) ?_
                refine lv_aload_n hx hb dX7_differ_40 rfl (lv_at hl 1 rfl) ?_
                refine va_get (D := D) (ci := 7) (v := .ref g4) (C := RX7) (T := TX7) (N := 17) hx hb hts hiX7 hown hK hP 0 rfl rfl 5 (by decide) hf23 (fun _ h9 => h9) rfl dX7_differ_41 ?_
                refine lv_sipush (v := nI 512) hx hb dX7_differ_44 (by decide) ?_
                refine lv_iload_n hx hb dX7_differ_47 rfl (lv_at hl 3 rfl) ?_
                refine lv_imul hx hb dX7_differ_48 ?_
                refine cn_i (y := nI (512 * j8)) (pk_mul 512 j8) ?_
                refine lv_iload_n hx hb dX7_differ_49 rfl (lv_at hl 0 rfl) ?_
                refine lv_iadd hx hb dX7_differ_50 ?_
                refine cn_i (y := nI ((512 * j8) + k)) (nI_add (512 * j8) k) ?_
                refine va_zald hx hb hK hP 1 2 rfl rfl (i := nI ((512 * j8) + k)) (vp_in_nI (by omega) (by omega)) dX7_differ_51 ?_
                refine cn_i (y := fs ((512 * j8) + k)) (congrArg fs (nI_clamp (by omega))) ?_
                refine lv_icmp_eq (tgt := 57) hx hb dX7_differ_52 (by decide) (fun c8 => ?_) (fun c8 => ?_)
                · skip
                  refine lv_iinc (v := nI (k + 1)) (lv' := [(3, .int (nI (k + 1))), (0, .ref m0), (1, .int (nI j9)), (2, .int (nI j8))]) hx hb dX7_differ_57 hl (k := 0) rfl (nI_1 k) (by decide) rfl (fun ls hl => ?_)
                  refine lv_goto (tgt := 20) hx hb dX7_differ_60 (by decide) ?_
                  exact ih5 (k + 1) _ _ _ (by omega) hP hS (lv_sub hl [0, 1, 2, 3] rfl)
                · skip
                  refine lv_iload_n hx hb dX7_differ_55 rfl (lv_at hl 0 rfl) ?_
                  rw [← hQ]
                  exact W.iret (v := nI k) hx hb hr (fun tS htS hWS => ⟨⟨(nI k), (), rfl, trivial, trivial⟩, hS.F htS⟩) hS.2.2 dX7_differ_56
          exact loop5 (2 ^ n + 1) 0 _ _ _ (by omega) hP hS (lv_sub hl [0, 1, 2, 3] rfl)
        · exact absurd c4 (by first | decide | exact nz_lt (by omega) | exact fun h => h (nz_ge (by omega)))
      · skip
        refine lv_if_ne (tgt := 18) hx hb dX7_differ_13 (by decide) (fun c9 => ?_) (fun c9 => ?_)
        · exact absurd c9 (by first | decide | exact nz_lt (by omega) | exact fun h => h (nz_ge (by omega)))
        · skip
          refine lv_iconst (v := (-1 : Int32)) hx hb dX7_differ_16 (by decide) ?_
          rw [← hQ]
          exact W.iret (v := (-1 : Int32)) hx hb hr (fun tS htS hWS => ⟨⟨(-1 : Int32), (), rfl, trivial, trivial⟩, hS.F htS⟩) hS.2.2 dX7_differ_17
  · skip
    refine lv_if_eq (tgt := 16) hx hb dX7_differ_5 (by decide) (fun c10 => ?_) (fun c10 => ?_)
    · skip
      refine lv_iconst (v := (-1 : Int32)) hx hb dX7_differ_16 (by decide) ?_
      rw [← hQ]
      exact W.iret (v := (-1 : Int32)) hx hb hr (fun tS htS hWS => ⟨⟨(-1 : Int32), (), rfl, trivial, trivial⟩, hS.F htS⟩) hS.2.2 dX7_differ_17
    · exact absurd c10 (by first | decide | exact nz_lt (by omega) | exact fun h => h (nz_ge (by omega)))
def rm_c_X7_system_g : Room := { frames := 2, cells := 0, slots := 0, locals := 46 }
set_option maxHeartbeats 400000 in
set_option maxRecDepth 100000 in
theorem c_X7_system_g (l : Launch) (D : va_G) (cI cJ cZ : ClassId) (m0 : Nat) (g1 : Nat) (g2 : Nat) (g3 : Nat) (g4 : Nat) (g5 : Nat) (g6 : Nat) (g7 : Nat) (g8 : Nat) (g9 : Nat) (g10 : Nat) (g11 : Nat) (g12 : Nat) (c0 : Nat) (mp : Int32) (my : Int32) (mo : Int32) (ml : Int32) (p0 : Int32) (hc : c0 ≤ 40) : Met l yX7_system wsX7_system rm_c_X7_system_g (pm_ D cI cJ cZ [.ref m0, .int p0] [(m0, .inr (7, [.int mp, .ref g1, .ref g2, .ref g3, .int (nI c0), .ref g4, .int my, .ref g5, .int mo, .ref g6, .int ml, .ref g7, .ref g8, .ref g9, .ref g10, .ref g11, .ref g12]))]) (va_Qi (fun (r : Int32) (u : Int32) => (r = nI 1 ∧ (0 ≤ p0.toInt ∧ p0.toInt < c0) ∧ u = p0) ∨ (r = nI 0 ∧ ¬ (0 ≤ p0.toInt ∧ p0.toInt < c0) ∧ u = my)) (fun (u : Int32) tS => va_P D vwCl [(m0, .inr (7, [.int mp, .ref g1, .ref g2, .ref g3, .int (nI c0), .ref g4, .int u, .ref g5, .int mo, .ref g6, .int ml, .ref g7, .ref g8, .ref g9, .ref g10, .ref g11, .ref g12]))] tS.heap) (aA [m0])) 0 0 (aA [m0]) := by
  refine Met.ofW (cc := cX7_system) (maxL := 2) (ret := (some .boolean)) (by decide) rfl ?_
  intro p e s m args below meth c s₁ B hml hv
  obtain ⟨rfl, hP, hKN, hD0⟩ := hv
  have hK := hKN.1
  have hx := B.exec
  have hb := B.bytes
  have hr := B.returns
  have hts := atoms_spec (ws := wsX7_system) B.pre
  have hown : s.vm.findClass RX7 = some m.cls := findClass_of_methodNamed B.named
  have hlocks := B.notSynchronized
  have hiX7 : ∀ w ∈ wsX70, w ∈ wsX7_system := by decide +kernel
  have hf27 := hts (.fieldLink RX7 27 "LookBenchModel" "system" "I") (by decide +kernel)
  obtain ⟨as, has⟩ : ∃ z : List Nat, z = [m0] := ⟨_, rfl⟩
  have hD := hD0.addr (as := as) (by rw [has]; rfl)
  have hS : va_S (aA as) s.heap s.heap [] := va_S.rf
  have hl := lv_entry ([.ref m0, .int p0]) (n := 2) (Nat.le_of_ble_eq_true rfl)
  rw [lg_entry_eq]
  generalize (lg_sl ([.ref m0, .int p0]) ++ List.replicate (2 - (lg_sl ([.ref m0, .int p0])).length) Slot.unset).toArray = ls at hl ⊢
  have hl : lv_has ls 2 [(0, .ref m0), (1, .int p0)] := hl
  generalize hQ : MQ below _ _ s _ _ _ = Q
  obtain ⟨H, hH⟩ : ∃ z, z = s.heap := ⟨_, rfl⟩
  have hP : va_P D vwCl [(m0, .inr (7, [.int mp, .ref g1, .ref g2, .ref g3, .int (nI c0), .ref g4, .int my, .ref g5, .int mo, .ref g6, .int ml, .ref g7, .ref g8, .ref g9, .ref g10, .ref g11, .ref g12]))] H := by rw [hH]; exact hP
  have hS : va_S (aA as) s.heap H [] := by rw [hH]; exact hS
  refine m_heap hH ?_
  clear hH
  refine lv_aload_n hx hb dX7_system_0 rfl (lv_at hl 0 rfl) ?_
  refine lv_iload_n hx hb dX7_system_1 rfl (lv_at hl 1 rfl) ?_
  refine pu_i (va_runV (As := [.int p0]) (rest := []) ⟨hx, hb, hml, hown, hts⟩ (c_X7_isRule l D cI cJ cZ m0 g1 g2 g3 g4 g5 g6 g7 g8 g9 g10 g11 g12 c0 mp my mo ml p0 (by first | assumption | omega)) (cwV 1 hts gX7_system_X7_isRule rfl rfl rfl (by decide +kernel) ⟨Nat.le_of_ble_eq_true rfl, Nat.le_of_ble_eq_true rfl⟩) ⟨pc_blind, va_recv hK hP (ci := 7) (q0 := 0) rfl rfl, fun U hU hW => ⟨rfl, by rw [hU]; exact hP.sub (ws' := [(m0, .inr (7, [.int mp, .ref g1, .ref g2, .ref g3, .int (nI c0), .ref g4, .int my, .ref g5, .int mo, .ref g6, .int ml, .ref g7, .ref g8, .ref g9, .ref g10, .ref g11, .ref g12]))]) [0] rfl, hKN.warm hW⟩⟩ rfl rfl hl.1 rfl (lv_room (Nat.le_of_ble_eq_true rfl)) dX7_system_2 ⟨Nat.le_of_ble_eq_true rfl, Nat.le_of_ble_eq_true rfl⟩) hS hP (fun r1 H locs w1r hP hS => ?_)
  have w1 : B01 r1 (0 ≤ p0.toInt ∧ p0.toInt < c0) := w1r
  clear w1r
  rcases w1 with ⟨rfl, w1⟩ | ⟨rfl, w1⟩
  · skip
    refine lv_if_ne (tgt := 10) hx hb dX7_system_5 (by decide) (fun c2 => ?_) (fun c2 => ?_)
    · skip
      refine lv_aload_n hx hb dX7_system_10 rfl (lv_at hl 0 rfl) ?_
      refine lv_iload_n hx hb dX7_system_11 rfl (lv_at hl 1 rfl) ?_
      refine va_put (D := D) (ci := 7) (v := .int p0) (ty := tyX7 6) (C := RX7) (T := TX7) (N := 17) hx hb hts hiX7 tyX7 tyX7_ok nmX7 hown hK hP hD hS 0 rfl rfl 6 (by decide) hf27 (fun _ h9 => h9) rfl (by decide +kernel) rfl rfl (Nat.le_of_ble_eq_true rfl) dX7_system_12 (fun H locs hP hD hS => ?_)
      have hP : va_P D vwCl [(m0, .inr (7, [.int mp, .ref g1, .ref g2, .ref g3, .int (nI c0), .ref g4, .int p0, .ref g5, .int mo, .ref g6, .int ml, .ref g7, .ref g8, .ref g9, .ref g10, .ref g11, .ref g12]))] H := hP
      have hD : va_D (aA as) [(m0, .inr (7, [.int mp, .ref g1, .ref g2, .ref g3, .int (nI c0), .ref g4, .int p0, .ref g5, .int mo, .ref g6, .int ml, .ref g7, .ref g8, .ref g9, .ref g10, .ref g11, .ref g12]))] := hD
      refine lv_iconst (v := nI 1) hx hb dX7_system_15 (by decide) ?_
      rw [← hQ]
      exact W.zret (v := nI 1) hx hb hr (by first | decide | (rw [nar_b01])) (fun tS htS hWS => ⟨⟨(nI 1), (p0), rfl, Or.inl ⟨rfl, by omega, rfl⟩, m_at htS hP⟩, by rw [← has]; exact hS.F htS⟩) (by rw [← has]; exact hS.2.2) dX7_system_16
    · exact absurd c2 (by first | decide | exact nz_lt (by omega) | exact fun h => h (nz_ge (by omega)))
  · skip
    refine lv_if_ne (tgt := 10) hx hb dX7_system_5 (by decide) (fun c3 => ?_) (fun c3 => ?_)
    · exact absurd c3 (by first | decide | exact nz_lt (by omega) | exact fun h => h (nz_ge (by omega)))
    · skip
      refine lv_iconst (v := nI 0) hx hb dX7_system_8 (by decide) ?_
      rw [← hQ]
      exact W.zret (v := nI 0) hx hb hr (by first | decide | (rw [nar_b01])) (fun tS htS hWS => ⟨⟨(nI 0), (my), rfl, Or.inr ⟨rfl, by omega, rfl⟩, m_at htS hP⟩, by rw [← has]; exact hS.F htS⟩) (by rw [← has]; exact hS.2.2) dX7_system_9
def rm_c_X7_part_g : Room := { frames := 2, cells := 0, slots := 0, locals := 46 }
set_option maxHeartbeats 400000 in
set_option maxRecDepth 100000 in
theorem c_X7_part_g (l : Launch) (D : va_G) (cI cJ cZ : ClassId) (m0 : Nat) (g1 : Nat) (g2 : Nat) (g3 : Nat) (g4 : Nat) (g5 : Nat) (g6 : Nat) (g7 : Nat) (g8 : Nat) (g9 : Nat) (g10 : Nat) (g11 : Nat) (g12 : Nat) (n : Nat) (mr : Int32) (my : Int32) (mo : Int32) (ml : Int32) (p0 : Int32) (g0 : Int32) (f0 : Int32) (r0 : Int32) (fg : Nat → Int32) (fb : Nat → Int32) (fp : Nat → Int32) (hn : n ≤ 9) (h1n : 1 ≤ n) : Met l yX7_part wsX7_part rm_c_X7_part_g (pm_ D cI cJ cZ [.ref m0, .int p0, .int g0, .int f0, .int r0] [(m0, .inr (7, [.int (nI n), .ref g1, .ref g2, .ref g3, .int mr, .ref g4, .int my, .ref g5, .int mo, .ref g6, .int ml, .ref g7, .ref g8, .ref g9, .ref g10, .ref g11, .ref g12])), (g1, .inl (cI, 9, .inl fg)), (g2, .inl (cI, 9, .inl fb)), (g3, .inl (cI, 9, .inl fp))]) (va_Qi (fun (r : Int32) (u : (Nat → Int32) × (Nat → Int32) × (Nat → Int32)) => (r = nI 1 ∧ (0 ≤ p0.toInt ∧ p0.toInt < n ∧ 1 ≤ g0.toInt ∧ g0.toInt ≤ 9 ∧ 1 ≤ f0.toInt ∧ f0.toInt ≤ 9 ∧ 0 ≤ r0.toInt ∧ r0.toInt ≤ 1000) ∧ u.1 = upd fg p0.toInt.toNat g0 ∧ u.2.1 = upd fb p0.toInt.toNat f0 ∧ u.2.2 = upd fp p0.toInt.toNat r0) ∨ (r = nI 0 ∧ ¬ (0 ≤ p0.toInt ∧ p0.toInt < n ∧ 1 ≤ g0.toInt ∧ g0.toInt ≤ 9 ∧ 1 ≤ f0.toInt ∧ f0.toInt ≤ 9 ∧ 0 ≤ r0.toInt ∧ r0.toInt ≤ 1000) ∧ u.1 = fg ∧ u.2.1 = fb ∧ u.2.2 = fp)) (fun (u : (Nat → Int32) × (Nat → Int32) × (Nat → Int32)) tS => va_P D vwCl [(m0, .inr (7, [.int (nI n), .ref g1, .ref g2, .ref g3, .int mr, .ref g4, .int my, .ref g5, .int mo, .ref g6, .int ml, .ref g7, .ref g8, .ref g9, .ref g10, .ref g11, .ref g12])), (g1, .inl (cI, 9, .inl u.1)), (g2, .inl (cI, 9, .inl u.2.1)), (g3, .inl (cI, 9, .inl u.2.2))] tS.heap) (aA [m0, g1, g2, g3])) 0 0 (aA [m0, g1, g2, g3]) := by
  refine Met.ofW (cc := cX7_part) (maxL := 5) (ret := (some .boolean)) (by decide) rfl ?_
  intro p e s m args below meth c s₁ B hml hv
  obtain ⟨rfl, hP, hKN, hD0⟩ := hv
  have hK := hKN.1
  have hx := B.exec
  have hb := B.bytes
  have hr := B.returns
  have hts := atoms_spec (ws := wsX7_part) B.pre
  have hown : s.vm.findClass RX7 = some m.cls := findClass_of_methodNamed B.named
  have hlocks := B.notSynchronized
  have hiX7 : ∀ w ∈ wsX70, w ∈ wsX7_part := by decide +kernel
  have hf13 := hts (.fieldLink RX7 13 "LookBenchModel" "good" "[I") (by decide +kernel)
  have hf17 := hts (.fieldLink RX7 17 "LookBenchModel" "bad" "[I") (by decide +kernel)
  have hf20 := hts (.fieldLink RX7 20 "LookBenchModel" "price" "[I") (by decide +kernel)
  obtain ⟨as, has⟩ : ∃ z : List Nat, z = [m0, g1, g2, g3] := ⟨_, rfl⟩
  have hD := hD0.addr (as := as) (by rw [has]; rfl)
  have hS : va_S (aA as) s.heap s.heap [] := va_S.rf
  have hl := lv_entry ([.ref m0, .int p0, .int g0, .int f0, .int r0]) (n := 5) (Nat.le_of_ble_eq_true rfl)
  rw [lg_entry_eq]
  generalize (lg_sl ([.ref m0, .int p0, .int g0, .int f0, .int r0]) ++ List.replicate (5 - (lg_sl ([.ref m0, .int p0, .int g0, .int f0, .int r0])).length) Slot.unset).toArray = ls at hl ⊢
  have hl : lv_has ls 5 [(0, .ref m0), (1, .int p0), (2, .int g0), (3, .int f0), (4, .int r0)] := hl
  generalize hQ : MQ below _ _ s _ _ _ = Q
  obtain ⟨H, hH⟩ : ∃ z, z = s.heap := ⟨_, rfl⟩
  have hP : va_P D vwCl [(m0, .inr (7, [.int (nI n), .ref g1, .ref g2, .ref g3, .int mr, .ref g4, .int my, .ref g5, .int mo, .ref g6, .int ml, .ref g7, .ref g8, .ref g9, .ref g10, .ref g11, .ref g12])), (g1, .inl (cI, 9, .inl fg)), (g2, .inl (cI, 9, .inl fb)), (g3, .inl (cI, 9, .inl fp))] H := by rw [hH]; exact hP
  have hS : va_S (aA as) s.heap H [] := by rw [hH]; exact hS
  refine m_heap hH ?_
  clear hH
  refine lv_aload_n hx hb dX7_part_0 rfl (lv_at hl 0 rfl) ?_
  refine lv_iload_n hx hb dX7_part_1 rfl (lv_at hl 1 rfl) ?_
  refine pu_i (va_runV (As := [.int p0]) (rest := []) ⟨hx, hb, hml, hown, hts⟩ (c_X7_isPart l D cI cJ cZ m0 g1 g2 g3 g4 g5 g6 g7 g8 g9 g10 g11 g12 n mr my mo ml p0 (by first | assumption | omega) (by first | assumption | omega)) (cwV 1 hts gX7_part_X7_isPart rfl rfl rfl (by decide +kernel) ⟨Nat.le_of_ble_eq_true rfl, Nat.le_of_ble_eq_true rfl⟩) ⟨pc_blind, va_recv hK hP (ci := 7) (q0 := 0) rfl rfl, fun U hU hW => ⟨rfl, by rw [hU]; exact hP.sub (ws' := [(m0, .inr (7, [.int (nI n), .ref g1, .ref g2, .ref g3, .int mr, .ref g4, .int my, .ref g5, .int mo, .ref g6, .int ml, .ref g7, .ref g8, .ref g9, .ref g10, .ref g11, .ref g12]))]) [0] rfl, hKN.warm hW⟩⟩ rfl rfl hl.1 rfl (lv_room (Nat.le_of_ble_eq_true rfl)) dX7_part_2 ⟨Nat.le_of_ble_eq_true rfl, Nat.le_of_ble_eq_true rfl⟩) hS hP (fun r1 H locs w1r hP hS => ?_)
  have w1 : B01 r1 (0 ≤ p0.toInt ∧ p0.toInt < n) := w1r
  clear w1r
  rcases w1 with ⟨rfl, w1⟩ | ⟨rfl, w1⟩
  · skip
    obtain ⟨j9, hj9, rfl⟩ := m_nat w1
    have tj9 : (nI j9).toInt = (j9 : Int) := nI_toInt (by omega)
    refine lv_if_eq (tgt := 45) hx hb dX7_part_5 (by decide) (fun c2 => ?_) (fun c2 => ?_)
    · exact absurd c2 (by first | decide | exact nz_lt (by omega) | exact fun h => h (nz_ge (by omega)))
    · skip
      refine lv_iload_n hx hb dX7_part_8 rfl (lv_at hl 2 rfl) ?_
      refine lv_i2l hx hb dX7_part_9 rfl ?_
      refine lv_lconst (v := lN 1) hx hb dX7_part_10 (by decide) ?_
      refine lv_ldc2 (v := lN 9) hx hb hown (hts (.constantLong RX7 62 (lN 9)) (by decide +kernel)) dX7_part_11 ?_
      refine pu_i (va_runS (As := [.long g0.toInt64, .long (lN 1), .long (lN 9)]) (rest := []) ⟨hx, hb, hml, hown, hts⟩ (c_X7_in l D cI cJ cZ g0.toInt64 (lN 1) (lN 9)) (va_cwS 3 hts gX7_part_X7_in rfl rfl rfl (by decide +kernel) ⟨Nat.le_of_ble_eq_true rfl, Nat.le_of_ble_eq_true rfl⟩) ⟨pc_blind, fun U hU hW => ⟨rfl, by rw [hU]; exact hP.sub (ws' := []) [] rfl, hKN.warm hW⟩⟩ rfl rfl hl.1 rfl (lv_room (Nat.le_of_ble_eq_true rfl)) dX7_part_14 ⟨Nat.le_of_ble_eq_true rfl, Nat.le_of_ble_eq_true rfl⟩) hS hP (fun r3 H locs w3r hP hS => ?_)
      have w3 : B01 r3 ((lN 1).toInt ≤ g0.toInt64.toInt ∧ g0.toInt64.toInt ≤ (lN 9).toInt) := w3r
      clear w3r
      rw [lN_toInt (n := 1) (by omega), j2 g0, lN_toInt (n := 9) (by omega)] at w3
      rcases w3 with ⟨rfl, w3⟩ | ⟨rfl, w3⟩
      · skip
        refine lv_if_eq (tgt := 45) hx hb dX7_part_17 (by decide) (fun c4 => ?_) (fun c4 => ?_)
        · exact absurd c4 (by first | decide | exact nz_lt (by omega) | exact fun h => h (nz_ge (by omega)))
        · skip
          refine lv_iload_n hx hb dX7_part_20 rfl (lv_at hl 3 rfl) ?_
          refine lv_i2l hx hb dX7_part_21 rfl ?_
          refine lv_lconst (v := lN 1) hx hb dX7_part_22 (by decide) ?_
          refine lv_ldc2 (v := lN 9) hx hb hown (hts (.constantLong RX7 62 (lN 9)) (by decide +kernel)) dX7_part_23 ?_
          refine pu_i (va_runS (As := [.long f0.toInt64, .long (lN 1), .long (lN 9)]) (rest := []) ⟨hx, hb, hml, hown, hts⟩ (c_X7_in l D cI cJ cZ f0.toInt64 (lN 1) (lN 9)) (va_cwS 3 hts gX7_part_X7_in rfl rfl rfl (by decide +kernel) ⟨Nat.le_of_ble_eq_true rfl, Nat.le_of_ble_eq_true rfl⟩) ⟨pc_blind, fun U hU hW => ⟨rfl, by rw [hU]; exact hP.sub (ws' := []) [] rfl, hKN.warm hW⟩⟩ rfl rfl hl.1 rfl (lv_room (Nat.le_of_ble_eq_true rfl)) dX7_part_26 ⟨Nat.le_of_ble_eq_true rfl, Nat.le_of_ble_eq_true rfl⟩) hS hP (fun r5 H locs w5r hP hS => ?_)
          have w5 : B01 r5 ((lN 1).toInt ≤ f0.toInt64.toInt ∧ f0.toInt64.toInt ≤ (lN 9).toInt) := w5r
          clear w5r
          rw [lN_toInt (n := 1) (by omega), j2 f0, lN_toInt (n := 9) (by omega)] at w5
          rcases w5 with ⟨rfl, w5⟩ | ⟨rfl, w5⟩
          · skip
            refine lv_if_eq (tgt := 45) hx hb dX7_part_29 (by decide) (fun c6 => ?_) (fun c6 => ?_)
            · exact absurd c6 (by first | decide | exact nz_lt (by omega) | exact fun h => h (nz_ge (by omega)))
            · skip
              refine lv_iload hx hb dX7_part_32 (lv_at hl 4 rfl) ?_
              refine lv_i2l hx hb dX7_part_34 rfl ?_
              refine lv_lconst (v := lN 0) hx hb dX7_part_35 (by decide) ?_
              refine lv_ldc2 (v := lN 1000) hx hb hown (hts (.constantLong RX7 74 (lN 1000)) (by decide +kernel)) dX7_part_36 ?_
              refine pu_i (va_runS (As := [.long r0.toInt64, .long (lN 0), .long (lN 1000)]) (rest := []) ⟨hx, hb, hml, hown, hts⟩ (c_X7_in l D cI cJ cZ r0.toInt64 (lN 0) (lN 1000)) (va_cwS 3 hts gX7_part_X7_in rfl rfl rfl (by decide +kernel) ⟨Nat.le_of_ble_eq_true rfl, Nat.le_of_ble_eq_true rfl⟩) ⟨pc_blind, fun U hU hW => ⟨rfl, by rw [hU]; exact hP.sub (ws' := []) [] rfl, hKN.warm hW⟩⟩ rfl rfl hl.1 rfl (lv_room (Nat.le_of_ble_eq_true rfl)) dX7_part_39 ⟨Nat.le_of_ble_eq_true rfl, Nat.le_of_ble_eq_true rfl⟩) hS hP (fun r7 H locs w7r hP hS => ?_)
              have w7 : B01 r7 ((lN 0).toInt ≤ r0.toInt64.toInt ∧ r0.toInt64.toInt ≤ (lN 1000).toInt) := w7r
              clear w7r
              rw [lN_toInt (n := 0) (by omega), j2 r0, lN_toInt (n := 1000) (by omega)] at w7
              rcases w7 with ⟨rfl, w7⟩ | ⟨rfl, w7⟩
              · skip
                refine lv_if_ne (tgt := 47) hx hb dX7_part_42 (by decide) (fun c8 => ?_) (fun c8 => ?_)
                · skip
                  refine lv_aload_n hx hb dX7_part_47 rfl (lv_at hl 0 rfl) ?_
                  refine va_get (D := D) (ci := 7) (v := .ref g1) (C := RX7) (T := TX7) (N := 17) hx hb hts hiX7 hown hK hP 0 rfl rfl 1 (by decide) hf13 (fun _ h9 => h9) rfl dX7_part_48 ?_
                  refine lv_iload_n hx hb dX7_part_51 rfl (lv_at hl 1 rfl) ?_
                  refine lv_iload_n hx hb dX7_part_52 rfl (lv_at hl 2 rfl) ?_
                  refine va_iast hx hb hK hP hD hS 1 0 rfl rfl (i := nI j9) (vp_in_nI (by omega) (by omega)) dX7_part_53 (fun H locs hP hD hS => ?_)
                  have hP : va_P D vwCl [(m0, .inr (7, [.int (nI n), .ref g1, .ref g2, .ref g3, .int mr, .ref g4, .int my, .ref g5, .int mo, .ref g6, .int ml, .ref g7, .ref g8, .ref g9, .ref g10, .ref g11, .ref g12])), (g1, .inl (cI, 9, .inl (upd fg (nI j9).toNatClampNeg g0))), (g2, .inl (cI, 9, .inl fb)), (g3, .inl (cI, 9, .inl fp))] H := hP
                  have hD : va_D (aA as) [(m0, .inr (7, [.int (nI n), .ref g1, .ref g2, .ref g3, .int mr, .ref g4, .int my, .ref g5, .int mo, .ref g6, .int ml, .ref g7, .ref g8, .ref g9, .ref g10, .ref g11, .ref g12])), (g1, .inl (cI, 9, .inl (upd fg (nI j9).toNatClampNeg g0))), (g2, .inl (cI, 9, .inl fb)), (g3, .inl (cI, 9, .inl fp))] := hD
                  rw [nI_clamp (n := j9) (by omega)] at hP hD
                  refine lv_aload_n hx hb dX7_part_54 rfl (lv_at hl 0 rfl) ?_
                  refine va_get (D := D) (ci := 7) (v := .ref g2) (C := RX7) (T := TX7) (N := 17) hx hb hts hiX7 hown hK hP 0 rfl rfl 2 (by decide) hf17 (fun _ h9 => h9) rfl dX7_part_55 ?_
                  refine lv_iload_n hx hb dX7_part_58 rfl (lv_at hl 1 rfl) ?_
                  refine lv_iload_n hx hb dX7_part_59 rfl (lv_at hl 3 rfl) ?_
                  refine va_iast hx hb hK hP hD hS 2 0 rfl rfl (i := nI j9) (vp_in_nI (by omega) (by omega)) dX7_part_60 (fun H locs hP hD hS => ?_)
                  have hP : va_P D vwCl [(m0, .inr (7, [.int (nI n), .ref g1, .ref g2, .ref g3, .int mr, .ref g4, .int my, .ref g5, .int mo, .ref g6, .int ml, .ref g7, .ref g8, .ref g9, .ref g10, .ref g11, .ref g12])), (g1, .inl (cI, 9, .inl (upd fg j9 g0))), (g2, .inl (cI, 9, .inl (upd fb (nI j9).toNatClampNeg f0))), (g3, .inl (cI, 9, .inl fp))] H := hP
                  have hD : va_D (aA as) [(m0, .inr (7, [.int (nI n), .ref g1, .ref g2, .ref g3, .int mr, .ref g4, .int my, .ref g5, .int mo, .ref g6, .int ml, .ref g7, .ref g8, .ref g9, .ref g10, .ref g11, .ref g12])), (g1, .inl (cI, 9, .inl (upd fg j9 g0))), (g2, .inl (cI, 9, .inl (upd fb (nI j9).toNatClampNeg f0))), (g3, .inl (cI, 9, .inl fp))] := hD
                  rw [nI_clamp (n := j9) (by omega)] at hP hD
                  refine lv_aload_n hx hb dX7_part_61 rfl (lv_at hl 0 rfl) ?_
                  refine va_get (D := D) (ci := 7) (v := .ref g3) (C := RX7) (T := TX7) (N := 17) hx hb hts hiX7 hown hK hP 0 rfl rfl 3 (by decide) hf20 (fun _ h9 => h9) rfl dX7_part_62 ?_
                  refine lv_iload_n hx hb dX7_part_65 rfl (lv_at hl 1 rfl) ?_
                  refine lv_iload hx hb dX7_part_66 (lv_at hl 4 rfl) ?_
                  refine va_iast hx hb hK hP hD hS 3 0 rfl rfl (i := nI j9) (vp_in_nI (by omega) (by omega)) dX7_part_68 (fun H locs hP hD hS => ?_)
                  have hP : va_P D vwCl [(m0, .inr (7, [.int (nI n), .ref g1, .ref g2, .ref g3, .int mr, .ref g4, .int my, .ref g5, .int mo, .ref g6, .int ml, .ref g7, .ref g8, .ref g9, .ref g10, .ref g11, .ref g12])), (g1, .inl (cI, 9, .inl (upd fg j9 g0))), (g2, .inl (cI, 9, .inl (upd fb j9 f0))), (g3, .inl (cI, 9, .inl (upd fp (nI j9).toNatClampNeg r0)))] H := hP
                  have hD : va_D (aA as) [(m0, .inr (7, [.int (nI n), .ref g1, .ref g2, .ref g3, .int mr, .ref g4, .int my, .ref g5, .int mo, .ref g6, .int ml, .ref g7, .ref g8, .ref g9, .ref g10, .ref g11, .ref g12])), (g1, .inl (cI, 9, .inl (upd fg j9 g0))), (g2, .inl (cI, 9, .inl (upd fb j9 f0))), (g3, .inl (cI, 9, .inl (upd fp (nI j9).toNatClampNeg r0)))] := hD
                  rw [nI_clamp (n := j9) (by omega)] at hP hD
                  refine lv_iconst (v := nI 1) hx hb dX7_part_69 (by decide) ?_
                  rw [← hQ]
                  exact W.zret (v := nI 1) hx hb hr (by first | decide | (rw [nar_b01])) (fun tS htS hWS => ⟨⟨(nI 1), (upd fg j9 g0, upd fb j9 f0, upd fp j9 r0), rfl, Or.inl ⟨rfl, by omega, by rw [tj9]; rfl, by rw [tj9]; rfl, by rw [tj9]; rfl⟩, m_at htS hP⟩, by rw [← has]; exact hS.F htS⟩) (by rw [← has]; exact hS.2.2) dX7_part_70
                · exact absurd c8 (by first | decide | exact nz_lt (by omega) | exact fun h => h (nz_ge (by omega)))
              · skip
                refine lv_if_ne (tgt := 47) hx hb dX7_part_42 (by decide) (fun c9 => ?_) (fun c9 => ?_)
                · exact absurd c9 (by first | decide | exact nz_lt (by omega) | exact fun h => h (nz_ge (by omega)))
                · skip
                  refine lv_iconst (v := nI 0) hx hb dX7_part_45 (by decide) ?_
                  rw [← hQ]
                  exact W.zret (v := nI 0) hx hb hr (by first | decide | (rw [nar_b01])) (fun tS htS hWS => ⟨⟨(nI 0), (fg, fb, fp), rfl, Or.inr ⟨rfl, by omega, rfl, rfl, rfl⟩, m_at htS hP⟩, by rw [← has]; exact hS.F htS⟩) (by rw [← has]; exact hS.2.2) dX7_part_46
          · skip
            refine lv_if_eq (tgt := 45) hx hb dX7_part_29 (by decide) (fun c10 => ?_) (fun c10 => ?_)
            · skip
              refine lv_iconst (v := nI 0) hx hb dX7_part_45 (by decide) ?_
              rw [← hQ]
              exact W.zret (v := nI 0) hx hb hr (by first | decide | (rw [nar_b01])) (fun tS htS hWS => ⟨⟨(nI 0), (fg, fb, fp), rfl, Or.inr ⟨rfl, by omega, rfl, rfl, rfl⟩, m_at htS hP⟩, by rw [← has]; exact hS.F htS⟩) (by rw [← has]; exact hS.2.2) dX7_part_46
            · exact absurd c10 (by first | decide | exact nz_lt (by omega) | exact fun h => h (nz_ge (by omega)))
      · skip
        refine lv_if_eq (tgt := 45) hx hb dX7_part_17 (by decide) (fun c11 => ?_) (fun c11 => ?_)
        · skip
          refine lv_iconst (v := nI 0) hx hb dX7_part_45 (by decide) ?_
          rw [← hQ]
          exact W.zret (v := nI 0) hx hb hr (by first | decide | (rw [nar_b01])) (fun tS htS hWS => ⟨⟨(nI 0), (fg, fb, fp), rfl, Or.inr ⟨rfl, by omega, rfl, rfl, rfl⟩, m_at htS hP⟩, by rw [← has]; exact hS.F htS⟩) (by rw [← has]; exact hS.2.2) dX7_part_46
        · exact absurd c11 (by first | decide | exact nz_lt (by omega) | exact fun h => h (nz_ge (by omega)))
  · skip
    refine lv_if_eq (tgt := 45) hx hb dX7_part_5 (by decide) (fun c12 => ?_) (fun c12 => ?_)
    · skip
      refine lv_iconst (v := nI 0) hx hb dX7_part_45 (by decide) ?_
      rw [← hQ]
      exact W.zret (v := nI 0) hx hb hr (by first | decide | (rw [nar_b01])) (fun tS htS hWS => ⟨⟨(nI 0), (fg, fb, fp), rfl, Or.inr ⟨rfl, by omega, rfl, rfl, rfl⟩, m_at htS hP⟩, by rw [← has]; exact hS.F htS⟩) (by rw [← has]; exact hS.2.2) dX7_part_46
    · exact absurd c12 (by first | decide | exact nz_lt (by omega) | exact fun h => h (nz_ge (by omega)))
def rm_c_X7_see_g : Room := { frames := 2, cells := 0, slots := 0, locals := 46 }
set_option maxHeartbeats 400000 in
set_option maxRecDepth 100000 in
theorem c_X7_see_g (l : Launch) (D : va_G) (cI cJ cZ : ClassId) (m0 : Nat) (g1 : Nat) (g2 : Nat) (g3 : Nat) (g4 : Nat) (g5 : Nat) (g6 : Nat) (g7 : Nat) (g8 : Nat) (g9 : Nat) (g10 : Nat) (g11 : Nat) (g12 : Nat) (n : Nat) (mr : Int32) (my : Int32) (mo : Int32) (ml : Int32) (p0 : Int32) (ho : Int32) (fn : Nat → Int32) (hn : n ≤ 9) (h1n : 1 ≤ n) : Met l yX7_see wsX7_see rm_c_X7_see_g (pm_ D cI cJ cZ [.ref m0, .int p0, .int ho] [(m0, .inr (7, [.int (nI n), .ref g1, .ref g2, .ref g3, .int mr, .ref g4, .int my, .ref g5, .int mo, .ref g6, .int ml, .ref g7, .ref g8, .ref g9, .ref g10, .ref g11, .ref g12])), (g5, .inl (cI, 9, .inl fn))]) (va_Qi (fun (r : Int32) (u : (Nat → Int32)) => (r = nI 1 ∧ (0 ≤ p0.toInt ∧ p0.toInt < n ∧ -1 ≤ ho.toInt ∧ ho.toInt ≤ 1) ∧ u = upd fn p0.toInt.toNat ho) ∨ (r = nI 0 ∧ ¬ (0 ≤ p0.toInt ∧ p0.toInt < n ∧ -1 ≤ ho.toInt ∧ ho.toInt ≤ 1) ∧ u = fn)) (fun (u : (Nat → Int32)) tS => va_P D vwCl [(m0, .inr (7, [.int (nI n), .ref g1, .ref g2, .ref g3, .int mr, .ref g4, .int my, .ref g5, .int mo, .ref g6, .int ml, .ref g7, .ref g8, .ref g9, .ref g10, .ref g11, .ref g12])), (g5, .inl (cI, 9, .inl u))] tS.heap) (aA [m0, g5])) 0 0 (aA [m0, g5]) := by
  refine Met.ofW (cc := cX7_see) (maxL := 3) (ret := (some .boolean)) (by decide) rfl ?_
  intro p e s m args below meth c s₁ B hml hv
  obtain ⟨rfl, hP, hKN, hD0⟩ := hv
  have hK := hKN.1
  have hx := B.exec
  have hb := B.bytes
  have hr := B.returns
  have hts := atoms_spec (ws := wsX7_see) B.pre
  have hown : s.vm.findClass RX7 = some m.cls := findClass_of_methodNamed B.named
  have hlocks := B.notSynchronized
  have hiX7 : ∀ w ∈ wsX70, w ∈ wsX7_see := by decide +kernel
  have hf30 := hts (.fieldLink RX7 30 "LookBenchModel" "seen" "[I") (by decide +kernel)
  obtain ⟨as, has⟩ : ∃ z : List Nat, z = [m0, g5] := ⟨_, rfl⟩
  have hD := hD0.addr (as := as) (by rw [has]; rfl)
  have hS : va_S (aA as) s.heap s.heap [] := va_S.rf
  have hl := lv_entry ([.ref m0, .int p0, .int ho]) (n := 3) (Nat.le_of_ble_eq_true rfl)
  rw [lg_entry_eq]
  generalize (lg_sl ([.ref m0, .int p0, .int ho]) ++ List.replicate (3 - (lg_sl ([.ref m0, .int p0, .int ho])).length) Slot.unset).toArray = ls at hl ⊢
  have hl : lv_has ls 3 [(0, .ref m0), (1, .int p0), (2, .int ho)] := hl
  generalize hQ : MQ below _ _ s _ _ _ = Q
  obtain ⟨H, hH⟩ : ∃ z, z = s.heap := ⟨_, rfl⟩
  have hP : va_P D vwCl [(m0, .inr (7, [.int (nI n), .ref g1, .ref g2, .ref g3, .int mr, .ref g4, .int my, .ref g5, .int mo, .ref g6, .int ml, .ref g7, .ref g8, .ref g9, .ref g10, .ref g11, .ref g12])), (g5, .inl (cI, 9, .inl fn))] H := by rw [hH]; exact hP
  have hS : va_S (aA as) s.heap H [] := by rw [hH]; exact hS
  refine m_heap hH ?_
  clear hH
  refine lv_aload_n hx hb dX7_see_0 rfl (lv_at hl 0 rfl) ?_
  refine lv_iload_n hx hb dX7_see_1 rfl (lv_at hl 1 rfl) ?_
  refine pu_i (va_runV (As := [.int p0]) (rest := []) ⟨hx, hb, hml, hown, hts⟩ (c_X7_isPart l D cI cJ cZ m0 g1 g2 g3 g4 g5 g6 g7 g8 g9 g10 g11 g12 n mr my mo ml p0 (by first | assumption | omega) (by first | assumption | omega)) (cwV 1 hts gX7_see_X7_isPart rfl rfl rfl (by decide +kernel) ⟨Nat.le_of_ble_eq_true rfl, Nat.le_of_ble_eq_true rfl⟩) ⟨pc_blind, va_recv hK hP (ci := 7) (q0 := 0) rfl rfl, fun U hU hW => ⟨rfl, by rw [hU]; exact hP.sub (ws' := [(m0, .inr (7, [.int (nI n), .ref g1, .ref g2, .ref g3, .int mr, .ref g4, .int my, .ref g5, .int mo, .ref g6, .int ml, .ref g7, .ref g8, .ref g9, .ref g10, .ref g11, .ref g12]))]) [0] rfl, hKN.warm hW⟩⟩ rfl rfl hl.1 rfl (lv_room (Nat.le_of_ble_eq_true rfl)) dX7_see_2 ⟨Nat.le_of_ble_eq_true rfl, Nat.le_of_ble_eq_true rfl⟩) hS hP (fun r1 H locs w1r hP hS => ?_)
  have w1 : B01 r1 (0 ≤ p0.toInt ∧ p0.toInt < n) := w1r
  clear w1r
  rcases w1 with ⟨rfl, w1⟩ | ⟨rfl, w1⟩
  · skip
    obtain ⟨j9, hj9, rfl⟩ := m_nat w1
    have tj9 : (nI j9).toInt = (j9 : Int) := nI_toInt (by omega)
    refine lv_if_eq (tgt := 20) hx hb dX7_see_5 (by decide) (fun c2 => ?_) (fun c2 => ?_)
    · exact absurd c2 (by first | decide | exact nz_lt (by omega) | exact fun h => h (nz_ge (by omega)))
    · skip
      refine lv_iload_n hx hb dX7_see_8 rfl (lv_at hl 2 rfl) ?_
      refine lv_i2l hx hb dX7_see_9 rfl ?_
      refine lv_ldc2 (v := (-1 : Int64)) hx hb hown (hts (.constantLong RX7 100 (-1 : Int64)) (by decide +kernel)) dX7_see_10 ?_
      refine lv_lconst (v := lN 1) hx hb dX7_see_13 (by decide) ?_
      refine pu_i (va_runS (As := [.long ho.toInt64, .long (-1 : Int64), .long (lN 1)]) (rest := []) ⟨hx, hb, hml, hown, hts⟩ (c_X7_in l D cI cJ cZ ho.toInt64 (-1 : Int64) (lN 1)) (va_cwS 3 hts gX7_see_X7_in rfl rfl rfl (by decide +kernel) ⟨Nat.le_of_ble_eq_true rfl, Nat.le_of_ble_eq_true rfl⟩) ⟨pc_blind, fun U hU hW => ⟨rfl, by rw [hU]; exact hP.sub (ws' := []) [] rfl, hKN.warm hW⟩⟩ rfl rfl hl.1 rfl (lv_room (Nat.le_of_ble_eq_true rfl)) dX7_see_14 ⟨Nat.le_of_ble_eq_true rfl, Nat.le_of_ble_eq_true rfl⟩) hS hP (fun r3 H locs w3r hP hS => ?_)
      have w3 : B01 r3 ((-1 : Int64).toInt ≤ ho.toInt64.toInt ∧ ho.toInt64.toInt ≤ (lN 1).toInt) := w3r
      clear w3r
      rw [(show ((-1 : Int64)).toInt = (-1 : Int) by decide), j2 ho, lN_toInt (n := 1) (by omega)] at w3
      rcases w3 with ⟨rfl, w3⟩ | ⟨rfl, w3⟩
      · skip
        refine lv_if_ne (tgt := 22) hx hb dX7_see_17 (by decide) (fun c4 => ?_) (fun c4 => ?_)
        · skip
          refine lv_aload_n hx hb dX7_see_22 rfl (lv_at hl 0 rfl) ?_
          refine va_get (D := D) (ci := 7) (v := .ref g5) (C := RX7) (T := TX7) (N := 17) hx hb hts hiX7 hown hK hP 0 rfl rfl 7 (by decide) hf30 (fun _ h9 => h9) rfl dX7_see_23 ?_
          refine lv_iload_n hx hb dX7_see_26 rfl (lv_at hl 1 rfl) ?_
          refine lv_iload_n hx hb dX7_see_27 rfl (lv_at hl 2 rfl) ?_
          refine va_iast hx hb hK hP hD hS 1 0 rfl rfl (i := nI j9) (vp_in_nI (by omega) (by omega)) dX7_see_28 (fun H locs hP hD hS => ?_)
          have hP : va_P D vwCl [(m0, .inr (7, [.int (nI n), .ref g1, .ref g2, .ref g3, .int mr, .ref g4, .int my, .ref g5, .int mo, .ref g6, .int ml, .ref g7, .ref g8, .ref g9, .ref g10, .ref g11, .ref g12])), (g5, .inl (cI, 9, .inl (upd fn (nI j9).toNatClampNeg ho)))] H := hP
          have hD : va_D (aA as) [(m0, .inr (7, [.int (nI n), .ref g1, .ref g2, .ref g3, .int mr, .ref g4, .int my, .ref g5, .int mo, .ref g6, .int ml, .ref g7, .ref g8, .ref g9, .ref g10, .ref g11, .ref g12])), (g5, .inl (cI, 9, .inl (upd fn (nI j9).toNatClampNeg ho)))] := hD
          rw [nI_clamp (n := j9) (by omega)] at hP hD
          refine lv_iconst (v := nI 1) hx hb dX7_see_29 (by decide) ?_
          rw [← hQ]
          exact W.zret (v := nI 1) hx hb hr (by first | decide | (rw [nar_b01])) (fun tS htS hWS => ⟨⟨(nI 1), (upd fn j9 ho), rfl, Or.inl ⟨rfl, by omega, by rw [tj9]; rfl⟩, m_at htS hP⟩, by rw [← has]; exact hS.F htS⟩) (by rw [← has]; exact hS.2.2) dX7_see_30
        · exact absurd c4 (by first | decide | exact nz_lt (by omega) | exact fun h => h (nz_ge (by omega)))
      · skip
        refine lv_if_ne (tgt := 22) hx hb dX7_see_17 (by decide) (fun c5 => ?_) (fun c5 => ?_)
        · exact absurd c5 (by first | decide | exact nz_lt (by omega) | exact fun h => h (nz_ge (by omega)))
        · skip
          refine lv_iconst (v := nI 0) hx hb dX7_see_20 (by decide) ?_
          rw [← hQ]
          exact W.zret (v := nI 0) hx hb hr (by first | decide | (rw [nar_b01])) (fun tS htS hWS => ⟨⟨(nI 0), (fn), rfl, Or.inr ⟨rfl, by omega, rfl⟩, m_at htS hP⟩, by rw [← has]; exact hS.F htS⟩) (by rw [← has]; exact hS.2.2) dX7_see_21
  · skip
    refine lv_if_eq (tgt := 20) hx hb dX7_see_5 (by decide) (fun c6 => ?_) (fun c6 => ?_)
    · skip
      refine lv_iconst (v := nI 0) hx hb dX7_see_20 (by decide) ?_
      rw [← hQ]
      exact W.zret (v := nI 0) hx hb hr (by first | decide | (rw [nar_b01])) (fun tS htS hWS => ⟨⟨(nI 0), (fn), rfl, Or.inr ⟨rfl, by omega, rfl⟩, m_at htS hP⟩, by rw [← has]; exact hS.F htS⟩) (by rw [← has]; exact hS.2.2) dX7_see_21
    · exact absurd c6 (by first | decide | exact nz_lt (by omega) | exact fun h => h (nz_ge (by omega)))
def rm_c_X7_parts_g : Room := { frames := 1, cells := 0, slots := 0, locals := 25 }
set_option maxHeartbeats 400000 in
set_option maxRecDepth 100000 in
theorem c_X7_parts_g (l : Launch) (D : va_G) (cI cJ cZ : ClassId) (m0 : Nat) (g1 : Nat) (g2 : Nat) (g3 : Nat) (g4 : Nat) (g5 : Nat) (g6 : Nat) (g7 : Nat) (g8 : Nat) (g9 : Nat) (g10 : Nat) (g11 : Nat) (g12 : Nat) (mp : Int32) (mr : Int32) (my : Int32) (mo : Int32) (ml : Int32) (n0 : Int32) (fg : Nat → Int32) (fb : Nat → Int32) (fp : Nat → Int32) (fn : Nat → Int32)  : Met l yX7_parts wsX7_parts rm_c_X7_parts_g (pm_ D cI cJ cZ [.ref m0, .int n0] [(m0, .inr (7, [.int mp, .ref g1, .ref g2, .ref g3, .int mr, .ref g4, .int my, .ref g5, .int mo, .ref g6, .int ml, .ref g7, .ref g8, .ref g9, .ref g10, .ref g11, .ref g12])), (g1, .inl (cI, 9, .inl fg)), (g2, .inl (cI, 9, .inl fb)), (g3, .inl (cI, 9, .inl fp)), (g5, .inl (cI, 9, .inl fn))]) (va_Qi (fun (r : Int32) (u : Int32 × Int32 × Int32 × Int32 × Int32 × (Nat → Int32) × (Nat → Int32) × (Nat → Int32) × (Nat → Int32)) => (r = nI 1 ∧ (1 ≤ n0.toInt ∧ n0.toInt ≤ 9) ∧ u.1 = n0 ∧ u.2.1 = nI 0 ∧ u.2.2.1 = -1 ∧ u.2.2.2.1 = nI 0 ∧ u.2.2.2.2.1 = nI 0 ∧ (∀ z, z < 9 → u.2.2.2.2.2.1 z = nI 1 ∧ u.2.2.2.2.2.2.1 z = nI 1 ∧ u.2.2.2.2.2.2.2.1 z = nI 1 ∧ u.2.2.2.2.2.2.2.2 z = -1)) ∨ (r = nI 0 ∧ ¬ (1 ≤ n0.toInt ∧ n0.toInt ≤ 9) ∧ u.1 = mp ∧ u.2.1 = mr ∧ u.2.2.1 = my ∧ u.2.2.2.1 = mo ∧ u.2.2.2.2.1 = ml ∧ u.2.2.2.2.2.1 = fg ∧ u.2.2.2.2.2.2.1 = fb ∧ u.2.2.2.2.2.2.2.1 = fp ∧ u.2.2.2.2.2.2.2.2 = fn)) (fun (u : Int32 × Int32 × Int32 × Int32 × Int32 × (Nat → Int32) × (Nat → Int32) × (Nat → Int32) × (Nat → Int32)) tS => va_P D vwCl [(m0, .inr (7, [.int u.1, .ref g1, .ref g2, .ref g3, .int u.2.1, .ref g4, .int u.2.2.1, .ref g5, .int u.2.2.2.1, .ref g6, .int u.2.2.2.2.1, .ref g7, .ref g8, .ref g9, .ref g10, .ref g11, .ref g12])), (g1, .inl (cI, 9, .inl u.2.2.2.2.2.1)), (g2, .inl (cI, 9, .inl u.2.2.2.2.2.2.1)), (g3, .inl (cI, 9, .inl u.2.2.2.2.2.2.2.1)), (g5, .inl (cI, 9, .inl u.2.2.2.2.2.2.2.2))] tS.heap) (aA [m0, g1, g2, g3, g5])) 0 0 (aA [m0, g1, g2, g3, g5]) := by
  refine Met.ofW (cc := cX7_parts) (maxL := 3) (ret := (some .boolean)) (by decide) rfl ?_
  intro p e s m args below meth c s₁ B hml hv
  obtain ⟨rfl, hP, hKN, hD0⟩ := hv
  have hK := hKN.1
  have hx := B.exec
  have hb := B.bytes
  have hr := B.returns
  have hts := atoms_spec (ws := wsX7_parts) B.pre
  have hown : s.vm.findClass RX7 = some m.cls := findClass_of_methodNamed B.named
  have hlocks := B.notSynchronized
  have hiX7 : ∀ w ∈ wsX70, w ∈ wsX7_parts := by decide +kernel
  have hf7 := hts (.fieldLink RX7 7 "LookBenchModel" "parts" "I") (by decide +kernel)
  have hf13 := hts (.fieldLink RX7 13 "LookBenchModel" "good" "[I") (by decide +kernel)
  have hf17 := hts (.fieldLink RX7 17 "LookBenchModel" "bad" "[I") (by decide +kernel)
  have hf20 := hts (.fieldLink RX7 20 "LookBenchModel" "price" "[I") (by decide +kernel)
  have hf27 := hts (.fieldLink RX7 27 "LookBenchModel" "system" "I") (by decide +kernel)
  have hf30 := hts (.fieldLink RX7 30 "LookBenchModel" "seen" "[I") (by decide +kernel)
  have hf59 := hts (.fieldLink RX7 59 "LookBenchModel" "rules" "I") (by decide +kernel)
  have hf64 := hts (.fieldLink RX7 64 "LookBenchModel" "ordered" "I") (by decide +kernel)
  have hf67 := hts (.fieldLink RX7 67 "LookBenchModel" "looks" "I") (by decide +kernel)
  obtain ⟨as, has⟩ : ∃ z : List Nat, z = [m0, g1, g2, g3, g5] := ⟨_, rfl⟩
  have hD := hD0.addr (as := as) (by rw [has]; rfl)
  have hS : va_S (aA as) s.heap s.heap [] := va_S.rf
  have hl := lv_entry ([.ref m0, .int n0]) (n := 3) (Nat.le_of_ble_eq_true rfl)
  rw [lg_entry_eq]
  generalize (lg_sl ([.ref m0, .int n0]) ++ List.replicate (3 - (lg_sl ([.ref m0, .int n0])).length) Slot.unset).toArray = ls at hl ⊢
  have hl : lv_has ls 3 [(0, .ref m0), (1, .int n0)] := hl
  generalize hQ : MQ below _ _ s _ _ _ = Q
  obtain ⟨H, hH⟩ : ∃ z, z = s.heap := ⟨_, rfl⟩
  have hP : va_P D vwCl [(m0, .inr (7, [.int mp, .ref g1, .ref g2, .ref g3, .int mr, .ref g4, .int my, .ref g5, .int mo, .ref g6, .int ml, .ref g7, .ref g8, .ref g9, .ref g10, .ref g11, .ref g12])), (g1, .inl (cI, 9, .inl fg)), (g2, .inl (cI, 9, .inl fb)), (g3, .inl (cI, 9, .inl fp)), (g5, .inl (cI, 9, .inl fn))] H := by rw [hH]; exact hP
  have hS : va_S (aA as) s.heap H [] := by rw [hH]; exact hS
  refine m_heap hH ?_
  clear hH
  refine lv_iload_n hx hb dX7_parts_0 rfl (lv_at hl 1 rfl) ?_
  refine lv_i2l hx hb dX7_parts_1 rfl ?_
  refine lv_lconst (v := lN 1) hx hb dX7_parts_2 (by decide) ?_
  refine lv_ldc2 (v := lN 9) hx hb hown (hts (.constantLong RX7 62 (lN 9)) (by decide +kernel)) dX7_parts_3 ?_
  refine pu_i (va_runS (As := [.long n0.toInt64, .long (lN 1), .long (lN 9)]) (rest := []) ⟨hx, hb, hml, hown, hts⟩ (c_X7_in l D cI cJ cZ n0.toInt64 (lN 1) (lN 9)) (va_cwS 3 hts gX7_parts_X7_in rfl rfl rfl (by decide +kernel) ⟨Nat.le_of_ble_eq_true rfl, Nat.le_of_ble_eq_true rfl⟩) ⟨pc_blind, fun U hU hW => ⟨rfl, by rw [hU]; exact hP.sub (ws' := []) [] rfl, hKN.warm hW⟩⟩ rfl rfl hl.1 rfl (lv_room (Nat.le_of_ble_eq_true rfl)) dX7_parts_6 ⟨Nat.le_of_ble_eq_true rfl, Nat.le_of_ble_eq_true rfl⟩) hS hP (fun r1 H locs w1r hP hS => ?_)
  have w1 : B01 r1 ((lN 1).toInt ≤ n0.toInt64.toInt ∧ n0.toInt64.toInt ≤ (lN 9).toInt) := w1r
  clear w1r
  rw [lN_toInt (n := 1) (by omega), j2 n0, lN_toInt (n := 9) (by omega)] at w1
  rcases w1 with ⟨rfl, w1⟩ | ⟨rfl, w1⟩
  · skip
    refine lv_if_ne (tgt := 14) hx hb dX7_parts_9 (by decide) (fun c2 => ?_) (fun c2 => ?_)
    · skip
      refine lv_aload_n hx hb dX7_parts_14 rfl (lv_at hl 0 rfl) ?_
      refine lv_iload_n hx hb dX7_parts_15 rfl (lv_at hl 1 rfl) ?_
      refine va_put (D := D) (ci := 7) (v := .int n0) (ty := tyX7 0) (C := RX7) (T := TX7) (N := 17) hx hb hts hiX7 tyX7 tyX7_ok nmX7 hown hK hP hD hS 0 rfl rfl 0 (by decide) hf7 (fun _ h9 => h9) rfl (by decide +kernel) rfl rfl (Nat.le_of_ble_eq_true rfl) dX7_parts_16 (fun H locs hP hD hS => ?_)
      have hP : va_P D vwCl [(m0, .inr (7, [.int n0, .ref g1, .ref g2, .ref g3, .int mr, .ref g4, .int my, .ref g5, .int mo, .ref g6, .int ml, .ref g7, .ref g8, .ref g9, .ref g10, .ref g11, .ref g12])), (g1, .inl (cI, 9, .inl fg)), (g2, .inl (cI, 9, .inl fb)), (g3, .inl (cI, 9, .inl fp)), (g5, .inl (cI, 9, .inl fn))] H := hP
      have hD : va_D (aA as) [(m0, .inr (7, [.int n0, .ref g1, .ref g2, .ref g3, .int mr, .ref g4, .int my, .ref g5, .int mo, .ref g6, .int ml, .ref g7, .ref g8, .ref g9, .ref g10, .ref g11, .ref g12])), (g1, .inl (cI, 9, .inl fg)), (g2, .inl (cI, 9, .inl fb)), (g3, .inl (cI, 9, .inl fp)), (g5, .inl (cI, 9, .inl fn))] := hD
      refine lv_iconst (v := nI 0) hx hb dX7_parts_19 (by decide) ?_
      refine lv_istore_n (lv' := [(2, .int (nI 0)), (0, .ref m0), (1, .int n0)]) hx hb dX7_parts_20 rfl hl (by decide) rfl (fun ls hl => ?_)
      have loop3 : ∀ (fu : Nat) (k : Nat) (ug : Nat → Int32) (ub : Nat → Int32) (ur : Nat → Int32) (un : Nat → Int32) (H : Heap) (locs : List Loc) (ls : Array Slot), (k ≤ 9 ∧ 9 < k + fu) → (∀ z, z < k → ug z = nI 1 ∧ ub z = nI 1 ∧ ur z = nI 1 ∧ un z = -1) → va_P D vwCl [(m0, .inr (7, [.int n0, .ref g1, .ref g2, .ref g3, .int mr, .ref g4, .int my, .ref g5, .int mo, .ref g6, .int ml, .ref g7, .ref g8, .ref g9, .ref g10, .ref g11, .ref g12])), (g1, .inl (cI, 9, .inl ug)), (g2, .inl (cI, 9, .inl ub)), (g3, .inl (cI, 9, .inl ur)), (g5, .inl (cI, 9, .inl un))] H → va_D (aA as) [(m0, .inr (7, [.int n0, .ref g1, .ref g2, .ref g3, .int mr, .ref g4, .int my, .ref g5, .int mo, .ref g6, .int ml, .ref g7, .ref g8, .ref g9, .ref g10, .ref g11, .ref g12])), (g1, .inl (cI, 9, .inl ug)), (g2, .inl (cI, 9, .inl ub)), (g3, .inl (cI, 9, .inl ur)), (g5, .inl (cI, 9, .inl un))] → va_S (aA as) s.heap H locs → lv_has ls 3 [(2, .int (nI k)), (0, .ref m0), (1, .int n0)] → W p l e (headSpec wsX7_parts rm_c_X7_parts_g).room s m ([.ref m0, .int n0] : List Value).toArray below meth c H locs 0 0 Q (F0 m 21 ls []) := by
        intro fu
        induction fu with
        | zero => intro k ug ub ur un H locs ls hk hi; exact absurd hk (by omega)
        | succ fu ih3 =>
          intro k ug ub ur un H locs ls hk hi hP hD hS hl
          refine lv_iload_n hx hb dX7_parts_21 rfl (lv_at hl 0 rfl) ?_
          refine lv_bipush (v := nI 9) hx hb dX7_parts_22 (by decide) ?_
          refine lv_icmp_ge (tgt := 61) hx hb dX7_parts_24 (by decide) (fun c4 => ?_) (fun c4 => ?_)
          · skip
            have d4 := c4
            rw [nI_leI (by omega) (by omega)] at d4
            refine lv_aload_n hx hb dX7_parts_61 rfl (lv_at hl 1 rfl) ?_
            refine lv_iconst (v := nI 0) hx hb dX7_parts_62 (by decide) ?_
            refine va_put (D := D) (ci := 7) (v := .int (nI 0)) (ty := tyX7 4) (C := RX7) (T := TX7) (N := 17) hx hb hts hiX7 tyX7 tyX7_ok nmX7 hown hK hP hD hS 0 rfl rfl 4 (by decide) hf59 (fun _ h9 => h9) rfl (by decide +kernel) rfl rfl (Nat.le_of_ble_eq_true rfl) dX7_parts_63 (fun H locs hP hD hS => ?_)
            have hP : va_P D vwCl [(m0, .inr (7, [.int n0, .ref g1, .ref g2, .ref g3, .int (nI 0), .ref g4, .int my, .ref g5, .int mo, .ref g6, .int ml, .ref g7, .ref g8, .ref g9, .ref g10, .ref g11, .ref g12])), (g1, .inl (cI, 9, .inl ug)), (g2, .inl (cI, 9, .inl ub)), (g3, .inl (cI, 9, .inl ur)), (g5, .inl (cI, 9, .inl un))] H := hP
            have hD : va_D (aA as) [(m0, .inr (7, [.int n0, .ref g1, .ref g2, .ref g3, .int (nI 0), .ref g4, .int my, .ref g5, .int mo, .ref g6, .int ml, .ref g7, .ref g8, .ref g9, .ref g10, .ref g11, .ref g12])), (g1, .inl (cI, 9, .inl ug)), (g2, .inl (cI, 9, .inl ub)), (g3, .inl (cI, 9, .inl ur)), (g5, .inl (cI, 9, .inl un))] := hD
            refine lv_aload_n hx hb dX7_parts_66 rfl (lv_at hl 1 rfl) ?_
            refine lv_iconst (v := (-1 : Int32)) hx hb dX7_parts_67 (by decide) ?_
            refine va_put (D := D) (ci := 7) (v := .int (-1 : Int32)) (ty := tyX7 6) (C := RX7) (T := TX7) (N := 17) hx hb hts hiX7 tyX7 tyX7_ok nmX7 hown hK hP hD hS 0 rfl rfl 6 (by decide) hf27 (fun _ h9 => h9) rfl (by decide +kernel) rfl rfl (Nat.le_of_ble_eq_true rfl) dX7_parts_68 (fun H locs hP hD hS => ?_)
            have hP : va_P D vwCl [(m0, .inr (7, [.int n0, .ref g1, .ref g2, .ref g3, .int (nI 0), .ref g4, .int (-1 : Int32), .ref g5, .int mo, .ref g6, .int ml, .ref g7, .ref g8, .ref g9, .ref g10, .ref g11, .ref g12])), (g1, .inl (cI, 9, .inl ug)), (g2, .inl (cI, 9, .inl ub)), (g3, .inl (cI, 9, .inl ur)), (g5, .inl (cI, 9, .inl un))] H := hP
            have hD : va_D (aA as) [(m0, .inr (7, [.int n0, .ref g1, .ref g2, .ref g3, .int (nI 0), .ref g4, .int (-1 : Int32), .ref g5, .int mo, .ref g6, .int ml, .ref g7, .ref g8, .ref g9, .ref g10, .ref g11, .ref g12])), (g1, .inl (cI, 9, .inl ug)), (g2, .inl (cI, 9, .inl ub)), (g3, .inl (cI, 9, .inl ur)), (g5, .inl (cI, 9, .inl un))] := hD
            refine lv_aload_n hx hb dX7_parts_71 rfl (lv_at hl 1 rfl) ?_
            refine lv_iconst (v := nI 0) hx hb dX7_parts_72 (by decide) ?_
            refine va_put (D := D) (ci := 7) (v := .int (nI 0)) (ty := tyX7 8) (C := RX7) (T := TX7) (N := 17) hx hb hts hiX7 tyX7 tyX7_ok nmX7 hown hK hP hD hS 0 rfl rfl 8 (by decide) hf64 (fun _ h9 => h9) rfl (by decide +kernel) rfl rfl (Nat.le_of_ble_eq_true rfl) dX7_parts_73 (fun H locs hP hD hS => ?_)
            have hP : va_P D vwCl [(m0, .inr (7, [.int n0, .ref g1, .ref g2, .ref g3, .int (nI 0), .ref g4, .int (-1 : Int32), .ref g5, .int (nI 0), .ref g6, .int ml, .ref g7, .ref g8, .ref g9, .ref g10, .ref g11, .ref g12])), (g1, .inl (cI, 9, .inl ug)), (g2, .inl (cI, 9, .inl ub)), (g3, .inl (cI, 9, .inl ur)), (g5, .inl (cI, 9, .inl un))] H := hP
            have hD : va_D (aA as) [(m0, .inr (7, [.int n0, .ref g1, .ref g2, .ref g3, .int (nI 0), .ref g4, .int (-1 : Int32), .ref g5, .int (nI 0), .ref g6, .int ml, .ref g7, .ref g8, .ref g9, .ref g10, .ref g11, .ref g12])), (g1, .inl (cI, 9, .inl ug)), (g2, .inl (cI, 9, .inl ub)), (g3, .inl (cI, 9, .inl ur)), (g5, .inl (cI, 9, .inl un))] := hD
            refine lv_aload_n hx hb dX7_parts_76 rfl (lv_at hl 1 rfl) ?_
            refine lv_iconst (v := nI 0) hx hb dX7_parts_77 (by decide) ?_
            refine va_put (D := D) (ci := 7) (v := .int (nI 0)) (ty := tyX7 10) (C := RX7) (T := TX7) (N := 17) hx hb hts hiX7 tyX7 tyX7_ok nmX7 hown hK hP hD hS 0 rfl rfl 10 (by decide) hf67 (fun _ h9 => h9) rfl (by decide +kernel) rfl rfl (Nat.le_of_ble_eq_true rfl) dX7_parts_78 (fun H locs hP hD hS => ?_)
            have hP : va_P D vwCl [(m0, .inr (7, [.int n0, .ref g1, .ref g2, .ref g3, .int (nI 0), .ref g4, .int (-1 : Int32), .ref g5, .int (nI 0), .ref g6, .int (nI 0), .ref g7, .ref g8, .ref g9, .ref g10, .ref g11, .ref g12])), (g1, .inl (cI, 9, .inl ug)), (g2, .inl (cI, 9, .inl ub)), (g3, .inl (cI, 9, .inl ur)), (g5, .inl (cI, 9, .inl un))] H := hP
            have hD : va_D (aA as) [(m0, .inr (7, [.int n0, .ref g1, .ref g2, .ref g3, .int (nI 0), .ref g4, .int (-1 : Int32), .ref g5, .int (nI 0), .ref g6, .int (nI 0), .ref g7, .ref g8, .ref g9, .ref g10, .ref g11, .ref g12])), (g1, .inl (cI, 9, .inl ug)), (g2, .inl (cI, 9, .inl ub)), (g3, .inl (cI, 9, .inl ur)), (g5, .inl (cI, 9, .inl un))] := hD
            refine lv_iconst (v := nI 1) hx hb dX7_parts_81 (by decide) ?_
            rw [← hQ]
            exact W.zret (v := nI 1) hx hb hr (by first | decide | (rw [nar_b01])) (fun tS htS hWS => ⟨⟨(nI 1), (n0, nI 0, (-1 : Int32), nI 0, nI 0, ug, ub, ur, un), rfl, Or.inl ⟨rfl, by omega, rfl, rfl, rfl, rfl, rfl, fun z hz => hi z (by omega)⟩, m_at htS hP⟩, by rw [← has]; exact hS.F htS⟩) (by rw [← has]; exact hS.2.2) dX7_parts_82
          · skip
            have d4 := c4
            rw [nI_leI (by omega) (by omega)] at d4
            refine lv_aload_n hx hb dX7_parts_27 rfl (lv_at hl 1 rfl) ?_
            refine va_get (D := D) (ci := 7) (v := .ref g1) (C := RX7) (T := TX7) (N := 17) hx hb hts hiX7 hown hK hP 0 rfl rfl 1 (by decide) hf13 (fun _ h9 => h9) rfl dX7_parts_28 ?_
            refine lv_iload_n hx hb dX7_parts_31 rfl (lv_at hl 0 rfl) ?_
            refine lv_iconst (v := nI 1) hx hb dX7_parts_32 (by decide) ?_
            refine va_iast hx hb hK hP hD hS 1 0 rfl rfl (i := nI k) (vp_in_nI (by omega) (by omega)) dX7_parts_33 (fun H locs hP hD hS => ?_)
            have hP : va_P D vwCl [(m0, .inr (7, [.int n0, .ref g1, .ref g2, .ref g3, .int mr, .ref g4, .int my, .ref g5, .int mo, .ref g6, .int ml, .ref g7, .ref g8, .ref g9, .ref g10, .ref g11, .ref g12])), (g1, .inl (cI, 9, .inl (upd ug (nI k).toNatClampNeg (nI 1)))), (g2, .inl (cI, 9, .inl ub)), (g3, .inl (cI, 9, .inl ur)), (g5, .inl (cI, 9, .inl un))] H := hP
            have hD : va_D (aA as) [(m0, .inr (7, [.int n0, .ref g1, .ref g2, .ref g3, .int mr, .ref g4, .int my, .ref g5, .int mo, .ref g6, .int ml, .ref g7, .ref g8, .ref g9, .ref g10, .ref g11, .ref g12])), (g1, .inl (cI, 9, .inl (upd ug (nI k).toNatClampNeg (nI 1)))), (g2, .inl (cI, 9, .inl ub)), (g3, .inl (cI, 9, .inl ur)), (g5, .inl (cI, 9, .inl un))] := hD
            rw [nI_clamp (n := k) (by omega)] at hP hD
            refine lv_aload_n hx hb dX7_parts_34 rfl (lv_at hl 1 rfl) ?_
            refine va_get (D := D) (ci := 7) (v := .ref g2) (C := RX7) (T := TX7) (N := 17) hx hb hts hiX7 hown hK hP 0 rfl rfl 2 (by decide) hf17 (fun _ h9 => h9) rfl dX7_parts_35 ?_
            refine lv_iload_n hx hb dX7_parts_38 rfl (lv_at hl 0 rfl) ?_
            refine lv_iconst (v := nI 1) hx hb dX7_parts_39 (by decide) ?_
            refine va_iast hx hb hK hP hD hS 2 0 rfl rfl (i := nI k) (vp_in_nI (by omega) (by omega)) dX7_parts_40 (fun H locs hP hD hS => ?_)
            have hP : va_P D vwCl [(m0, .inr (7, [.int n0, .ref g1, .ref g2, .ref g3, .int mr, .ref g4, .int my, .ref g5, .int mo, .ref g6, .int ml, .ref g7, .ref g8, .ref g9, .ref g10, .ref g11, .ref g12])), (g1, .inl (cI, 9, .inl (upd ug k (nI 1)))), (g2, .inl (cI, 9, .inl (upd ub (nI k).toNatClampNeg (nI 1)))), (g3, .inl (cI, 9, .inl ur)), (g5, .inl (cI, 9, .inl un))] H := hP
            have hD : va_D (aA as) [(m0, .inr (7, [.int n0, .ref g1, .ref g2, .ref g3, .int mr, .ref g4, .int my, .ref g5, .int mo, .ref g6, .int ml, .ref g7, .ref g8, .ref g9, .ref g10, .ref g11, .ref g12])), (g1, .inl (cI, 9, .inl (upd ug k (nI 1)))), (g2, .inl (cI, 9, .inl (upd ub (nI k).toNatClampNeg (nI 1)))), (g3, .inl (cI, 9, .inl ur)), (g5, .inl (cI, 9, .inl un))] := hD
            rw [nI_clamp (n := k) (by omega)] at hP hD
            refine lv_aload_n hx hb dX7_parts_41 rfl (lv_at hl 1 rfl) ?_
            refine va_get (D := D) (ci := 7) (v := .ref g3) (C := RX7) (T := TX7) (N := 17) hx hb hts hiX7 hown hK hP 0 rfl rfl 3 (by decide) hf20 (fun _ h9 => h9) rfl dX7_parts_42 ?_
            refine lv_iload_n hx hb dX7_parts_45 rfl (lv_at hl 0 rfl) ?_
            refine lv_iconst (v := nI 1) hx hb dX7_parts_46 (by decide) ?_
            refine va_iast hx hb hK hP hD hS 3 0 rfl rfl (i := nI k) (vp_in_nI (by omega) (by omega)) dX7_parts_47 (fun H locs hP hD hS => ?_)
            have hP : va_P D vwCl [(m0, .inr (7, [.int n0, .ref g1, .ref g2, .ref g3, .int mr, .ref g4, .int my, .ref g5, .int mo, .ref g6, .int ml, .ref g7, .ref g8, .ref g9, .ref g10, .ref g11, .ref g12])), (g1, .inl (cI, 9, .inl (upd ug k (nI 1)))), (g2, .inl (cI, 9, .inl (upd ub k (nI 1)))), (g3, .inl (cI, 9, .inl (upd ur (nI k).toNatClampNeg (nI 1)))), (g5, .inl (cI, 9, .inl un))] H := hP
            have hD : va_D (aA as) [(m0, .inr (7, [.int n0, .ref g1, .ref g2, .ref g3, .int mr, .ref g4, .int my, .ref g5, .int mo, .ref g6, .int ml, .ref g7, .ref g8, .ref g9, .ref g10, .ref g11, .ref g12])), (g1, .inl (cI, 9, .inl (upd ug k (nI 1)))), (g2, .inl (cI, 9, .inl (upd ub k (nI 1)))), (g3, .inl (cI, 9, .inl (upd ur (nI k).toNatClampNeg (nI 1)))), (g5, .inl (cI, 9, .inl un))] := hD
            rw [nI_clamp (n := k) (by omega)] at hP hD
            refine lv_aload_n hx hb dX7_parts_48 rfl (lv_at hl 1 rfl) ?_
            refine va_get (D := D) (ci := 7) (v := .ref g5) (C := RX7) (T := TX7) (N := 17) hx hb hts hiX7 hown hK hP 0 rfl rfl 7 (by decide) hf30 (fun _ h9 => h9) rfl dX7_parts_49 ?_
            refine lv_iload_n hx hb dX7_parts_52 rfl (lv_at hl 0 rfl) ?_
            refine lv_iconst (v := (-1 : Int32)) hx hb dX7_parts_53 (by decide) ?_
            refine va_iast hx hb hK hP hD hS 4 0 rfl rfl (i := nI k) (vp_in_nI (by omega) (by omega)) dX7_parts_54 (fun H locs hP hD hS => ?_)
            have hP : va_P D vwCl [(m0, .inr (7, [.int n0, .ref g1, .ref g2, .ref g3, .int mr, .ref g4, .int my, .ref g5, .int mo, .ref g6, .int ml, .ref g7, .ref g8, .ref g9, .ref g10, .ref g11, .ref g12])), (g1, .inl (cI, 9, .inl (upd ug k (nI 1)))), (g2, .inl (cI, 9, .inl (upd ub k (nI 1)))), (g3, .inl (cI, 9, .inl (upd ur k (nI 1)))), (g5, .inl (cI, 9, .inl (upd un (nI k).toNatClampNeg (-1 : Int32))))] H := hP
            have hD : va_D (aA as) [(m0, .inr (7, [.int n0, .ref g1, .ref g2, .ref g3, .int mr, .ref g4, .int my, .ref g5, .int mo, .ref g6, .int ml, .ref g7, .ref g8, .ref g9, .ref g10, .ref g11, .ref g12])), (g1, .inl (cI, 9, .inl (upd ug k (nI 1)))), (g2, .inl (cI, 9, .inl (upd ub k (nI 1)))), (g3, .inl (cI, 9, .inl (upd ur k (nI 1)))), (g5, .inl (cI, 9, .inl (upd un (nI k).toNatClampNeg (-1 : Int32))))] := hD
            rw [nI_clamp (n := k) (by omega)] at hP hD
            refine lv_iinc (v := nI (k + 1)) (lv' := [(2, .int (nI (k + 1))), (0, .ref m0), (1, .int n0)]) hx hb dX7_parts_55 hl (k := 0) rfl (nI_1 k) (by decide) rfl (fun ls hl => ?_)
            refine lv_goto (tgt := 21) hx hb dX7_parts_58 (by decide) ?_
            exact ih3 (k + 1) (upd ug k (nI 1)) (upd ub k (nI 1)) (upd ur k (nI 1)) (upd un k (-1 : Int32)) _ _ _ (by omega) (fun z hz => by rcases Nat.lt_or_ge z k with h | h; exact (by have h2 := hi z h; have e9 : z ≠ k := (by omega); simp [upd, e9, h2]); exact (by have e9 : z = k := (by omega); subst e9; simp [upd])) hP hD hS (lv_sub hl [0, 1, 2] rfl)
      exact loop3 10 0 fg fb fp fn _ _ _ (by omega) (fun z hz => absurd hz (by omega)) hP hD hS (lv_sub hl [0, 1, 2] rfl)
    · exact absurd c2 (by first | decide | exact nz_lt (by omega) | exact fun h => h (nz_ge (by omega)))
  · skip
    refine lv_if_ne (tgt := 14) hx hb dX7_parts_9 (by decide) (fun c5 => ?_) (fun c5 => ?_)
    · exact absurd c5 (by first | decide | exact nz_lt (by omega) | exact fun h => h (nz_ge (by omega)))
    · skip
      refine lv_iconst (v := nI 0) hx hb dX7_parts_12 (by decide) ?_
      rw [← hQ]
      exact W.zret (v := nI 0) hx hb hr (by first | decide | (rw [nar_b01])) (fun tS htS hWS => ⟨⟨(nI 0), (mp, mr, my, mo, ml, fg, fb, fp, fn), rfl, Or.inr ⟨rfl, by omega, rfl, rfl, rfl, rfl, rfl, rfl, rfl, rfl, rfl⟩, m_at htS hP⟩, by rw [← has]; exact hS.F htS⟩) (by rw [← has]; exact hS.2.2) dX7_parts_13
def rm_c_X7_order_g : Room := { frames := 2, cells := 0, slots := 0, locals := 46 }
set_option maxHeartbeats 400000 in
set_option maxRecDepth 100000 in
theorem c_X7_order_g (l : Launch) (D : va_G) (cI cJ cZ : ClassId) (m0 : Nat) (g1 : Nat) (g2 : Nat) (g3 : Nat) (g4 : Nat) (g5 : Nat) (g6 : Nat) (g7 : Nat) (g8 : Nat) (g9 : Nat) (g10 : Nat) (g11 : Nat) (g12 : Nat) (n : Nat) (q : Nat) (mr : Int32) (my : Int32) (ml : Int32) (p0 : Int32) (fo : Nat → Int32) (hn : n ≤ 9) (h1n : 1 ≤ n) (hq : q ≤ 9) (hqr : (0 ≤ p0.toInt ∧ p0.toInt < n) → (∀ z, z < q → ¬ fo z = p0) → q < 9) : Met l yX7_order wsX7_order rm_c_X7_order_g (pm_ D cI cJ cZ [.ref m0, .int p0] [(m0, .inr (7, [.int (nI n), .ref g1, .ref g2, .ref g3, .int mr, .ref g4, .int my, .ref g5, .int (nI q), .ref g6, .int ml, .ref g7, .ref g8, .ref g9, .ref g10, .ref g11, .ref g12])), (g6, .inl (cI, 9, .inl fo))]) (va_Qi (fun (r : Int32) (u : Int32 × (Nat → Int32)) => (r = nI (q + 1) ∧ ((0 ≤ p0.toInt ∧ p0.toInt < n) ∧ ∀ z, z < q → ¬ fo z = p0) ∧ u.1 = nI (q + 1) ∧ u.2 = upd fo q p0) ∨ (r = -1 ∧ ¬ ((0 ≤ p0.toInt ∧ p0.toInt < n) ∧ ∀ z, z < q → ¬ fo z = p0) ∧ u.1 = nI q ∧ u.2 = fo)) (fun (u : Int32 × (Nat → Int32)) tS => va_P D vwCl [(m0, .inr (7, [.int (nI n), .ref g1, .ref g2, .ref g3, .int mr, .ref g4, .int my, .ref g5, .int u.1, .ref g6, .int ml, .ref g7, .ref g8, .ref g9, .ref g10, .ref g11, .ref g12])), (g6, .inl (cI, 9, .inl u.2))] tS.heap) (aA [m0, g6])) 0 0 (aA [m0, g6]) := by
  refine Met.ofW (cc := cX7_order) (maxL := 2) (ret := (some .int)) (by decide) rfl ?_
  intro p e s m args below meth c s₁ B hml hv
  obtain ⟨rfl, hP, hKN, hD0⟩ := hv
  have hK := hKN.1
  have hx := B.exec
  have hb := B.bytes
  have hr := B.returns
  have hts := atoms_spec (ws := wsX7_order) B.pre
  have hown : s.vm.findClass RX7 = some m.cls := findClass_of_methodNamed B.named
  have hlocks := B.notSynchronized
  have hiX7 : ∀ w ∈ wsX70, w ∈ wsX7_order := by decide +kernel
  have hf33 := hts (.fieldLink RX7 33 "LookBenchModel" "order" "[I") (by decide +kernel)
  have hf64 := hts (.fieldLink RX7 64 "LookBenchModel" "ordered" "I") (by decide +kernel)
  obtain ⟨as, has⟩ : ∃ z : List Nat, z = [m0, g6] := ⟨_, rfl⟩
  have hD := hD0.addr (as := as) (by rw [has]; rfl)
  have hS : va_S (aA as) s.heap s.heap [] := va_S.rf
  have hl := lv_entry ([.ref m0, .int p0]) (n := 2) (Nat.le_of_ble_eq_true rfl)
  rw [lg_entry_eq]
  generalize (lg_sl ([.ref m0, .int p0]) ++ List.replicate (2 - (lg_sl ([.ref m0, .int p0])).length) Slot.unset).toArray = ls at hl ⊢
  have hl : lv_has ls 2 [(0, .ref m0), (1, .int p0)] := hl
  generalize hQ : MQ below _ _ s _ _ _ = Q
  obtain ⟨H, hH⟩ : ∃ z, z = s.heap := ⟨_, rfl⟩
  have hP : va_P D vwCl [(m0, .inr (7, [.int (nI n), .ref g1, .ref g2, .ref g3, .int mr, .ref g4, .int my, .ref g5, .int (nI q), .ref g6, .int ml, .ref g7, .ref g8, .ref g9, .ref g10, .ref g11, .ref g12])), (g6, .inl (cI, 9, .inl fo))] H := by rw [hH]; exact hP
  have hS : va_S (aA as) s.heap H [] := by rw [hH]; exact hS
  refine m_heap hH ?_
  clear hH
  refine lv_aload_n hx hb dX7_order_0 rfl (lv_at hl 0 rfl) ?_
  refine lv_iload_n hx hb dX7_order_1 rfl (lv_at hl 1 rfl) ?_
  refine pu_i (va_runV (As := [.int p0]) (rest := []) ⟨hx, hb, hml, hown, hts⟩ (c_X7_isPart l D cI cJ cZ m0 g1 g2 g3 g4 g5 g6 g7 g8 g9 g10 g11 g12 n mr my (nI q) ml p0 (by first | assumption | omega) (by first | assumption | omega)) (cwV 1 hts gX7_order_X7_isPart rfl rfl rfl (by decide +kernel) ⟨Nat.le_of_ble_eq_true rfl, Nat.le_of_ble_eq_true rfl⟩) ⟨pc_blind, va_recv hK hP (ci := 7) (q0 := 0) rfl rfl, fun U hU hW => ⟨rfl, by rw [hU]; exact hP.sub (ws' := [(m0, .inr (7, [.int (nI n), .ref g1, .ref g2, .ref g3, .int mr, .ref g4, .int my, .ref g5, .int (nI q), .ref g6, .int ml, .ref g7, .ref g8, .ref g9, .ref g10, .ref g11, .ref g12]))]) [0] rfl, hKN.warm hW⟩⟩ rfl rfl hl.1 rfl (lv_room (Nat.le_of_ble_eq_true rfl)) dX7_order_2 ⟨Nat.le_of_ble_eq_true rfl, Nat.le_of_ble_eq_true rfl⟩) hS hP (fun r1 H locs w1r hP hS => ?_)
  have w1 : B01 r1 (0 ≤ p0.toInt ∧ p0.toInt < n) := w1r
  clear w1r
  rcases w1 with ⟨rfl, w1⟩ | ⟨rfl, w1⟩
  · skip
    refine lv_if_eq (tgt := 16) hx hb dX7_order_5 (by decide) (fun c2 => ?_) (fun c2 => ?_)
    · exact absurd c2 (by first | decide | exact nz_lt (by omega) | exact fun h => h (nz_ge (by omega)))
    · skip
      refine lv_aload_n hx hb dX7_order_8 rfl (lv_at hl 0 rfl) ?_
      refine lv_iload_n hx hb dX7_order_9 rfl (lv_at hl 1 rfl) ?_
      refine pu_i (va_runV (As := [.int p0]) (rest := []) ⟨hx, hb, hml, hown, hts⟩ (c_X7_placeOf l D cI cJ cZ m0 g1 g2 g3 g4 g5 g6 g7 g8 g9 g10 g11 g12 q (nI n) mr my ml p0 fo (by first | assumption | omega)) (cwV 1 hts gX7_order_X7_placeOf rfl rfl rfl (by decide +kernel) ⟨Nat.le_of_ble_eq_true rfl, Nat.le_of_ble_eq_true rfl⟩) ⟨pc_blind, va_recv hK hP (ci := 7) (q0 := 0) rfl rfl, fun U hU hW => ⟨rfl, by rw [hU]; exact hP.sub (ws' := [(m0, .inr (7, [.int (nI n), .ref g1, .ref g2, .ref g3, .int mr, .ref g4, .int my, .ref g5, .int (nI q), .ref g6, .int ml, .ref g7, .ref g8, .ref g9, .ref g10, .ref g11, .ref g12])), (g6, .inl (cI, 9, .inl fo))]) [0, 1] rfl, hKN.warm hW⟩⟩ rfl rfl hl.1 rfl (lv_room (Nat.le_of_ble_eq_true rfl)) dX7_order_10 ⟨Nat.le_of_ble_eq_true rfl, Nat.le_of_ble_eq_true rfl⟩) hS hP (fun r3 H locs w3r hP hS => ?_)
      have w3 : (r3 = -1 ∧ ∀ z, z < q → ¬ fo z = p0) ∨ (∃ z, z < q ∧ r3 = nI z ∧ fo z = p0) := w3r
      clear w3r
      rcases w3 with ⟨rfl, w3⟩ | ⟨z9, hz9, rfl, w3⟩
      · skip
        refine lv_if_lt (tgt := 18) hx hb dX7_order_13 (by decide) (fun c4 => ?_) (fun c4 => ?_)
        · skip
          have hq9 := hqr w1 w3
          refine lv_aload_n hx hb dX7_order_18 rfl (lv_at hl 0 rfl) ?_
          refine va_get (D := D) (ci := 7) (v := .ref g6) (C := RX7) (T := TX7) (N := 17) hx hb hts hiX7 hown hK hP 0 rfl rfl 9 (by decide) hf33 (fun _ h9 => h9) rfl dX7_order_19 ?_
          refine lv_aload_n hx hb dX7_order_22 rfl (lv_at hl 0 rfl) ?_
          refine va_get (D := D) (ci := 7) (v := .int (nI q)) (C := RX7) (T := TX7) (N := 17) hx hb hts hiX7 hown hK hP 0 rfl rfl 8 (by decide) hf64 (fun _ h9 => h9) rfl dX7_order_23 ?_
          refine lv_iload_n hx hb dX7_order_26 rfl (lv_at hl 1 rfl) ?_
          refine va_iast hx hb hK hP hD hS 1 0 rfl rfl (i := nI q) (vp_in_nI (by omega) (by omega)) dX7_order_27 (fun H locs hP hD hS => ?_)
          have hP : va_P D vwCl [(m0, .inr (7, [.int (nI n), .ref g1, .ref g2, .ref g3, .int mr, .ref g4, .int my, .ref g5, .int (nI q), .ref g6, .int ml, .ref g7, .ref g8, .ref g9, .ref g10, .ref g11, .ref g12])), (g6, .inl (cI, 9, .inl (upd fo (nI q).toNatClampNeg p0)))] H := hP
          have hD : va_D (aA as) [(m0, .inr (7, [.int (nI n), .ref g1, .ref g2, .ref g3, .int mr, .ref g4, .int my, .ref g5, .int (nI q), .ref g6, .int ml, .ref g7, .ref g8, .ref g9, .ref g10, .ref g11, .ref g12])), (g6, .inl (cI, 9, .inl (upd fo (nI q).toNatClampNeg p0)))] := hD
          rw [nI_clamp (n := q) (by omega)] at hP hD
          refine lv_aload_n hx hb dX7_order_28 rfl (lv_at hl 0 rfl) ?_
          refine lv_dup hx hb dX7_order_29 rfl ?_
          refine va_get (D := D) (ci := 7) (v := .int (nI q)) (C := RX7) (T := TX7) (N := 17) hx hb hts hiX7 hown hK hP 0 rfl rfl 8 (by decide) hf64 (fun _ h9 => h9) rfl dX7_order_30 ?_
          refine lv_iconst (v := nI 1) hx hb dX7_order_33 (by decide) ?_
          refine lv_iadd hx hb dX7_order_34 ?_
          refine cn_i (y := nI (q + 1)) (nI_add q 1) ?_
          refine va_put (D := D) (ci := 7) (v := .int (nI (q + 1))) (ty := tyX7 8) (C := RX7) (T := TX7) (N := 17) hx hb hts hiX7 tyX7 tyX7_ok nmX7 hown hK hP hD hS 0 rfl rfl 8 (by decide) hf64 (fun _ h9 => h9) rfl (by decide +kernel) rfl rfl (Nat.le_of_ble_eq_true rfl) dX7_order_35 (fun H locs hP hD hS => ?_)
          have hP : va_P D vwCl [(m0, .inr (7, [.int (nI n), .ref g1, .ref g2, .ref g3, .int mr, .ref g4, .int my, .ref g5, .int (nI (q + 1)), .ref g6, .int ml, .ref g7, .ref g8, .ref g9, .ref g10, .ref g11, .ref g12])), (g6, .inl (cI, 9, .inl (upd fo q p0)))] H := hP
          have hD : va_D (aA as) [(m0, .inr (7, [.int (nI n), .ref g1, .ref g2, .ref g3, .int mr, .ref g4, .int my, .ref g5, .int (nI (q + 1)), .ref g6, .int ml, .ref g7, .ref g8, .ref g9, .ref g10, .ref g11, .ref g12])), (g6, .inl (cI, 9, .inl (upd fo q p0)))] := hD
          refine lv_aload_n hx hb dX7_order_38 rfl (lv_at hl 0 rfl) ?_
          refine va_get (D := D) (ci := 7) (v := .int (nI (q + 1))) (C := RX7) (T := TX7) (N := 17) hx hb hts hiX7 hown hK hP 0 rfl rfl 8 (by decide) hf64 (fun _ h9 => h9) rfl dX7_order_39 ?_
          rw [← hQ]
          exact W.iret (v := nI (q + 1)) hx hb hr (fun tS htS hWS => ⟨⟨(nI (q + 1)), (nI (q + 1), upd fo q p0), rfl, Or.inl ⟨rfl, ⟨w1, w3⟩, rfl, rfl⟩, m_at htS hP⟩, by rw [← has]; exact hS.F htS⟩) (by rw [← has]; exact hS.2.2) dX7_order_42
        · exact absurd c4 (by first | decide | exact nz_lt (by omega) | exact fun h => h (nz_ge (by omega)))
      · skip
        refine lv_if_lt (tgt := 18) hx hb dX7_order_13 (by decide) (fun c5 => ?_) (fun c5 => ?_)
        · exact absurd c5 (by first | decide | exact nz_lt (by omega) | exact fun h => h (nz_ge (by omega)))
        · skip
          refine lv_iconst (v := (-1 : Int32)) hx hb dX7_order_16 (by decide) ?_
          rw [← hQ]
          exact W.iret (v := (-1 : Int32)) hx hb hr (fun tS htS hWS => ⟨⟨(-1 : Int32), (nI q, fo), rfl, Or.inr ⟨rfl, fun h => by first | exact w1 h.1 | exact h.2 z9 hz9 w3, rfl, rfl⟩, m_at htS hP⟩, by rw [← has]; exact hS.F htS⟩) (by rw [← has]; exact hS.2.2) dX7_order_17
  · skip
    refine lv_if_eq (tgt := 16) hx hb dX7_order_5 (by decide) (fun c6 => ?_) (fun c6 => ?_)
    · skip
      refine lv_iconst (v := (-1 : Int32)) hx hb dX7_order_16 (by decide) ?_
      rw [← hQ]
      exact W.iret (v := (-1 : Int32)) hx hb hr (fun tS htS hWS => ⟨⟨(-1 : Int32), (nI q, fo), rfl, Or.inr ⟨rfl, fun h => by first | exact w1 h.1 | exact h.2 z9 hz9 w3, rfl, rfl⟩, m_at htS hP⟩, by rw [← has]; exact hS.F htS⟩) (by rw [← has]; exact hS.2.2) dX7_order_17
    · exact absurd c6 (by first | decide | exact nz_lt (by omega) | exact fun h => h (nz_ge (by omega)))
