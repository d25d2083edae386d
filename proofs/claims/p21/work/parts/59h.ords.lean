def rm_c_X2_fillByRatios_s : Room := { frames := 1, cells := 0, slots := 0, locals := 26 }
set_option maxHeartbeats 400000 in
set_option maxRecDepth 100000 in
theorem c_X2_fillByRatios_s (l : Launch) (D : va_G) (cI cJ cZ : ClassId) (h0 : Nat) (r1 : Nat) (h4 : Nat) (a1 : Nat) (a2 : Nat) (a3 : Nat) (n : Nat) (qc : Int32) (sn : Int32) (sg : Int32) (sd : Int32) (fr : Nat → Int32) (fg : Nat → Int32) (fb : Nat → Int32) (fp : Nat → Int32) (Gn : Nat → Nat) (Bn : Nat → Nat) (Pn : Nat → Nat) (hn : n ≤ 9) (hvb : VB fg fb fp Gn Bn Pn) : Met l yX2_fillByRatios wsX2_fillByRatios rm_c_X2_fillByRatios_s (pm_ D cI cJ cZ [.ref h0, .ref h4, .int sd] [(h0, .inr (2, [.ref r1, .int qc])), (r1, .inl (cI, 9, .inl fr)), (h4, .inr (4, [.ref a1, .ref a2, .ref a3, .int (nI n), .int sn, .int sg])), (a1, .inl (cI, 9, .inl fg)), (a2, .inl (cI, 9, .inl fb)), (a3, .inl (cI, 9, .inl fp))]) (va_Qv (fun (u : (Nat → Int32)) => DQ u n n ∧ SRT Gn Bn Pn sd u n) (fun (u : (Nat → Int32)) tS => va_P D vwCl [(h0, .inr (2, [.ref r1, .int (nI n)])), (r1, .inl (cI, 9, .inl u)), (h4, .inr (4, [.ref a1, .ref a2, .ref a3, .int (nI n), .int sn, .int sg])), (a1, .inl (cI, 9, .inl fg)), (a2, .inl (cI, 9, .inl fb)), (a3, .inl (cI, 9, .inl fp))] tS.heap) (aA [h0, r1, h4, a1, a2, a3])) 0 0 (aA [h0, r1, h4, a1, a2, a3]) := by
  refine Met.ofW (cc := cX2_fillByRatios) (maxL := 5) (ret := none) (by decide) rfl ?_
  intro p e s m args below meth c s₁ B hml hv
  obtain ⟨rfl, hP, hKN, hD0⟩ := hv
  have hK := hKN.1
  have hx := B.exec
  have hb := B.bytes
  have hr := B.returns
  have hts := atoms_spec (ws := wsX2_fillByRatios) B.pre
  have hown : s.vm.findClass RX2 = some m.cls := findClass_of_methodNamed B.named
  have hlocks := B.notSynchronized
  have hiX2 : ∀ w ∈ wsX20, w ∈ wsX2_fillByRatios := by decide +kernel
  have hiX4 : ∀ w ∈ wsX40, w ∈ wsX2_fillByRatios := by decide +kernel
  have hf9 := hts (.fieldLink RX2 9 "LookBench$Queue" "row" "[I") (by decide +kernel)
  have hf15 := hts (.fieldLink RX2 15 "LookBench$Queue" "count" "I") (by decide +kernel)
  have hf19 := va_Nw.use (A := [.ref h0, .ref h4, .int sd].toArray) rfl (hKN.2 (.fieldLinkNest RX2 19 RX4 "count" "I" RX6) (by decide +kernel))
  obtain ⟨as, has⟩ : ∃ z : List Nat, z = [h0, r1, h4, a1, a2, a3] := ⟨_, rfl⟩
  have hD := hD0.addr (as := as) (by rw [has]; rfl)
  have hS : va_S (aA as) s.heap s.heap [] := va_S.rf
  have hl := lv_entry ([.ref h0, .ref h4, .int sd]) (n := 5) (Nat.le_of_ble_eq_true rfl)
  rw [lg_entry_eq]
  generalize (lg_sl ([.ref h0, .ref h4, .int sd]) ++ List.replicate (5 - (lg_sl ([.ref h0, .ref h4, .int sd])).length) Slot.unset).toArray = ls at hl ⊢
  have hl : lv_has ls 5 [(0, .ref h0), (1, .ref h4), (2, .int sd)] := hl
  generalize hQ : MQ below _ _ s _ _ _ = Q
  obtain ⟨H, hH⟩ : ∃ z, z = s.heap := ⟨_, rfl⟩
  have hP : va_P D vwCl [(h0, .inr (2, [.ref r1, .int qc])), (r1, .inl (cI, 9, .inl fr)), (h4, .inr (4, [.ref a1, .ref a2, .ref a3, .int (nI n), .int sn, .int sg])), (a1, .inl (cI, 9, .inl fg)), (a2, .inl (cI, 9, .inl fb)), (a3, .inl (cI, 9, .inl fp))] H := by rw [hH]; exact hP
  have hS : va_S (aA as) s.heap H [] := by rw [hH]; exact hS
  refine m_heap hH ?_
  clear hH
  refine lv_iconst (v := nI 0) hx hb dX2_fillByRatios_0 (by decide) ?_
  refine lv_istore_n (lv' := [(3, .int (nI 0)), (0, .ref h0), (1, .ref h4), (2, .int sd)]) hx hb dX2_fillByRatios_1 rfl hl (by decide) rfl (fun ls hl => ?_)
  have loop1 : ∀ (fu : Nat) (k : Nat) (ur : Nat → Int32) (H : Heap) (locs : List Loc) (ls : Array Slot), (k ≤ n ∧ n < k + fu) → (DQ ur k k) → (SRT Gn Bn Pn sd ur k) → va_P D vwCl [(h0, .inr (2, [.ref r1, .int qc])), (r1, .inl (cI, 9, .inl ur)), (h4, .inr (4, [.ref a1, .ref a2, .ref a3, .int (nI n), .int sn, .int sg])), (a1, .inl (cI, 9, .inl fg)), (a2, .inl (cI, 9, .inl fb)), (a3, .inl (cI, 9, .inl fp))] H → va_D (aA as) [(h0, .inr (2, [.ref r1, .int qc])), (r1, .inl (cI, 9, .inl ur)), (h4, .inr (4, [.ref a1, .ref a2, .ref a3, .int (nI n), .int sn, .int sg])), (a1, .inl (cI, 9, .inl fg)), (a2, .inl (cI, 9, .inl fb)), (a3, .inl (cI, 9, .inl fp))] → va_S (aA as) s.heap H locs → lv_has ls 5 [(3, .int (nI k)), (0, .ref h0), (1, .ref h4), (2, .int sd)] → W p l e (headSpec wsX2_fillByRatios rm_c_X2_fillByRatios_s).room s m ([.ref h0, .ref h4, .int sd] : List Value).toArray below meth c H locs 0 0 Q (F0 m 2 ls []) := by
    intro fu
    induction fu with
    | zero => intro k ur H locs ls hk hi hs; exact absurd hk (by omega)
    | succ fu ih1 =>
      intro k ur H locs ls hk hi hs hP hD hS hl
      refine lv_iload_n hx hb dX2_fillByRatios_2 rfl (lv_at hl 0 rfl) ?_
      refine lv_aload_n hx hb dX2_fillByRatios_3 rfl (lv_at hl 2 rfl) ?_
      refine va_getN (D := D) (ci := 4) (v := .int (nI n)) (C := RX4) (T := TX4) (N := 6) hx hb hts hiX4 hown hK hP 2 rfl rfl 3 (by decide) hf19 (fun _ h9 => h9) rfl dX2_fillByRatios_4 ?_
      refine lv_icmp_ge (tgt := 72) hx hb dX2_fillByRatios_7 (by decide) (fun c2 => ?_) (fun c2 => ?_)
      · skip
        have d2 := c2
        rw [nI_leI (by omega) (by omega)] at d2
        refine lv_aload_n hx hb dX2_fillByRatios_72 rfl (lv_at hl 1 rfl) ?_
        refine lv_aload_n hx hb dX2_fillByRatios_73 rfl (lv_at hl 2 rfl) ?_
        refine va_getN (D := D) (ci := 4) (v := .int (nI n)) (C := RX4) (T := TX4) (N := 6) hx hb hts hiX4 hown hK hP 2 rfl rfl 3 (by decide) hf19 (fun _ h9 => h9) rfl dX2_fillByRatios_74 ?_
        refine va_put (D := D) (ci := 2) (v := .int (nI n)) (ty := tyX2 1) (C := RX2) (T := TX2) (N := 2) hx hb hts hiX2 tyX2 tyX2_ok nmX2 hown hK hP hD hS 0 rfl rfl 1 (by decide) hf15 (fun _ h9 => h9) rfl (by decide +kernel) rfl rfl (Nat.le_of_ble_eq_true rfl) dX2_fillByRatios_77 (fun H locs hP hD hS => ?_)
        have hP : va_P D vwCl [(h0, .inr (2, [.ref r1, .int (nI n)])), (r1, .inl (cI, 9, .inl ur)), (h4, .inr (4, [.ref a1, .ref a2, .ref a3, .int (nI n), .int sn, .int sg])), (a1, .inl (cI, 9, .inl fg)), (a2, .inl (cI, 9, .inl fb)), (a3, .inl (cI, 9, .inl fp))] H := hP
        have hD : va_D (aA as) [(h0, .inr (2, [.ref r1, .int (nI n)])), (r1, .inl (cI, 9, .inl ur)), (h4, .inr (4, [.ref a1, .ref a2, .ref a3, .int (nI n), .int sn, .int sg])), (a1, .inl (cI, 9, .inl fg)), (a2, .inl (cI, 9, .inl fb)), (a3, .inl (cI, 9, .inl fp))] := hD
        rw [← hQ]
        exact W.vret hx hb hr (fun tS htS hWS => ⟨⟨(ur), rfl, by have e9 : k = n := (by omega); subst e9; exact ⟨hi, hs⟩, m_at htS hP⟩, by rw [← has]; exact hS.F htS⟩) (by rw [← has]; exact hS.2.2) dX2_fillByRatios_80
      · skip
        have d2 := c2
        rw [nI_leI (by omega) (by omega)] at d2
        refine lv_iload_n hx hb dX2_fillByRatios_10 rfl (lv_at hl 0 rfl) ?_
        refine lv_istore (lv' := [(4, .int (nI k)), (3, .int (nI k)), (0, .ref h0), (1, .ref h4), (2, .int sd)]) hx hb dX2_fillByRatios_11 hl (by decide) rfl (fun ls hl => ?_)
        have loop3 : ∀ (fu : Nat) (t : Nat) (uq : Nat → Int32) (H : Heap) (locs : List Loc) (ls : Array Slot), (t < fu ∧ t ≤ k) → (DH uq k t) → (SHR Gn Bn Pn sd uq k t) → va_P D vwCl [(h0, .inr (2, [.ref r1, .int qc])), (r1, .inl (cI, 9, .inl uq)), (h4, .inr (4, [.ref a1, .ref a2, .ref a3, .int (nI n), .int sn, .int sg])), (a1, .inl (cI, 9, .inl fg)), (a2, .inl (cI, 9, .inl fb)), (a3, .inl (cI, 9, .inl fp))] H → va_D (aA as) [(h0, .inr (2, [.ref r1, .int qc])), (r1, .inl (cI, 9, .inl uq)), (h4, .inr (4, [.ref a1, .ref a2, .ref a3, .int (nI n), .int sn, .int sg])), (a1, .inl (cI, 9, .inl fg)), (a2, .inl (cI, 9, .inl fb)), (a3, .inl (cI, 9, .inl fp))] → va_S (aA as) s.heap H locs → lv_has ls 5 [(4, .int (nI t)), (3, .int (nI k)), (0, .ref h0), (1, .ref h4), (2, .int sd)] → W p l e (headSpec wsX2_fillByRatios rm_c_X2_fillByRatios_s).room s m ([.ref h0, .ref h4, .int sd] : List Value).toArray below meth c H locs 0 0 Q (F0 m 13 ls []) := by
          intro fu
          induction fu with
          | zero => intro t uq H locs ls ht hi2 hs2; exact absurd ht (by omega)
          | succ fu ih3 =>
            intro t uq H locs ls ht hi2 hs2 hP hD hS hl
            refine lv_iload hx hb dX2_fillByRatios_13 (lv_at hl 0 rfl) ?_
            refine lv_if_le (tgt := 58) hx hb dX2_fillByRatios_15 (by decide) (fun c4 => ?_) (fun c4 => ?_)
            · skip
              have d4 := c4
              rw [nz_le (by omega)] at d4
              refine lv_aload_n hx hb dX2_fillByRatios_58 rfl (lv_at hl 2 rfl) ?_
              refine va_get (D := D) (ci := 2) (v := .ref r1) (C := RX2) (T := TX2) (N := 2) hx hb hts hiX2 hown hK hP 0 rfl rfl 0 (by decide) hf9 (fun _ h9 => h9) rfl dX2_fillByRatios_59 ?_
              refine lv_iload hx hb dX2_fillByRatios_62 (lv_at hl 0 rfl) ?_
              refine lv_iload_n hx hb dX2_fillByRatios_64 rfl (lv_at hl 1 rfl) ?_
              refine va_iast hx hb hK hP hD hS 1 0 rfl rfl (i := nI t) (vp_in_nI (by omega) (by omega)) dX2_fillByRatios_65 (fun H locs hP hD hS => ?_)
              have hP : va_P D vwCl [(h0, .inr (2, [.ref r1, .int qc])), (r1, .inl (cI, 9, .inl (upd uq (nI t).toNatClampNeg (nI k)))), (h4, .inr (4, [.ref a1, .ref a2, .ref a3, .int (nI n), .int sn, .int sg])), (a1, .inl (cI, 9, .inl fg)), (a2, .inl (cI, 9, .inl fb)), (a3, .inl (cI, 9, .inl fp))] H := hP
              have hD : va_D (aA as) [(h0, .inr (2, [.ref r1, .int qc])), (r1, .inl (cI, 9, .inl (upd uq (nI t).toNatClampNeg (nI k)))), (h4, .inr (4, [.ref a1, .ref a2, .ref a3, .int (nI n), .int sn, .int sg])), (a1, .inl (cI, 9, .inl fg)), (a2, .inl (cI, 9, .inl fb)), (a3, .inl (cI, 9, .inl fp))] := hD
              rw [nI_clamp (n := t) (by omega)] at hP hD
              refine lv_iinc (v := nI (k + 1)) (lv' := [(3, .int (nI (k + 1))), (4, .int (nI t)), (0, .ref h0), (1, .ref h4), (2, .int sd)]) hx hb dX2_fillByRatios_66 hl (k := 1) rfl (nI_1 k) (by decide) rfl (fun ls hl => ?_)
              refine lv_goto (tgt := 2) hx hb dX2_fillByRatios_69 (by decide) ?_
              exact ih1 (k + 1) (upd uq t (nI k)) _ _ _ (by omega) (hi2.fin (by omega)) (by first | exact SHR.fin hvb (by omega) hs2 (by omega) (Or.inl (by omega)) | exact SHR.fin hvb (by omega) hs2 (by omega) (Or.inr ⟨y9, hy9, ey9, by assumption⟩)) hP hD hS (lv_sub hl [0, 2, 3, 4] rfl)
            · skip
              have d4 := c4
              rw [nz_le (by omega)] at d4
              refine lv_aload_n hx hb dX2_fillByRatios_18 rfl (lv_at hl 3 rfl) ?_
              refine lv_iload_n hx hb dX2_fillByRatios_19 rfl (lv_at hl 4 rfl) ?_
              refine lv_aload_n hx hb dX2_fillByRatios_20 rfl (lv_at hl 2 rfl) ?_
              refine va_get (D := D) (ci := 2) (v := .ref r1) (C := RX2) (T := TX2) (N := 2) hx hb hts hiX2 hown hK hP 0 rfl rfl 0 (by decide) hf9 (fun _ h9 => h9) rfl dX2_fillByRatios_21 ?_
              refine lv_iload hx hb dX2_fillByRatios_24 (lv_at hl 0 rfl) ?_
              refine lv_iconst (v := nI 1) hx hb dX2_fillByRatios_26 (by decide) ?_
              refine lv_isub hx hb dX2_fillByRatios_27 ?_
              refine cn_i (y := nI (t - 1)) (pk_sub (a := t) (b := 1) (by omega)) ?_
              obtain ⟨y9, hy9, ey9⟩ := hi2.1 (t - 1) (by omega) (by omega)
              refine va_iald hx hb hK hP 1 0 rfl rfl (i := nI (t - 1)) (vp_in_nI (by omega) (by omega)) dX2_fillByRatios_28 ?_
              refine cn_i (y := nI y9) ((congrArg uq (nI_clamp (by omega))).trans ey9) ?_
              refine lv_iload_n hx hb dX2_fillByRatios_29 rfl (lv_at hl 1 rfl) ?_
              refine pu_i (va_runS (As := [.ref h4, .int sd, .int (nI y9), .int (nI k)]) (rest := []) ⟨hx, hb, hml, hown, hts⟩ (c_X2_isDearer l D cI cJ cZ h4 a1 a2 a3 y9 k (nI n) sn sg sd fg fb fp (by first | assumption | omega) (by first | assumption | omega)) (va_cwS 4 hts gX2_fillByRatios_X2_isDearer rfl rfl rfl (by decide +kernel) ⟨Nat.le_of_ble_eq_true rfl, Nat.le_of_ble_eq_true rfl⟩) ⟨pc_blind, fun U hU hW => ⟨rfl, by rw [hU]; exact hP.sub (ws' := [(h4, .inr (4, [.ref a1, .ref a2, .ref a3, .int (nI n), .int sn, .int sg])), (a1, .inl (cI, 9, .inl fg)), (a2, .inl (cI, 9, .inl fb)), (a3, .inl (cI, 9, .inl fp))]) [2, 3, 4, 5] rfl, hKN.warm hW⟩⟩ rfl rfl hl.1 rfl (lv_room (Nat.le_of_ble_eq_true rfl)) dX2_fillByRatios_30 ⟨Nat.le_of_ble_eq_true rfl, Nat.le_of_ble_eq_true rfl⟩) hS hP (fun r5 H locs w5r hP hS => ?_)
              have w5 : B01 r5 (dear fg fb fp sd y9 k) := w5r
              clear w5r
              rcases w5 with ⟨rfl, w5⟩ | ⟨rfl, w5⟩
              · skip
                refine lv_if_eq (tgt := 58) hx hb dX2_fillByRatios_33 (by decide) (fun c6 => ?_) (fun c6 => ?_)
                · exact absurd c6 (by first | decide | exact nz_lt (by omega) | exact fun h => h (nz_ge (by omega)))
                · skip
                  refine lv_aload_n hx hb dX2_fillByRatios_36 rfl (lv_at hl 2 rfl) ?_
                  refine va_get (D := D) (ci := 2) (v := .ref r1) (C := RX2) (T := TX2) (N := 2) hx hb hts hiX2 hown hK hP 0 rfl rfl 0 (by decide) hf9 (fun _ h9 => h9) rfl dX2_fillByRatios_37 ?_
                  refine lv_iload hx hb dX2_fillByRatios_40 (lv_at hl 0 rfl) ?_
                  refine lv_aload_n hx hb dX2_fillByRatios_42 rfl (lv_at hl 2 rfl) ?_
                  refine va_get (D := D) (ci := 2) (v := .ref r1) (C := RX2) (T := TX2) (N := 2) hx hb hts hiX2 hown hK hP 0 rfl rfl 0 (by decide) hf9 (fun _ h9 => h9) rfl dX2_fillByRatios_43 ?_
                  refine lv_iload hx hb dX2_fillByRatios_46 (lv_at hl 0 rfl) ?_
                  refine lv_iconst (v := nI 1) hx hb dX2_fillByRatios_48 (by decide) ?_
                  refine lv_isub hx hb dX2_fillByRatios_49 ?_
                  refine cn_i (y := nI (t - 1)) (pk_sub (a := t) (b := 1) (by omega)) ?_
                  refine va_iald hx hb hK hP 1 0 rfl rfl (i := nI (t - 1)) (vp_in_nI (by omega) (by omega)) dX2_fillByRatios_50 ?_
                  refine cn_i (y := uq (t - 1)) (congrArg uq (nI_clamp (by omega))) ?_
                  refine va_iast hx hb hK hP hD hS 1 0 rfl rfl (i := nI t) (vp_in_nI (by omega) (by omega)) dX2_fillByRatios_51 (fun H locs hP hD hS => ?_)
                  have hP : va_P D vwCl [(h0, .inr (2, [.ref r1, .int qc])), (r1, .inl (cI, 9, .inl (upd uq (nI t).toNatClampNeg (uq (t - 1))))), (h4, .inr (4, [.ref a1, .ref a2, .ref a3, .int (nI n), .int sn, .int sg])), (a1, .inl (cI, 9, .inl fg)), (a2, .inl (cI, 9, .inl fb)), (a3, .inl (cI, 9, .inl fp))] H := hP
                  have hD : va_D (aA as) [(h0, .inr (2, [.ref r1, .int qc])), (r1, .inl (cI, 9, .inl (upd uq (nI t).toNatClampNeg (uq (t - 1))))), (h4, .inr (4, [.ref a1, .ref a2, .ref a3, .int (nI n), .int sn, .int sg])), (a1, .inl (cI, 9, .inl fg)), (a2, .inl (cI, 9, .inl fb)), (a3, .inl (cI, 9, .inl fp))] := hD
                  rw [nI_clamp (n := t) (by omega)] at hP hD
                  refine lv_iinc (v := nI (t - 1)) (lv' := [(4, .int (nI (t - 1))), (3, .int (nI k)), (0, .ref h0), (1, .ref h4), (2, .int sd)]) hx hb dX2_fillByRatios_52 hl (k := 0) rfl (sb_m1 (by omega)) (by decide) rfl (fun ls hl => ?_)
                  refine lv_goto (tgt := 13) hx hb dX2_fillByRatios_55 (by decide) ?_
                  exact ih3 (t - 1) (upd uq t (uq (t - 1))) _ _ _ (by omega) (hi2.step (by omega) (by omega)) (hs2.step (by omega) (by omega) (by omega) ey9 (dear_bfr hvb (by omega) (by omega) (by assumption))) hP hD hS (lv_sub hl [0, 1, 2, 3, 4] rfl)
              · skip
                refine lv_if_eq (tgt := 58) hx hb dX2_fillByRatios_33 (by decide) (fun c7 => ?_) (fun c7 => ?_)
                · skip
                  refine lv_aload_n hx hb dX2_fillByRatios_58 rfl (lv_at hl 2 rfl) ?_
                  refine va_get (D := D) (ci := 2) (v := .ref r1) (C := RX2) (T := TX2) (N := 2) hx hb hts hiX2 hown hK hP 0 rfl rfl 0 (by decide) hf9 (fun _ h9 => h9) rfl dX2_fillByRatios_59 ?_
                  refine lv_iload hx hb dX2_fillByRatios_62 (lv_at hl 0 rfl) ?_
                  refine lv_iload_n hx hb dX2_fillByRatios_64 rfl (lv_at hl 1 rfl) ?_
                  refine va_iast hx hb hK hP hD hS 1 0 rfl rfl (i := nI t) (vp_in_nI (by omega) (by omega)) dX2_fillByRatios_65 (fun H locs hP hD hS => ?_)
                  have hP : va_P D vwCl [(h0, .inr (2, [.ref r1, .int qc])), (r1, .inl (cI, 9, .inl (upd uq (nI t).toNatClampNeg (nI k)))), (h4, .inr (4, [.ref a1, .ref a2, .ref a3, .int (nI n), .int sn, .int sg])), (a1, .inl (cI, 9, .inl fg)), (a2, .inl (cI, 9, .inl fb)), (a3, .inl (cI, 9, .inl fp))] H := hP
                  have hD : va_D (aA as) [(h0, .inr (2, [.ref r1, .int qc])), (r1, .inl (cI, 9, .inl (upd uq (nI t).toNatClampNeg (nI k)))), (h4, .inr (4, [.ref a1, .ref a2, .ref a3, .int (nI n), .int sn, .int sg])), (a1, .inl (cI, 9, .inl fg)), (a2, .inl (cI, 9, .inl fb)), (a3, .inl (cI, 9, .inl fp))] := hD
                  rw [nI_clamp (n := t) (by omega)] at hP hD
                  refine lv_iinc (v := nI (k + 1)) (lv' := [(3, .int (nI (k + 1))), (4, .int (nI t)), (0, .ref h0), (1, .ref h4), (2, .int sd)]) hx hb dX2_fillByRatios_66 hl (k := 1) rfl (nI_1 k) (by decide) rfl (fun ls hl => ?_)
                  refine lv_goto (tgt := 2) hx hb dX2_fillByRatios_69 (by decide) ?_
                  exact ih1 (k + 1) (upd uq t (nI k)) _ _ _ (by omega) (hi2.fin (by omega)) (by first | exact SHR.fin hvb (by omega) hs2 (by omega) (Or.inl (by omega)) | exact SHR.fin hvb (by omega) hs2 (by omega) (Or.inr ⟨y9, hy9, ey9, by assumption⟩)) hP hD hS (lv_sub hl [0, 2, 3, 4] rfl)
                · exact absurd c7 (by first | decide | exact nz_lt (by omega) | exact fun h => h (nz_ge (by omega)))
        exact loop3 (k + 1) k ur _ _ _ (by omega) (DH.of hi) (SHR.of hs) hP hD hS (lv_sub hl [0, 1, 2, 3, 4] rfl)
  exact loop1 (n + 1) 0 fr _ _ _ (by omega) (⟨fun z hz => absurd hz (by omega), fun i j hi => absurd hi (by omega)⟩) (fun i j x y _ hj => absurd hj (by omega)) hP hD hS (lv_sub hl [0, 1, 2, 3] rfl)
def rm_c_X6_ratios_s : Room := { frames := 2, cells := 0, slots := 0, locals := 50 }
set_option maxHeartbeats 400000 in
set_option maxRecDepth 100000 in
theorem c_X6_ratios_s (l : Launch) (D : va_G) (cI cJ cZ : ClassId) (x0 : Nat) (h4 : Nat) (h3 : Nat) (h2 : Nat) (h1 : Nat) (hB : Nat) (h5 : Nat) (a1 : Nat) (a2 : Nat) (a3 : Nat) (r1 : Nat) (n : Nat) (sn : Int32) (sg : Int32) (qc : Int32) (sd : Int32) (em : Int32) (fr : Nat → Int32) (fg : Nat → Int32) (fb : Nat → Int32) (fp : Nat → Int32) (Gn : Nat → Nat) (Bn : Nat → Nat) (Pn : Nat → Nat) (hn : n ≤ 9) (hvb : VB fg fb fp Gn Bn Pn) : Met l yX6_ratios wsX6_ratios rm_c_X6_ratios_s (pm_ D cI cJ cZ [.ref x0, .int sd, .int em] [(x0, .inr (6, [.ref h4, .ref h3, .ref h2, .ref h1, .ref hB, .ref h5])), (h4, .inr (4, [.ref a1, .ref a2, .ref a3, .int (nI n), .int sn, .int sg])), (a1, .inl (cI, 9, .inl fg)), (a2, .inl (cI, 9, .inl fb)), (a3, .inl (cI, 9, .inl fp)), (h2, .inr (2, [.ref r1, .int qc])), (r1, .inl (cI, 9, .inl fr))]) (va_Qi (fun (r : Int32) (u : Int32 × (Nat → Int32)) => (em = 0 ∧ r = nI n ∧ u.1 = nI n ∧ DQ u.2 n n ∧ SRT Gn Bn Pn sd u.2 n) ∨ (¬ em = 0 ∧ r = nI 0 ∧ u.1 = nI 0 ∧ u.2 = fr)) (fun (u : Int32 × (Nat → Int32)) tS => va_P D vwCl [(x0, .inr (6, [.ref h4, .ref h3, .ref h2, .ref h1, .ref hB, .ref h5])), (h4, .inr (4, [.ref a1, .ref a2, .ref a3, .int (nI n), .int sn, .int sg])), (a1, .inl (cI, 9, .inl fg)), (a2, .inl (cI, 9, .inl fb)), (a3, .inl (cI, 9, .inl fp)), (h2, .inr (2, [.ref r1, .int u.1])), (r1, .inl (cI, 9, .inl u.2))] tS.heap) (aA [x0, h4, a1, a2, a3, h2, r1])) 0 0 (aA [x0, h4, a1, a2, a3, h2, r1]) := by
  refine Met.ofW (cc := cX6_ratios) (maxL := 3) (ret := (some .int)) (by decide) rfl ?_
  intro p e s m args below meth c s₁ B hml hv
  obtain ⟨rfl, hP, hKN, hD0⟩ := hv
  have hK := hKN.1
  have hx := B.exec
  have hb := B.bytes
  have hr := B.returns
  have hts := atoms_spec (ws := wsX6_ratios) B.pre
  have hown : s.vm.findClass RX6 = some m.cls := findClass_of_methodNamed B.named
  have hlocks := B.notSynchronized
  have hiX2 : ∀ w ∈ wsX20, w ∈ wsX6_ratios := by decide +kernel
  have hiX6 : ∀ w ∈ wsX60, w ∈ wsX6_ratios := by decide +kernel
  have hf10 := hts (.fieldLink RX6 10 "LookBench" "shelf" "LLookBench$Shelf;") (by decide +kernel)
  have hf26 := hts (.fieldLink RX6 26 "LookBench" "queue" "LLookBench$Queue;") (by decide +kernel)
  have hf196 := va_Nw.use (A := [.ref x0, .int sd, .int em].toArray) rfl (hKN.2 (.fieldLinkNest RX6 196 RX2 "count" "I" RX6) (by decide +kernel))
  obtain ⟨as, has⟩ : ∃ z : List Nat, z = [x0, h4, a1, a2, a3, h2, r1] := ⟨_, rfl⟩
  have hD := hD0.addr (as := as) (by rw [has]; rfl)
  have hS : va_S (aA as) s.heap s.heap [] := va_S.rf
  have hl := lv_entry ([.ref x0, .int sd, .int em]) (n := 3) (Nat.le_of_ble_eq_true rfl)
  rw [lg_entry_eq]
  generalize (lg_sl ([.ref x0, .int sd, .int em]) ++ List.replicate (3 - (lg_sl ([.ref x0, .int sd, .int em])).length) Slot.unset).toArray = ls at hl ⊢
  have hl : lv_has ls 3 [(0, .ref x0), (1, .int sd), (2, .int em)] := hl
  generalize hQ : MQ below _ _ s _ _ _ = Q
  obtain ⟨H, hH⟩ : ∃ z, z = s.heap := ⟨_, rfl⟩
  have hP : va_P D vwCl [(x0, .inr (6, [.ref h4, .ref h3, .ref h2, .ref h1, .ref hB, .ref h5])), (h4, .inr (4, [.ref a1, .ref a2, .ref a3, .int (nI n), .int sn, .int sg])), (a1, .inl (cI, 9, .inl fg)), (a2, .inl (cI, 9, .inl fb)), (a3, .inl (cI, 9, .inl fp)), (h2, .inr (2, [.ref r1, .int qc])), (r1, .inl (cI, 9, .inl fr))] H := by rw [hH]; exact hP
  have hS : va_S (aA as) s.heap H [] := by rw [hH]; exact hS
  refine m_heap hH ?_
  clear hH
  refine lv_aload_n hx hb dX6_ratios_0 rfl (lv_at hl 0 rfl) ?_
  refine va_get (D := D) (ci := 6) (v := .ref h2) (C := RX6) (T := TX6) (N := 6) hx hb hts hiX6 hown hK hP 0 rfl rfl 2 (by decide) hf26 (fun _ h9 => h9) rfl dX6_ratios_1 ?_
  refine mu2_v (n := 7) (wc := [(h2, .inr (2, [.ref r1, .int qc]))]) (wr := [(x0, .inr (6, [.ref h4, .ref h3, .ref h2, .ref h1, .ref hB, .ref h5])), (h4, .inr (4, [.ref a1, .ref a2, .ref a3, .int (nI n), .int sn, .int sg])), (a1, .inl (cI, 9, .inl fg)), (a2, .inl (cI, 9, .inl fb)), (a3, .inl (cI, 9, .inl fp)), (r1, .inl (cI, 9, .inl fr))]) (as0 := [x0, h4, a1, a2, a3, h2, r1]) (va_runV (As := []) (rest := []) ⟨hx, hb, hml, hown, hts⟩ (c_X2_clear l D cI cJ cZ h2 r1 qc) (cwV 0 hts gX6_ratios_X2_clear rfl rfl rfl (by decide +kernel) ⟨Nat.le_of_ble_eq_true rfl, Nat.le_of_ble_eq_true rfl⟩) ⟨pm_blind, va_recv hK hP (ci := 2) (q0 := 5) rfl rfl, fun U hU hW => ⟨rfl, by rw [hU]; exact hP.sub (ws' := [(h2, .inr (2, [.ref r1, .int qc]))]) [5] rfl, hKN.warm hW, (hD.sub (ws' := [(h2, .inr (2, [.ref r1, .int qc]))]) [5] (by decide) rfl).weaken (fun _ _ _ _ => trivial)⟩⟩ rfl rfl hl.1 rfl (lv_room (Nat.le_of_ble_eq_true rfl)) dX6_ratios_4 ⟨Nat.le_of_ble_eq_true rfl, Nat.le_of_ble_eq_true rfl⟩) hS hP hD (fun (u : Unit) => [(x0, .inr (6, [.ref h4, .ref h3, .ref h2, .ref h1, .ref hB, .ref h5])), (h4, .inr (4, [.ref a1, .ref a2, .ref a3, .int (nI n), .int sn, .int sg])), (a1, .inl (cI, 9, .inl fg)), (a2, .inl (cI, 9, .inl fb)), (a3, .inl (cI, 9, .inl fp)), (h2, .inr (2, [.ref r1, .int (nI 0)])), (r1, .inl (cI, 9, .inl fr))]) [5] [0, 1, 2, 3, 4, 6] rfl rfl rfl (fun _ => rfl) (fun _ => rfl) rfl (fun _ => rfl) (fun _ => rfl) (m_cov rfl) (m_dis rfl) (fun u1 H locs w1r hP hD hS => ?_)
  have hP : va_P D vwCl [(x0, .inr (6, [.ref h4, .ref h3, .ref h2, .ref h1, .ref hB, .ref h5])), (h4, .inr (4, [.ref a1, .ref a2, .ref a3, .int (nI n), .int sn, .int sg])), (a1, .inl (cI, 9, .inl fg)), (a2, .inl (cI, 9, .inl fb)), (a3, .inl (cI, 9, .inl fp)), (h2, .inr (2, [.ref r1, .int (nI 0)])), (r1, .inl (cI, 9, .inl fr))] H := hP
  have hD : va_D (aA as) [(x0, .inr (6, [.ref h4, .ref h3, .ref h2, .ref h1, .ref hB, .ref h5])), (h4, .inr (4, [.ref a1, .ref a2, .ref a3, .int (nI n), .int sn, .int sg])), (a1, .inl (cI, 9, .inl fg)), (a2, .inl (cI, 9, .inl fb)), (a3, .inl (cI, 9, .inl fp)), (h2, .inr (2, [.ref r1, .int (nI 0)])), (r1, .inl (cI, 9, .inl fr))] := hD
  have w1 : True := w1r
  clear w1r
  refine lv_iload_n hx hb dX6_ratios_7 rfl (lv_at hl 2 rfl) ?_
  refine lv_if_ne (tgt := 23) hx hb dX6_ratios_8 (by decide) (fun c2 => ?_) (fun c2 => ?_)
  · skip
    refine lv_aload_n hx hb dX6_ratios_23 rfl (lv_at hl 0 rfl) ?_
    refine va_get (D := D) (ci := 6) (v := .ref h2) (C := RX6) (T := TX6) (N := 6) hx hb hts hiX6 hown hK hP 0 rfl rfl 2 (by decide) hf26 (fun _ h9 => h9) rfl dX6_ratios_24 ?_
    refine va_getN (D := D) (ci := 2) (v := .int (nI 0)) (C := RX2) (T := TX2) (N := 2) hx hb hts hiX2 hown hK hP 5 rfl rfl 1 (by decide) hf196 (fun _ h9 => h9) rfl dX6_ratios_27 ?_
    rw [← hQ]
    exact W.iret (v := nI 0) hx hb hr (fun tS htS hWS => ⟨⟨(nI 0), (nI 0, fr), rfl, by first | exact Or.inl ⟨c2, rfl, rfl, by assumption⟩ | exact Or.inr ⟨c2, rfl, rfl, rfl⟩, m_at htS hP⟩, by rw [← has]; exact hS.F htS⟩) (by rw [← has]; exact hS.2.2) dX6_ratios_30
  · skip
    refine lv_aload_n hx hb dX6_ratios_11 rfl (lv_at hl 0 rfl) ?_
    refine va_get (D := D) (ci := 6) (v := .ref h2) (C := RX6) (T := TX6) (N := 6) hx hb hts hiX6 hown hK hP 0 rfl rfl 2 (by decide) hf26 (fun _ h9 => h9) rfl dX6_ratios_12 ?_
    refine lv_aload_n hx hb dX6_ratios_15 rfl (lv_at hl 0 rfl) ?_
    refine va_get (D := D) (ci := 6) (v := .ref h4) (C := RX6) (T := TX6) (N := 6) hx hb hts hiX6 hown hK hP 0 rfl rfl 0 (by decide) hf10 (fun _ h9 => h9) rfl dX6_ratios_16 ?_
    refine lv_iload_n hx hb dX6_ratios_19 rfl (lv_at hl 1 rfl) ?_
    refine mu2_v (n := 7) (wc := [(h2, .inr (2, [.ref r1, .int (nI 0)])), (r1, .inl (cI, 9, .inl fr)), (h4, .inr (4, [.ref a1, .ref a2, .ref a3, .int (nI n), .int sn, .int sg])), (a1, .inl (cI, 9, .inl fg)), (a2, .inl (cI, 9, .inl fb)), (a3, .inl (cI, 9, .inl fp))]) (wr := [(x0, .inr (6, [.ref h4, .ref h3, .ref h2, .ref h1, .ref hB, .ref h5]))]) (as0 := [x0, h4, a1, a2, a3, h2, r1]) (va_runV (As := [.ref h4, .int sd]) (rest := []) ⟨hx, hb, hml, hown, hts⟩ (c_X2_fillByRatios_s l D cI cJ cZ h2 r1 h4 a1 a2 a3 n (nI 0) sn sg sd fr fg fb fp Gn Bn Pn (by first | assumption | omega) (by first | assumption | omega)) (cwV 2 hts gX6_ratios_X2_fillByRatios rfl rfl rfl (by decide +kernel) ⟨Nat.le_of_ble_eq_true rfl, Nat.le_of_ble_eq_true rfl⟩) ⟨pm_blind, va_recv hK hP (ci := 2) (q0 := 5) rfl rfl, fun U hU hW => ⟨rfl, by rw [hU]; exact hP.sub (ws' := [(h2, .inr (2, [.ref r1, .int (nI 0)])), (r1, .inl (cI, 9, .inl fr)), (h4, .inr (4, [.ref a1, .ref a2, .ref a3, .int (nI n), .int sn, .int sg])), (a1, .inl (cI, 9, .inl fg)), (a2, .inl (cI, 9, .inl fb)), (a3, .inl (cI, 9, .inl fp))]) [5, 6, 1, 2, 3, 4] rfl, hKN.warm hW, (hD.sub (ws' := [(h2, .inr (2, [.ref r1, .int (nI 0)])), (r1, .inl (cI, 9, .inl fr)), (h4, .inr (4, [.ref a1, .ref a2, .ref a3, .int (nI n), .int sn, .int sg])), (a1, .inl (cI, 9, .inl fg)), (a2, .inl (cI, 9, .inl fb)), (a3, .inl (cI, 9, .inl fp))]) [5, 6, 1, 2, 3, 4] (by decide) rfl).weaken (fun _ _ _ _ => trivial)⟩⟩ rfl rfl hl.1 rfl (lv_room (Nat.le_of_ble_eq_true rfl)) dX6_ratios_20 ⟨Nat.le_of_ble_eq_true rfl, Nat.le_of_ble_eq_true rfl⟩) hS hP hD (fun (u : (Nat → Int32)) => [(x0, .inr (6, [.ref h4, .ref h3, .ref h2, .ref h1, .ref hB, .ref h5])), (h4, .inr (4, [.ref a1, .ref a2, .ref a3, .int (nI n), .int sn, .int sg])), (a1, .inl (cI, 9, .inl fg)), (a2, .inl (cI, 9, .inl fb)), (a3, .inl (cI, 9, .inl fp)), (h2, .inr (2, [.ref r1, .int (nI n)])), (r1, .inl (cI, 9, .inl u))]) [5, 6, 1, 2, 3, 4] [0] rfl rfl rfl (fun _ => rfl) (fun _ => rfl) rfl (fun _ => rfl) (fun _ => rfl) (m_cov rfl) (m_dis rfl) (fun u3 H locs w3r hP hD hS => ?_)
    obtain ⟨u3_ur, rfl⟩ : ∃ z, z = u3 := ⟨_, rfl⟩
    have hP : va_P D vwCl [(x0, .inr (6, [.ref h4, .ref h3, .ref h2, .ref h1, .ref hB, .ref h5])), (h4, .inr (4, [.ref a1, .ref a2, .ref a3, .int (nI n), .int sn, .int sg])), (a1, .inl (cI, 9, .inl fg)), (a2, .inl (cI, 9, .inl fb)), (a3, .inl (cI, 9, .inl fp)), (h2, .inr (2, [.ref r1, .int (nI n)])), (r1, .inl (cI, 9, .inl u3_ur))] H := hP
    have hD : va_D (aA as) [(x0, .inr (6, [.ref h4, .ref h3, .ref h2, .ref h1, .ref hB, .ref h5])), (h4, .inr (4, [.ref a1, .ref a2, .ref a3, .int (nI n), .int sn, .int sg])), (a1, .inl (cI, 9, .inl fg)), (a2, .inl (cI, 9, .inl fb)), (a3, .inl (cI, 9, .inl fp)), (h2, .inr (2, [.ref r1, .int (nI n)])), (r1, .inl (cI, 9, .inl u3_ur))] := hD
    have w3 : DQ u3_ur n n ∧ SRT Gn Bn Pn sd u3_ur n := w3r
    clear w3r
    refine lv_aload_n hx hb dX6_ratios_23 rfl (lv_at hl 0 rfl) ?_
    refine va_get (D := D) (ci := 6) (v := .ref h2) (C := RX6) (T := TX6) (N := 6) hx hb hts hiX6 hown hK hP 0 rfl rfl 2 (by decide) hf26 (fun _ h9 => h9) rfl dX6_ratios_24 ?_
    refine va_getN (D := D) (ci := 2) (v := .int (nI n)) (C := RX2) (T := TX2) (N := 2) hx hb hts hiX2 hown hK hP 5 rfl rfl 1 (by decide) hf196 (fun _ h9 => h9) rfl dX6_ratios_27 ?_
    rw [← hQ]
    exact W.iret (v := nI n) hx hb hr (fun tS htS hWS => ⟨⟨(nI n), (nI n, u3_ur), rfl, by first | exact Or.inl ⟨c2, rfl, rfl, by assumption⟩ | exact Or.inr ⟨c2, rfl, rfl, rfl⟩, m_at htS hP⟩, by rw [← has]; exact hS.F htS⟩) (by rw [← has]; exact hS.2.2) dX6_ratios_30
def rm_c_X7_ratios_s : Room := { frames := 1, cells := 0, slots := 0, locals := 23 }
set_option maxHeartbeats 400000 in
set_option maxRecDepth 100000 in
theorem c_X7_ratios_s (l : Launch) (D : va_G) (cI cJ cZ : ClassId) (m0 : Nat) (g1 : Nat) (g2 : Nat) (g3 : Nat) (g4 : Nat) (g5 : Nat) (g6 : Nat) (g7 : Nat) (g8 : Nat) (g9 : Nat) (g10 : Nat) (g11 : Nat) (g12 : Nat) (n : Nat) (mr : Int32) (my : Int32) (mo : Int32) (ml : Int32) (sd : Int32) (em : Int32) (fg : Nat → Int32) (fb : Nat → Int32) (fp : Nat → Int32) (fo : Nat → Int32) (Gn : Nat → Nat) (Bn : Nat → Nat) (Pn : Nat → Nat) (hn : n ≤ 9) (h1n : 1 ≤ n) (hvb : VB fg fb fp Gn Bn Pn) : Met l yX7_ratios wsX7_ratios rm_c_X7_ratios_s (pm_ D cI cJ cZ [.ref m0, .int sd, .int em] [(m0, .inr (7, [.int (nI n), .ref g1, .ref g2, .ref g3, .int mr, .ref g4, .int my, .ref g5, .int mo, .ref g6, .int ml, .ref g7, .ref g8, .ref g9, .ref g10, .ref g11, .ref g12])), (g1, .inl (cI, 9, .inl fg)), (g2, .inl (cI, 9, .inl fb)), (g3, .inl (cI, 9, .inl fp)), (g6, .inl (cI, 9, .inl fo))]) (va_Qi (fun (r : Int32) (u : Int32 × (Nat → Int32)) => (em = 0 ∧ r = nI n ∧ u.1 = nI n ∧ DQ u.2 n n ∧ SRT Gn Bn Pn sd u.2 n) ∨ (¬ em = 0 ∧ r = nI 0 ∧ u.1 = nI 0 ∧ u.2 = fo)) (fun (u : Int32 × (Nat → Int32)) tS => va_P D vwCl [(m0, .inr (7, [.int (nI n), .ref g1, .ref g2, .ref g3, .int mr, .ref g4, .int my, .ref g5, .int u.1, .ref g6, .int ml, .ref g7, .ref g8, .ref g9, .ref g10, .ref g11, .ref g12])), (g1, .inl (cI, 9, .inl fg)), (g2, .inl (cI, 9, .inl fb)), (g3, .inl (cI, 9, .inl fp)), (g6, .inl (cI, 9, .inl u.2))] tS.heap) (aA [m0, g1, g2, g3, g6])) 0 0 (aA [m0, g1, g2, g3, g6]) := by
  refine Met.ofW (cc := cX7_ratios) (maxL := 5) (ret := (some .int)) (by decide) rfl ?_
  intro p e s m args below meth c s₁ B hml hv
  obtain ⟨rfl, hP, hKN, hD0⟩ := hv
  have hK := hKN.1
  have hx := B.exec
  have hb := B.bytes
  have hr := B.returns
  have hts := atoms_spec (ws := wsX7_ratios) B.pre
  have hown : s.vm.findClass RX7 = some m.cls := findClass_of_methodNamed B.named
  have hlocks := B.notSynchronized
  have hiX7 : ∀ w ∈ wsX70, w ∈ wsX7_ratios := by decide +kernel
  have hf7 := hts (.fieldLink RX7 7 "LookBenchModel" "parts" "I") (by decide +kernel)
  have hf33 := hts (.fieldLink RX7 33 "LookBenchModel" "order" "[I") (by decide +kernel)
  have hf64 := hts (.fieldLink RX7 64 "LookBenchModel" "ordered" "I") (by decide +kernel)
  obtain ⟨as, has⟩ : ∃ z : List Nat, z = [m0, g1, g2, g3, g6] := ⟨_, rfl⟩
  have hD := hD0.addr (as := as) (by rw [has]; rfl)
  have hS : va_S (aA as) s.heap s.heap [] := va_S.rf
  have hl := lv_entry ([.ref m0, .int sd, .int em]) (n := 5) (Nat.le_of_ble_eq_true rfl)
  rw [lg_entry_eq]
  generalize (lg_sl ([.ref m0, .int sd, .int em]) ++ List.replicate (5 - (lg_sl ([.ref m0, .int sd, .int em])).length) Slot.unset).toArray = ls at hl ⊢
  have hl : lv_has ls 5 [(0, .ref m0), (1, .int sd), (2, .int em)] := hl
  generalize hQ : MQ below _ _ s _ _ _ = Q
  obtain ⟨H, hH⟩ : ∃ z, z = s.heap := ⟨_, rfl⟩
  have hP : va_P D vwCl [(m0, .inr (7, [.int (nI n), .ref g1, .ref g2, .ref g3, .int mr, .ref g4, .int my, .ref g5, .int mo, .ref g6, .int ml, .ref g7, .ref g8, .ref g9, .ref g10, .ref g11, .ref g12])), (g1, .inl (cI, 9, .inl fg)), (g2, .inl (cI, 9, .inl fb)), (g3, .inl (cI, 9, .inl fp)), (g6, .inl (cI, 9, .inl fo))] H := by rw [hH]; exact hP
  have hS : va_S (aA as) s.heap H [] := by rw [hH]; exact hS
  refine m_heap hH ?_
  clear hH
  refine lv_aload_n hx hb dX7_ratios_0 rfl (lv_at hl 0 rfl) ?_
  refine lv_iconst (v := nI 0) hx hb dX7_ratios_1 (by decide) ?_
  refine va_put (D := D) (ci := 7) (v := .int (nI 0)) (ty := tyX7 8) (C := RX7) (T := TX7) (N := 17) hx hb hts hiX7 tyX7 tyX7_ok nmX7 hown hK hP hD hS 0 rfl rfl 8 (by decide) hf64 (fun _ h9 => h9) rfl (by decide +kernel) rfl rfl (Nat.le_of_ble_eq_true rfl) dX7_ratios_2 (fun H locs hP hD hS => ?_)
  have hP : va_P D vwCl [(m0, .inr (7, [.int (nI n), .ref g1, .ref g2, .ref g3, .int mr, .ref g4, .int my, .ref g5, .int (nI 0), .ref g6, .int ml, .ref g7, .ref g8, .ref g9, .ref g10, .ref g11, .ref g12])), (g1, .inl (cI, 9, .inl fg)), (g2, .inl (cI, 9, .inl fb)), (g3, .inl (cI, 9, .inl fp)), (g6, .inl (cI, 9, .inl fo))] H := hP
  have hD : va_D (aA as) [(m0, .inr (7, [.int (nI n), .ref g1, .ref g2, .ref g3, .int mr, .ref g4, .int my, .ref g5, .int (nI 0), .ref g6, .int ml, .ref g7, .ref g8, .ref g9, .ref g10, .ref g11, .ref g12])), (g1, .inl (cI, 9, .inl fg)), (g2, .inl (cI, 9, .inl fb)), (g3, .inl (cI, 9, .inl fp)), (g6, .inl (cI, 9, .inl fo))] := hD
  have loop1 : ∀ (fu : Nat) (k : Nat) (uo : Nat → Int32) (H : Heap) (locs : List Loc) (ls : Array Slot), (k ≤ n ∧ n < k + fu) → (¬ em = 0 → k = 0 ∧ uo = fo) → (DQ uo k n) → (SRT Gn Bn Pn sd uo k) → (LOW Gn Bn Pn sd uo k n) → va_P D vwCl [(m0, .inr (7, [.int (nI n), .ref g1, .ref g2, .ref g3, .int mr, .ref g4, .int my, .ref g5, .int (nI k), .ref g6, .int ml, .ref g7, .ref g8, .ref g9, .ref g10, .ref g11, .ref g12])), (g1, .inl (cI, 9, .inl fg)), (g2, .inl (cI, 9, .inl fb)), (g3, .inl (cI, 9, .inl fp)), (g6, .inl (cI, 9, .inl uo))] H → va_D (aA as) [(m0, .inr (7, [.int (nI n), .ref g1, .ref g2, .ref g3, .int mr, .ref g4, .int my, .ref g5, .int (nI k), .ref g6, .int ml, .ref g7, .ref g8, .ref g9, .ref g10, .ref g11, .ref g12])), (g1, .inl (cI, 9, .inl fg)), (g2, .inl (cI, 9, .inl fb)), (g3, .inl (cI, 9, .inl fp)), (g6, .inl (cI, 9, .inl uo))] → va_S (aA as) s.heap H locs → lv_has ls 5 [(0, .ref m0), (1, .int sd), (2, .int em)] → W p l e (headSpec wsX7_ratios rm_c_X7_ratios_s).room s m ([.ref m0, .int sd, .int em] : List Value).toArray below meth c H locs 0 0 Q (F0 m 5 ls []) := by
    intro fu
    induction fu with
    | zero => intro k uo H locs ls hk hz hdq hsr hlo; exact absurd hk (by omega)
    | succ fu ih1 =>
      intro k uo H locs ls hk hz hdq hsr hlo hP hD hS hl
      refine lv_iload_n hx hb dX7_ratios_5 rfl (lv_at hl 2 rfl) ?_
      refine lv_if_ne (tgt := 109) hx hb dX7_ratios_6 (by decide) (fun c2 => ?_) (fun c2 => ?_)
      · skip
        refine lv_aload_n hx hb dX7_ratios_109 rfl (lv_at hl 0 rfl) ?_
        refine va_get (D := D) (ci := 7) (v := .int (nI k)) (C := RX7) (T := TX7) (N := 17) hx hb hts hiX7 hown hK hP 0 rfl rfl 8 (by decide) hf64 (fun _ h9 => h9) rfl dX7_ratios_110 ?_
        rw [← hQ]
        exact W.iret (v := nI k) hx hb hr (fun tS htS hWS => ⟨⟨(nI k), (nI k, uo), rfl, by first | exact Or.inr ⟨c2, by rw [(hz c2).1], by rw [(hz c2).1], (hz c2).2⟩ | exact Or.inl ⟨c2, by rw [show k = n by omega], by rw [show k = n by omega], by have e9 : k = n := (by omega); subst e9; exact ⟨hdq, hsr⟩⟩, m_at htS hP⟩, by rw [← has]; exact hS.F htS⟩) (by rw [← has]; exact hS.2.2) dX7_ratios_113
      · skip
        refine lv_aload_n hx hb dX7_ratios_9 rfl (lv_at hl 0 rfl) ?_
        refine va_get (D := D) (ci := 7) (v := .int (nI k)) (C := RX7) (T := TX7) (N := 17) hx hb hts hiX7 hown hK hP 0 rfl rfl 8 (by decide) hf64 (fun _ h9 => h9) rfl dX7_ratios_10 ?_
        refine lv_aload_n hx hb dX7_ratios_13 rfl (lv_at hl 0 rfl) ?_
        refine va_get (D := D) (ci := 7) (v := .int (nI n)) (C := RX7) (T := TX7) (N := 17) hx hb hts hiX7 hown hK hP 0 rfl rfl 0 (by decide) hf7 (fun _ h9 => h9) rfl dX7_ratios_14 ?_
        refine lv_icmp_ge (tgt := 109) hx hb dX7_ratios_17 (by decide) (fun c3 => ?_) (fun c3 => ?_)
        · skip
          have d3 := c3
          rw [nI_leI (by omega) (by omega)] at d3
          refine lv_aload_n hx hb dX7_ratios_109 rfl (lv_at hl 0 rfl) ?_
          refine va_get (D := D) (ci := 7) (v := .int (nI k)) (C := RX7) (T := TX7) (N := 17) hx hb hts hiX7 hown hK hP 0 rfl rfl 8 (by decide) hf64 (fun _ h9 => h9) rfl dX7_ratios_110 ?_
          rw [← hQ]
          exact W.iret (v := nI k) hx hb hr (fun tS htS hWS => ⟨⟨(nI k), (nI k, uo), rfl, by first | exact Or.inr ⟨c2, by rw [(hz c2).1], by rw [(hz c2).1], (hz c2).2⟩ | exact Or.inl ⟨c2, by rw [show k = n by omega], by rw [show k = n by omega], by have e9 : k = n := (by omega); subst e9; exact ⟨hdq, hsr⟩⟩, m_at htS hP⟩, by rw [← has]; exact hS.F htS⟩) (by rw [← has]; exact hS.2.2) dX7_ratios_113
        · skip
          have d3 := c3
          rw [nI_leI (by omega) (by omega)] at d3
          refine lv_iconst (v := (-1 : Int32)) hx hb dX7_ratios_20 (by decide) ?_
          refine lv_istore_n (lv' := [(3, .int (-1 : Int32)), (0, .ref m0), (1, .int sd), (2, .int em)]) hx hb dX7_ratios_21 rfl hl (by decide) rfl (fun ls hl => ?_)
          refine lv_iconst (v := nI 0) hx hb dX7_ratios_22 (by decide) ?_
          refine lv_istore (lv' := [(4, .int (nI 0)), (3, .int (-1 : Int32)), (0, .ref m0), (1, .int sd), (2, .int em)]) hx hb dX7_ratios_23 hl (by decide) rfl (fun ls hl => ?_)
          have loop4 : ∀ (fu : Nat) (t : Nat) (nx : Int32) (H : Heap) (locs : List Loc) (ls : Array Slot), (t ≤ n ∧ n < t + fu) → ((nx = -1 ∧ ∀ p, p < t → ∃ z, z < k ∧ uo z = nI p) ∨ ∃ y, y < n ∧ nx = nI y ∧ ∀ z, z < k → ¬ uo z = nI y) → (MNX Gn Bn Pn sd uo k t nx) → va_P D vwCl [(m0, .inr (7, [.int (nI n), .ref g1, .ref g2, .ref g3, .int mr, .ref g4, .int my, .ref g5, .int (nI k), .ref g6, .int ml, .ref g7, .ref g8, .ref g9, .ref g10, .ref g11, .ref g12])), (g1, .inl (cI, 9, .inl fg)), (g2, .inl (cI, 9, .inl fb)), (g3, .inl (cI, 9, .inl fp)), (g6, .inl (cI, 9, .inl uo))] H → va_D (aA as) [(m0, .inr (7, [.int (nI n), .ref g1, .ref g2, .ref g3, .int mr, .ref g4, .int my, .ref g5, .int (nI k), .ref g6, .int ml, .ref g7, .ref g8, .ref g9, .ref g10, .ref g11, .ref g12])), (g1, .inl (cI, 9, .inl fg)), (g2, .inl (cI, 9, .inl fb)), (g3, .inl (cI, 9, .inl fp)), (g6, .inl (cI, 9, .inl uo))] → va_S (aA as) s.heap H locs → lv_has ls 5 [(4, .int (nI t)), (3, .int nx), (0, .ref m0), (1, .int sd), (2, .int em)] → W p l e (headSpec wsX7_ratios rm_c_X7_ratios_s).room s m ([.ref m0, .int sd, .int em] : List Value).toArray below meth c H locs 0 0 Q (F0 m 25 ls []) := by
            intro fu
            induction fu with
            | zero => intro t nx H locs ls ht hx2 hmin; exact absurd ht (by omega)
            | succ fu ih4 =>
              intro t nx H locs ls ht hx2 hmin hP hD hS hl
              refine lv_iload hx hb dX7_ratios_25 (lv_at hl 0 rfl) ?_
              refine lv_aload_n hx hb dX7_ratios_27 rfl (lv_at hl 2 rfl) ?_
              refine va_get (D := D) (ci := 7) (v := .int (nI n)) (C := RX7) (T := TX7) (N := 17) hx hb hts hiX7 hown hK hP 0 rfl rfl 0 (by decide) hf7 (fun _ h9 => h9) rfl dX7_ratios_28 ?_
              refine lv_icmp_ge (tgt := 86) hx hb dX7_ratios_31 (by decide) (fun c5 => ?_) (fun c5 => ?_)
              · skip
                have d5 := c5
                rw [nI_leI (by omega) (by omega)] at d5
                have hx3 := hx2
                have hm3 := hmin
                rw [show t = n by omega] at hx3 hm3
                obtain ⟨y8, hy8, rfl, hno8⟩ := ratio_ne hn (by omega) hx3
                refine lv_aload_n hx hb dX7_ratios_86 rfl (lv_at hl 2 rfl) ?_
                refine va_get (D := D) (ci := 7) (v := .ref g6) (C := RX7) (T := TX7) (N := 17) hx hb hts hiX7 hown hK hP 0 rfl rfl 9 (by decide) hf33 (fun _ h9 => h9) rfl dX7_ratios_87 ?_
                refine lv_aload_n hx hb dX7_ratios_90 rfl (lv_at hl 2 rfl) ?_
                refine va_get (D := D) (ci := 7) (v := .int (nI k)) (C := RX7) (T := TX7) (N := 17) hx hb hts hiX7 hown hK hP 0 rfl rfl 8 (by decide) hf64 (fun _ h9 => h9) rfl dX7_ratios_91 ?_
                refine lv_iload_n hx hb dX7_ratios_94 rfl (lv_at hl 1 rfl) ?_
                refine va_iast hx hb hK hP hD hS 4 0 rfl rfl (i := nI k) (vp_in_nI (by omega) (by omega)) dX7_ratios_95 (fun H locs hP hD hS => ?_)
                have hP : va_P D vwCl [(m0, .inr (7, [.int (nI n), .ref g1, .ref g2, .ref g3, .int mr, .ref g4, .int my, .ref g5, .int (nI k), .ref g6, .int ml, .ref g7, .ref g8, .ref g9, .ref g10, .ref g11, .ref g12])), (g1, .inl (cI, 9, .inl fg)), (g2, .inl (cI, 9, .inl fb)), (g3, .inl (cI, 9, .inl fp)), (g6, .inl (cI, 9, .inl (upd uo (nI k).toNatClampNeg (nI y8))))] H := hP
                have hD : va_D (aA as) [(m0, .inr (7, [.int (nI n), .ref g1, .ref g2, .ref g3, .int mr, .ref g4, .int my, .ref g5, .int (nI k), .ref g6, .int ml, .ref g7, .ref g8, .ref g9, .ref g10, .ref g11, .ref g12])), (g1, .inl (cI, 9, .inl fg)), (g2, .inl (cI, 9, .inl fb)), (g3, .inl (cI, 9, .inl fp)), (g6, .inl (cI, 9, .inl (upd uo (nI k).toNatClampNeg (nI y8))))] := hD
                rw [nI_clamp (n := k) (by omega)] at hP hD
                refine lv_aload_n hx hb dX7_ratios_96 rfl (lv_at hl 2 rfl) ?_
                refine lv_dup hx hb dX7_ratios_97 rfl ?_
                refine va_get (D := D) (ci := 7) (v := .int (nI k)) (C := RX7) (T := TX7) (N := 17) hx hb hts hiX7 hown hK hP 0 rfl rfl 8 (by decide) hf64 (fun _ h9 => h9) rfl dX7_ratios_98 ?_
                refine lv_iconst (v := nI 1) hx hb dX7_ratios_101 (by decide) ?_
                refine lv_iadd hx hb dX7_ratios_102 ?_
                refine cn_i (y := nI (k + 1)) (nI_add k 1) ?_
                refine va_put (D := D) (ci := 7) (v := .int (nI (k + 1))) (ty := tyX7 8) (C := RX7) (T := TX7) (N := 17) hx hb hts hiX7 tyX7 tyX7_ok nmX7 hown hK hP hD hS 0 rfl rfl 8 (by decide) hf64 (fun _ h9 => h9) rfl (by decide +kernel) rfl rfl (Nat.le_of_ble_eq_true rfl) dX7_ratios_103 (fun H locs hP hD hS => ?_)
                have hP : va_P D vwCl [(m0, .inr (7, [.int (nI n), .ref g1, .ref g2, .ref g3, .int mr, .ref g4, .int my, .ref g5, .int (nI (k + 1)), .ref g6, .int ml, .ref g7, .ref g8, .ref g9, .ref g10, .ref g11, .ref g12])), (g1, .inl (cI, 9, .inl fg)), (g2, .inl (cI, 9, .inl fb)), (g3, .inl (cI, 9, .inl fp)), (g6, .inl (cI, 9, .inl (upd uo k (nI y8))))] H := hP
                have hD : va_D (aA as) [(m0, .inr (7, [.int (nI n), .ref g1, .ref g2, .ref g3, .int mr, .ref g4, .int my, .ref g5, .int (nI (k + 1)), .ref g6, .int ml, .ref g7, .ref g8, .ref g9, .ref g10, .ref g11, .ref g12])), (g1, .inl (cI, 9, .inl fg)), (g2, .inl (cI, 9, .inl fb)), (g3, .inl (cI, 9, .inl fp)), (g6, .inl (cI, 9, .inl (upd uo k (nI y8))))] := hD
                refine lv_goto (tgt := 5) hx hb dX7_ratios_106 (by decide) ?_
                exact ih1 (k + 1) (upd uo k (nI y8)) _ _ _ (by omega) (fun h => absurd c2 h) (hdq.push hy8 hno8) (hsr.push hlo hy8 hn hno8) (hlo.push hy8 hn (hm3 y8 rfl (by omega)).2) hP hD hS (lv_sub hl [2, 3, 4] rfl)
              · skip
                have d5 := c5
                rw [nI_leI (by omega) (by omega)] at d5
                refine lv_aload_n hx hb dX7_ratios_34 rfl (lv_at hl 2 rfl) ?_
                refine lv_iload hx hb dX7_ratios_35 (lv_at hl 0 rfl) ?_
                refine pu_i (va_runV (As := [.int (nI t)]) (rest := []) ⟨hx, hb, hml, hown, hts⟩ (c_X7_placeOf l D cI cJ cZ m0 g1 g2 g3 g4 g5 g6 g7 g8 g9 g10 g11 g12 k (nI n) mr my ml (nI t) uo (by first | assumption | omega)) (cwV 1 hts gX7_ratios_X7_placeOf rfl rfl rfl (by decide +kernel) ⟨Nat.le_of_ble_eq_true rfl, Nat.le_of_ble_eq_true rfl⟩) ⟨pc_blind, va_recv hK hP (ci := 7) (q0 := 0) rfl rfl, fun U hU hW => ⟨rfl, by rw [hU]; exact hP.sub (ws' := [(m0, .inr (7, [.int (nI n), .ref g1, .ref g2, .ref g3, .int mr, .ref g4, .int my, .ref g5, .int (nI k), .ref g6, .int ml, .ref g7, .ref g8, .ref g9, .ref g10, .ref g11, .ref g12])), (g6, .inl (cI, 9, .inl uo))]) [0, 4] rfl, hKN.warm hW⟩⟩ rfl rfl hl.1 rfl (lv_room (Nat.le_of_ble_eq_true rfl)) dX7_ratios_37 ⟨Nat.le_of_ble_eq_true rfl, Nat.le_of_ble_eq_true rfl⟩) hS hP (fun r6 H locs w6r hP hS => ?_)
                have w6 : (r6 = -1 ∧ ∀ z, z < k → ¬ uo z = (nI t)) ∨ (∃ z, z < k ∧ r6 = nI z ∧ uo z = (nI t)) := w6r
                clear w6r
                rcases w6 with ⟨rfl, w6⟩ | ⟨z9, hz9, rfl, w6⟩
                · skip
                  refine lv_if_ge (tgt := 80) hx hb dX7_ratios_40 (by decide) (fun c7 => ?_) (fun c7 => ?_)
                  · exact absurd c7 (by first | decide | exact nz_lt (by omega) | exact fun h => h (nz_ge (by omega)))
                  · skip
                    refine lv_iload_n hx hb dX7_ratios_43 rfl (lv_at hl 1 rfl) ?_
                    refine lv_iconst (v := (-1 : Int32)) hx hb dX7_ratios_44 (by decide) ?_
                    refine lv_icmp_eq (tgt := 77) hx hb dX7_ratios_45 (by decide) (fun c8 => ?_) (fun c8 => ?_)
                    · skip
                      refine lv_iload hx hb dX7_ratios_77 (lv_at hl 0 rfl) ?_
                      refine lv_istore_n (lv' := [(3, .int (nI t)), (4, .int (nI t)), (0, .ref m0), (1, .int sd), (2, .int em)]) hx hb dX7_ratios_79 rfl hl (by decide) rfl (fun ls hl => ?_)
                      refine lv_iinc (v := nI (t + 1)) (lv' := [(4, .int (nI (t + 1))), (3, .int (nI t)), (0, .ref m0), (1, .int sd), (2, .int em)]) hx hb dX7_ratios_80 hl (k := 1) rfl (nI_1 t) (by decide) rfl (fun ls hl => ?_)
                      refine lv_goto (tgt := 25) hx hb dX7_ratios_83 (by decide) ?_
                      exact ih4 (t + 1) (nI t) _ _ _ (by omega) (by first | exact Or.inr ⟨y9, hy9, rfl, hno9⟩ | exact Or.inr ⟨t, by omega, rfl, by assumption⟩ | exact hx2.elim (fun h => Or.inl ⟨h.1, fun p hp => by rcases Nat.lt_or_ge p t with g | g; exact h.2 p g; exact (by have e9 : p = t := (by omega); subst e9; exact ⟨z9, hz9, by assumption⟩)⟩) Or.inr) (by first | exact hmin.keep hvb hn (by omega) hy9 hle | exact hmin.take hvb hn (by omega) hy9 hlt | exact MNX.first (by omega) hn hx2 (by assumption) | exact hmin.skip ⟨z9, hz9, by assumption⟩) hP hD hS (lv_sub hl [0, 1, 2, 3, 4] rfl)
                    · skip
                      have hg9 : ∃ y, y < n ∧ nx = nI y ∧ ∀ z, z < k → ¬ uo z = nI y := hx2.resolve_left (fun h => c8 h.1)
                      obtain ⟨y9, hy9, rfl, hno9⟩ := hg9
                      refine lv_aload_n hx hb dX7_ratios_48 rfl (lv_at hl 2 rfl) ?_
                      refine lv_iload hx hb dX7_ratios_49 (lv_at hl 0 rfl) ?_
                      refine pu_i (va_runV (As := [.int (nI t)]) (rest := []) ⟨hx, hb, hml, hown, hts⟩ (c_X7_ratioUp l D cI cJ cZ m0 g1 g2 g3 g4 g5 g6 g7 g8 g9 g10 g11 g12 t (nI n) mr my (nI k) ml fg fb fp (by first | assumption | omega)) (cwV 1 hts gX7_ratios_X7_ratioUp rfl rfl rfl (by decide +kernel) ⟨Nat.le_of_ble_eq_true rfl, Nat.le_of_ble_eq_true rfl⟩) ⟨pc_blind, va_recv hK hP (ci := 7) (q0 := 0) rfl rfl, fun U hU hW => ⟨rfl, by rw [hU]; exact hP.sub (ws' := [(m0, .inr (7, [.int (nI n), .ref g1, .ref g2, .ref g3, .int mr, .ref g4, .int my, .ref g5, .int (nI k), .ref g6, .int ml, .ref g7, .ref g8, .ref g9, .ref g10, .ref g11, .ref g12])), (g1, .inl (cI, 9, .inl fg)), (g2, .inl (cI, 9, .inl fb)), (g3, .inl (cI, 9, .inl fp))]) [0, 1, 2, 3] rfl, hKN.warm hW⟩⟩ rfl rfl hl.1 rfl (lv_room (Nat.le_of_ble_eq_true rfl)) dX7_ratios_51 ⟨Nat.le_of_ble_eq_true rfl, Nat.le_of_ble_eq_true rfl⟩) hS hP (fun r9 H locs w9r hP hS => ?_)
                      have w9 : r9 = fp t * (fg t + fb t) := w9r
                      clear w9r
                      obtain rfl : r9 = fp t * (fg t + fb t) := w9
                      refine lv_aload_n hx hb dX7_ratios_54 rfl (lv_at hl 2 rfl) ?_
                      refine lv_iload_n hx hb dX7_ratios_55 rfl (lv_at hl 1 rfl) ?_
                      refine lv_iload_n hx hb dX7_ratios_56 rfl (lv_at hl 3 rfl) ?_
                      refine pu_i (va_runV (As := [.int (nI y9), .int sd]) (rest := [.int (fp t * (fg t + fb t))]) ⟨hx, hb, hml, hown, hts⟩ (c_X7_down l D cI cJ cZ m0 g1 g2 g3 g4 g5 g6 g7 g8 g9 g10 g11 g12 y9 (nI n) mr my (nI k) ml sd fg fb (by first | assumption | omega)) (cwV 2 hts gX7_ratios_X7_down rfl rfl rfl (by decide +kernel) ⟨Nat.le_of_ble_eq_true rfl, Nat.le_of_ble_eq_true rfl⟩) ⟨pc_blind, va_recv hK hP (ci := 7) (q0 := 0) rfl rfl, fun U hU hW => ⟨rfl, by rw [hU]; exact hP.sub (ws' := [(m0, .inr (7, [.int (nI n), .ref g1, .ref g2, .ref g3, .int mr, .ref g4, .int my, .ref g5, .int (nI k), .ref g6, .int ml, .ref g7, .ref g8, .ref g9, .ref g10, .ref g11, .ref g12])), (g1, .inl (cI, 9, .inl fg)), (g2, .inl (cI, 9, .inl fb))]) [0, 1, 2] rfl, hKN.warm hW⟩⟩ rfl rfl hl.1 rfl (lv_room (Nat.le_of_ble_eq_true rfl)) dX7_ratios_57 ⟨Nat.le_of_ble_eq_true rfl, Nat.le_of_ble_eq_true rfl⟩) hS hP (fun r10 H locs w10r hP hS => ?_)
                      have w10 : r10 = if sd = 0 then fb y9 else fg y9 := w10r
                      clear w10r
                      obtain rfl : r10 = if sd = 0 then fb y9 else fg y9 := w10
                      refine lv_imul hx hb dX7_ratios_60 ?_
                      refine lv_aload_n hx hb dX7_ratios_61 rfl (lv_at hl 2 rfl) ?_
                      refine lv_iload_n hx hb dX7_ratios_62 rfl (lv_at hl 1 rfl) ?_
                      refine pu_i (va_runV (As := [.int (nI y9)]) (rest := [.int ((fp t * (fg t + fb t)) * (if sd = 0 then fb y9 else fg y9))]) ⟨hx, hb, hml, hown, hts⟩ (c_X7_ratioUp l D cI cJ cZ m0 g1 g2 g3 g4 g5 g6 g7 g8 g9 g10 g11 g12 y9 (nI n) mr my (nI k) ml fg fb fp (by first | assumption | omega)) (cwV 1 hts gX7_ratios_X7_ratioUp rfl rfl rfl (by decide +kernel) ⟨Nat.le_of_ble_eq_true rfl, Nat.le_of_ble_eq_true rfl⟩) ⟨pc_blind, va_recv hK hP (ci := 7) (q0 := 0) rfl rfl, fun U hU hW => ⟨rfl, by rw [hU]; exact hP.sub (ws' := [(m0, .inr (7, [.int (nI n), .ref g1, .ref g2, .ref g3, .int mr, .ref g4, .int my, .ref g5, .int (nI k), .ref g6, .int ml, .ref g7, .ref g8, .ref g9, .ref g10, .ref g11, .ref g12])), (g1, .inl (cI, 9, .inl fg)), (g2, .inl (cI, 9, .inl fb)), (g3, .inl (cI, 9, .inl fp))]) [0, 1, 2, 3] rfl, hKN.warm hW⟩⟩ rfl rfl hl.1 rfl (lv_room (Nat.le_of_ble_eq_true rfl)) dX7_ratios_63 ⟨Nat.le_of_ble_eq_true rfl, Nat.le_of_ble_eq_true rfl⟩) hS hP (fun r11 H locs w11r hP hS => ?_)
                      have w11 : r11 = fp y9 * (fg y9 + fb y9) := w11r
                      clear w11r
                      obtain rfl : r11 = fp y9 * (fg y9 + fb y9) := w11
                      refine lv_aload_n hx hb dX7_ratios_66 rfl (lv_at hl 2 rfl) ?_
                      refine lv_iload hx hb dX7_ratios_67 (lv_at hl 0 rfl) ?_
                      refine lv_iload_n hx hb dX7_ratios_69 rfl (lv_at hl 3 rfl) ?_
                      refine pu_i (va_runV (As := [.int (nI t), .int sd]) (rest := [.int (fp y9 * (fg y9 + fb y9)), .int ((fp t * (fg t + fb t)) * (if sd = 0 then fb y9 else fg y9))]) ⟨hx, hb, hml, hown, hts⟩ (c_X7_down l D cI cJ cZ m0 g1 g2 g3 g4 g5 g6 g7 g8 g9 g10 g11 g12 t (nI n) mr my (nI k) ml sd fg fb (by first | assumption | omega)) (cwV 2 hts gX7_ratios_X7_down rfl rfl rfl (by decide +kernel) ⟨Nat.le_of_ble_eq_true rfl, Nat.le_of_ble_eq_true rfl⟩) ⟨pc_blind, va_recv hK hP (ci := 7) (q0 := 0) rfl rfl, fun U hU hW => ⟨rfl, by rw [hU]; exact hP.sub (ws' := [(m0, .inr (7, [.int (nI n), .ref g1, .ref g2, .ref g3, .int mr, .ref g4, .int my, .ref g5, .int (nI k), .ref g6, .int ml, .ref g7, .ref g8, .ref g9, .ref g10, .ref g11, .ref g12])), (g1, .inl (cI, 9, .inl fg)), (g2, .inl (cI, 9, .inl fb))]) [0, 1, 2] rfl, hKN.warm hW⟩⟩ rfl rfl hl.1 rfl (lv_room (Nat.le_of_ble_eq_true rfl)) dX7_ratios_70 ⟨Nat.le_of_ble_eq_true rfl, Nat.le_of_ble_eq_true rfl⟩) hS hP (fun r12 H locs w12r hP hS => ?_)
                      have w12 : r12 = if sd = 0 then fb t else fg t := w12r
                      clear w12r
                      obtain rfl : r12 = if sd = 0 then fb t else fg t := w12
                      refine lv_imul hx hb dX7_ratios_73 ?_
                      refine lv_icmp_ge (tgt := 80) hx hb dX7_ratios_74 (by decide) (fun c13 => ?_) (fun c13 => ?_)
                      · skip
                        have hle := (lessN hvb (by omega) (by omega)).mp c13
                        refine lv_iinc (v := nI (t + 1)) (lv' := [(4, .int (nI (t + 1))), (3, .int (nI y9)), (0, .ref m0), (1, .int sd), (2, .int em)]) hx hb dX7_ratios_80 hl (k := 0) rfl (nI_1 t) (by decide) rfl (fun ls hl => ?_)
                        refine lv_goto (tgt := 25) hx hb dX7_ratios_83 (by decide) ?_
                        exact ih4 (t + 1) (nI y9) _ _ _ (by omega) (by first | exact Or.inr ⟨y9, hy9, rfl, hno9⟩ | exact Or.inr ⟨t, by omega, rfl, by assumption⟩ | exact hx2.elim (fun h => Or.inl ⟨h.1, fun p hp => by rcases Nat.lt_or_ge p t with g | g; exact h.2 p g; exact (by have e9 : p = t := (by omega); subst e9; exact ⟨z9, hz9, by assumption⟩)⟩) Or.inr) (by first | exact hmin.keep hvb hn (by omega) hy9 hle | exact hmin.take hvb hn (by omega) hy9 hlt | exact MNX.first (by omega) hn hx2 (by assumption) | exact hmin.skip ⟨z9, hz9, by assumption⟩) hP hD hS (lv_sub hl [0, 1, 2, 3, 4] rfl)
                      · skip
                        have hlt : upN Gn Bn Pn t * dnN Gn Bn sd y9 < upN Gn Bn Pn y9 * dnN Gn Bn sd t := Decidable.not_not.mp (fun q => c13 ((lessN hvb (by omega) (by omega)).mpr q))
                        refine lv_iload hx hb dX7_ratios_77 (lv_at hl 0 rfl) ?_
                        refine lv_istore_n (lv' := [(3, .int (nI t)), (4, .int (nI t)), (0, .ref m0), (1, .int sd), (2, .int em)]) hx hb dX7_ratios_79 rfl hl (by decide) rfl (fun ls hl => ?_)
                        refine lv_iinc (v := nI (t + 1)) (lv' := [(4, .int (nI (t + 1))), (3, .int (nI t)), (0, .ref m0), (1, .int sd), (2, .int em)]) hx hb dX7_ratios_80 hl (k := 1) rfl (nI_1 t) (by decide) rfl (fun ls hl => ?_)
                        refine lv_goto (tgt := 25) hx hb dX7_ratios_83 (by decide) ?_
                        exact ih4 (t + 1) (nI t) _ _ _ (by omega) (by first | exact Or.inr ⟨y9, hy9, rfl, hno9⟩ | exact Or.inr ⟨t, by omega, rfl, by assumption⟩ | exact hx2.elim (fun h => Or.inl ⟨h.1, fun p hp => by rcases Nat.lt_or_ge p t with g | g; exact h.2 p g; exact (by have e9 : p = t := (by omega); subst e9; exact ⟨z9, hz9, by assumption⟩)⟩) Or.inr) (by first | exact hmin.keep hvb hn (by omega) hy9 hle | exact hmin.take hvb hn (by omega) hy9 hlt | exact MNX.first (by omega) hn hx2 (by assumption) | exact hmin.skip ⟨z9, hz9, by assumption⟩) hP hD hS (lv_sub hl [0, 1, 2, 3, 4] rfl)
                · skip
                  refine lv_if_ge (tgt := 80) hx hb dX7_ratios_40 (by decide) (fun c14 => ?_) (fun c14 => ?_)
                  · skip
                    refine lv_iinc (v := nI (t + 1)) (lv' := [(4, .int (nI (t + 1))), (3, .int nx), (0, .ref m0), (1, .int sd), (2, .int em)]) hx hb dX7_ratios_80 hl (k := 0) rfl (nI_1 t) (by decide) rfl (fun ls hl => ?_)
                    refine lv_goto (tgt := 25) hx hb dX7_ratios_83 (by decide) ?_
                    exact ih4 (t + 1) nx _ _ _ (by omega) (by first | exact Or.inr ⟨y9, hy9, rfl, hno9⟩ | exact Or.inr ⟨t, by omega, rfl, by assumption⟩ | exact hx2.elim (fun h => Or.inl ⟨h.1, fun p hp => by rcases Nat.lt_or_ge p t with g | g; exact h.2 p g; exact (by have e9 : p = t := (by omega); subst e9; exact ⟨z9, hz9, by assumption⟩)⟩) Or.inr) (by first | exact hmin.keep hvb hn (by omega) hy9 hle | exact hmin.take hvb hn (by omega) hy9 hlt | exact MNX.first (by omega) hn hx2 (by assumption) | exact hmin.skip ⟨z9, hz9, by assumption⟩) hP hD hS (lv_sub hl [0, 1, 2, 3, 4] rfl)
                  · exact absurd c14 (by first | decide | exact nz_lt (by omega) | exact fun h => h (nz_ge (by omega)))
          exact loop4 (n + 1) 0 (-1 : Int32) _ _ _ (by omega) (Or.inl ⟨rfl, fun p hp => absurd hp (by omega)⟩) (fun y e hy => absurd e.symm (nI_ne1 (by omega))) hP hD hS (lv_sub hl [0, 1, 2, 3, 4] rfl)
  exact loop1 (n + 1) 0 fo _ _ _ (by omega) (fun _ => ⟨rfl, rfl⟩) (⟨fun z hz => absurd hz (by omega), fun i j hi => absurd hi (by omega)⟩) (fun i j x y _ hj => absurd hj (by omega)) (fun i x p hi => absurd hi (by omega)) hP hD hS (lv_sub hl [0, 1, 2] rfl)
