
/-- all places up to k but t hold different parts below k -/
def DH (uq : Nat → Int32) (k t : Nat) : Prop := (∀ z, z ≤ k → ¬ z = t → ∃ x, x < k ∧ uq z = nI x) ∧ ∀ i j, i ≤ k → j ≤ k → ¬ i = t → ¬ j = t → uq i = uq j → i = j
theorem DH.of {ur : Nat → Int32} {k : Nat} (h : DQ ur k k) : DH ur k k := ⟨fun z h1 h2 => h.1 z (by omega), fun i j h1 h2 h3 h4 e => h.2 i j (by omega) (by omega) e⟩
theorem DH.step {uq : Nat → Int32} {k t : Nat} (h : DH uq k t) (ht : ¬ t = 0) (htk : t ≤ k) : DH (upd uq t (uq (t - 1))) k (t - 1) := by
  refine ⟨fun z h1 h2 => ?_, fun i j hi hj h3 h4 e => ?_⟩
  · by_cases ez : z = t
    · obtain ⟨x, a, b⟩ := h.1 (t - 1) (by omega) (by omega)
      exact ⟨x, a, by simp [upd, ez, b]⟩
    · obtain ⟨x, a, b⟩ := h.1 z h1 ez
      exact ⟨x, a, by simp [upd, ez, b]⟩
  · by_cases ei : i = t
    · by_cases ej : j = t
      · omega
      · simp only [upd, ei, ej, if_true, if_false] at e
        have := h.2 (t - 1) j (by omega) hj (by omega) ej e
        omega
    · by_cases ej : j = t
      · simp only [upd, ei, ej, if_true, if_false] at e
        have := h.2 i (t - 1) hi (by omega) ei (by omega) e
        omega
      · simp only [upd, ei, ej, if_false] at e
        exact h.2 i j hi hj ei ej e
theorem DH.fin {uq : Nat → Int32} {k t : Nat} (h : DH uq k t) (hk : k < 9) : DQ (upd uq t (nI k)) (k + 1) (k + 1) := by
  refine ⟨fun z hz => ?_, fun i j hi hj e => ?_⟩
  · by_cases ez : z = t
    · exact ⟨k, by omega, by simp [upd, ez]⟩
    · obtain ⟨x, a, b⟩ := h.1 z (by omega) ez
      exact ⟨x, by omega, by simp [upd, ez, b]⟩
  · by_cases ei : i = t
    · by_cases ej : j = t
      · omega
      · simp only [upd, ei, ej, if_true, if_false] at e
        obtain ⟨x, a, b⟩ := h.1 j (by omega) ej
        rw [b, nI_eq (by omega) (by omega)] at e
        omega
    · by_cases ej : j = t
      · simp only [upd, ei, ej, if_true, if_false] at e
        obtain ⟨x, a, b⟩ := h.1 i (by omega) ei
        rw [b, nI_eq (by omega) (by omega)] at e
        omega
      · simp only [upd, ei, ej, if_false] at e
        exact h.2 i j (by omega) (by omega) ei ej e
def rm_c_X2_fillByRatios_g : Room := { frames := 1, cells := 0, slots := 0, locals := 26 }
set_option maxHeartbeats 400000 in
set_option maxRecDepth 100000 in
theorem c_X2_fillByRatios_g (l : Launch) (D : va_G) (cI cJ cZ : ClassId) (h0 : Nat) (r1 : Nat) (h4 : Nat) (a1 : Nat) (a2 : Nat) (a3 : Nat) (n : Nat) (qc : Int32) (sn : Int32) (sg : Int32) (sd : Int32) (fr : Nat → Int32) (fg : Nat → Int32) (fb : Nat → Int32) (fp : Nat → Int32) (hn : n ≤ 9) : Met l yX2_fillByRatios wsX2_fillByRatios rm_c_X2_fillByRatios_g (pm_ D cI cJ cZ [.ref h0, .ref h4, .int sd] [(h0, .inr (2, [.ref r1, .int qc])), (r1, .inl (cI, 9, .inl fr)), (h4, .inr (4, [.ref a1, .ref a2, .ref a3, .int (nI n), .int sn, .int sg])), (a1, .inl (cI, 9, .inl fg)), (a2, .inl (cI, 9, .inl fb)), (a3, .inl (cI, 9, .inl fp))]) (va_Qv (fun (u : (Nat → Int32)) => DQ u n n) (fun (u : (Nat → Int32)) tS => va_P D vwCl [(h0, .inr (2, [.ref r1, .int (nI n)])), (r1, .inl (cI, 9, .inl u)), (h4, .inr (4, [.ref a1, .ref a2, .ref a3, .int (nI n), .int sn, .int sg])), (a1, .inl (cI, 9, .inl fg)), (a2, .inl (cI, 9, .inl fb)), (a3, .inl (cI, 9, .inl fp))] tS.heap) (aA [h0, r1, h4, a1, a2, a3])) 0 0 (aA [h0, r1, h4, a1, a2, a3]) := by
  refine Met.ofW (cc := cX2_fillByRatios) (maxL := 5) (ret := none) (by decide) rfl ?_
  intro p e s m args below meth c s₁ B hml hv
  obtain ⟨rfl, hP, hKN, hD0⟩ := hv
  have hK := hKN.1
  have hx := B.exec
  have hb := B.bytes
  have hr := B.returns
  have hts := atoms_spec (ws := wsX2_fillByRatios) B.pre
  have hown : s.vm.findClass RX2 = some m.cls := findClass_of_methodNamed B.named
  have hlocks := B.notSynchronized
  have hiX2 : ∀ w ∈ wsX20, w ∈ wsX2_fillByRatios := by decide +kernel
  have hiX4 : ∀ w ∈ wsX40, w ∈ wsX2_fillByRatios := by decide +kernel
  have hf9 := hts (.fieldLink RX2 9 "LookBench$Queue" "row" "[I") (by decide +kernel)
  have hf15 := hts (.fieldLink RX2 15 "LookBench$Queue" "count" "I") (by decide +kernel)
  have hf19 := va_Nw.use (A := [.ref h0, .ref h4, .int sd].toArray) rfl (hKN.2 (.fieldLinkNest RX2 19 RX4 "count" "I" RX6) (by decide +kernel))
  obtain ⟨as, has⟩ : ∃ z : List Nat, z = [h0, r1, h4, a1, a2, a3] := ⟨_, rfl⟩
  have hD := hD0.addr (as := as) (by rw [has]; rfl)
  have hS : va_S (aA as) s.heap s.heap [] := va_S.rf
  have hl := lv_entry ([.ref h0, .ref h4, .int sd]) (n := 5) (Nat.le_of_ble_eq_true rfl)
  rw [lg_entry_eq]
  generalize (lg_sl ([.ref h0, .ref h4, .int sd]) ++ List.replicate (5 - (lg_sl ([.ref h0, .ref h4, .int sd])).length) Slot.unset).toArray = ls at hl ⊢
  have hl : lv_has ls 5 [(0, .ref h0), (1, .ref h4), (2, .int sd)] := hl
  generalize hQ : MQ below _ _ s _ _ _ = Q
  obtain ⟨H, hH⟩ : ∃ z, z = s.heap := ⟨_, rfl⟩
  have hP : va_P D vwCl [(h0, .inr (2, [.ref r1, .int qc])), (r1, .inl (cI, 9, .inl fr)), (h4, .inr (4, [.ref a1, .ref a2, .ref a3, .int (nI n), .int sn, .int sg])), (a1, .inl (cI, 9, .inl fg)), (a2, .inl (cI, 9, .inl fb)), (a3, .inl (cI, 9, .inl fp))] H := by rw [hH]; exact hP
  have hS : va_S (aA as) s.heap H [] := by rw [hH]; exact hS
  refine m_heap hH ?_
  clear hH
  refine lv_iconst (v := nI 0) hx hb dX2_fillByRatios_0 (by decide) ?_
  refine lv_istore_n (lv' := [(3, .int (nI 0)), (0, .ref h0), (1, .ref h4), (2, .int sd)]) hx hb dX2_fillByRatios_1 rfl hl (by decide) rfl (fun ls hl => ?_)
  have loop1 : ∀ (fu : Nat) (k : Nat) (ur : Nat → Int32) (H : Heap) (locs : List Loc) (ls : Array Slot), (k ≤ n ∧ n < k + fu) → (DQ ur k k) → va_P D vwCl [(h0, .inr (2, [.ref r1, .int qc])), (r1, .inl (cI, 9, .inl ur)), (h4, .inr (4, [.ref a1, .ref a2, .ref a3, .int (nI n), .int sn, .int sg])), (a1, .inl (cI, 9, .inl fg)), (a2, .inl (cI, 9, .inl fb)), (a3, .inl (cI, 9, .inl fp))] H → va_D (aA as) [(h0, .inr (2, [.ref r1, .int qc])), (r1, .inl (cI, 9, .inl ur)), (h4, .inr (4, [.ref a1, .ref a2, .ref a3, .int (nI n), .int sn, .int sg])), (a1, .inl (cI, 9, .inl fg)), (a2, .inl (cI, 9, .inl fb)), (a3, .inl (cI, 9, .inl fp))] → va_S (aA as) s.heap H locs → lv_has ls 5 [(3, .int (nI k)), (0, .ref h0), (1, .ref h4), (2, .int sd)] → W p l e (headSpec wsX2_fillByRatios rm_c_X2_fillByRatios_g).room s m ([.ref h0, .ref h4, .int sd] : List Value).toArray below meth c H locs 0 0 Q (F0 m 2 ls []) := by
    intro fu
    induction fu with
    | zero => intro k ur H locs ls hk hi; exact absurd hk (by omega)
    | succ fu ih1 =>
      intro k ur H locs ls hk hi hP hD hS hl
      refine lv_iload_n hx hb dX2_fillByRatios_2 rfl (lv_at hl 0 rfl) ?_
      refine lv_aload_n hx hb dX2_fillByRatios_3 rfl (lv_at hl 2 rfl) ?_
      refine va_getN (D := D) (ci := 4) (v := .int (nI n)) (C := RX4) (T := TX4) (N := 6) hx hb hts hiX4 hown hK hP 2 rfl rfl 3 (by decide) hf19 (fun _ h9 => h9) rfl dX2_fillByRatios_4 ?_
      refine lv_icmp_ge (tgt := 72) hx hb dX2_fillByRatios_7 (by decide) (fun c2 => ?_) (fun c2 => ?_)
      · skip
        have d2 := c2
        rw [nI_leI (by omega) (by omega)] at d2
        refine lv_aload_n hx hb dX2_fillByRatios_72 rfl (lv_at hl 1 rfl) ?_
        refine lv_aload_n hx hb dX2_fillByRatios_73 rfl (lv_at hl 2 rfl) ?_
        refine va_getN (D := D) (ci := 4) (v := .int (nI n)) (C := RX4) (T := TX4) (N := 6) hx hb hts hiX4 hown hK hP 2 rfl rfl 3 (by decide) hf19 (fun _ h9 => h9) rfl dX2_fillByRatios_74 ?_
        refine va_put (D := D) (ci := 2) (v := .int (nI n)) (ty := tyX2 1) (C := RX2) (T := TX2) (N := 2) hx hb hts hiX2 tyX2 tyX2_ok nmX2 hown hK hP hD hS 0 rfl rfl 1 (by decide) hf15 (fun _ h9 => h9) rfl (by decide +kernel) rfl rfl (Nat.le_of_ble_eq_true rfl) dX2_fillByRatios_77 (fun H locs hP hD hS => ?_)
        have hP : va_P D vwCl [(h0, .inr (2, [.ref r1, .int (nI n)])), (r1, .inl (cI, 9, .inl ur)), (h4, .inr (4, [.ref a1, .ref a2, .ref a3, .int (nI n), .int sn, .int sg])), (a1, .inl (cI, 9, .inl fg)), (a2, .inl (cI, 9, .inl fb)), (a3, .inl (cI, 9, .inl fp))] H := hP
        have hD : va_D (aA as) [(h0, .inr (2, [.ref r1, .int (nI n)])), (r1, .inl (cI, 9, .inl ur)), (h4, .inr (4, [.ref a1, .ref a2, .ref a3, .int (nI n), .int sn, .int sg])), (a1, .inl (cI, 9, .inl fg)), (a2, .inl (cI, 9, .inl fb)), (a3, .inl (cI, 9, .inl fp))] := hD
        rw [← hQ]
        exact W.vret hx hb hr (fun tS htS hWS => ⟨⟨(ur), rfl, by have e9 : k = n := (by omega); subst e9; exact hi, m_at htS hP⟩, by rw [← has]; exact hS.F htS⟩) (by rw [← has]; exact hS.2.2) dX2_fillByRatios_80
      · skip
        have d2 := c2
        rw [nI_leI (by omega) (by omega)] at d2
        refine lv_iload_n hx hb dX2_fillByRatios_10 rfl (lv_at hl 0 rfl) ?_
        refine lv_istore (lv' := [(4, .int (nI k)), (3, .int (nI k)), (0, .ref h0), (1, .ref h4), (2, .int sd)]) hx hb dX2_fillByRatios_11 hl (by decide) rfl (fun ls hl => ?_)
        have loop3 : ∀ (fu : Nat) (t : Nat) (uq : Nat → Int32) (H : Heap) (locs : List Loc) (ls : Array Slot), (t < fu ∧ t ≤ k) → (DH uq k t) → va_P D vwCl [(h0, .inr (2, [.ref r1, .int qc])), (r1, .inl (cI, 9, .inl uq)), (h4, .inr (4, [.ref a1, .ref a2, .ref a3, .int (nI n), .int sn, .int sg])), (a1, .inl (cI, 9, .inl fg)), (a2, .inl (cI, 9, .inl fb)), (a3, .inl (cI, 9, .inl fp))] H → va_D (aA as) [(h0, .inr (2, [.ref r1, .int qc])), (r1, .inl (cI, 9, .inl uq)), (h4, .inr (4, [.ref a1, .ref a2, .ref a3, .int (nI n), .int sn, .int sg])), (a1, .inl (cI, 9, .inl fg)), (a2, .inl (cI, 9, .inl fb)), (a3, .inl (cI, 9, .inl fp))] → va_S (aA as) s.heap H locs → lv_has ls 5 [(4, .int (nI t)), (3, .int (nI k)), (0, .ref h0), (1, .ref h4), (2, .int sd)] → W p l e (headSpec wsX2_fillByRatios rm_c_X2_fillByRatios_g).room s m ([.ref h0, .ref h4, .int sd] : List Value).toArray below meth c H locs 0 0 Q (F0 m 13 ls []) := by
          intro fu
          induction fu with
          | zero => intro t uq H locs ls ht hi2; exact absurd ht (by omega)
          | succ fu ih3 =>
            intro t uq H locs ls ht hi2 hP hD hS hl
            refine lv_iload hx hb dX2_fillByRatios_13 (lv_at hl 0 rfl) ?_
            refine lv_if_le (tgt := 58) hx hb dX2_fillByRatios_15 (by decide) (fun c4 => ?_) (fun c4 => ?_)
            · skip
              have d4 := c4
              rw [nz_le (by omega)] at d4
              refine lv_aload_n hx hb dX2_fillByRatios_58 rfl (lv_at hl 2 rfl) ?_
              refine va_get (D := D) (ci := 2) (v := .ref r1) (C := RX2) (T := TX2) (N := 2) hx hb hts hiX2 hown hK hP 0 rfl rfl 0 (by decide) hf9 (fun _ h9 => h9) rfl dX2_fillByRatios_59 ?_
              refine lv_iload hx hb dX2_fillByRatios_62 (lv_at hl 0 rfl) ?_
              refine lv_iload_n hx hb dX2_fillByRatios_64 rfl (lv_at hl 1 rfl) ?_
              refine va_iast hx hb hK hP hD hS 1 0 rfl rfl (i := nI t) (vp_in_nI (by omega) (by omega)) dX2_fillByRatios_65 (fun H locs hP hD hS => ?_)
              have hP : va_P D vwCl [(h0, .inr (2, [.ref r1, .int qc])), (r1, .inl (cI, 9, .inl (upd uq (nI t).toNatClampNeg (nI k)))), (h4, .inr (4, [.ref a1, .ref a2, .ref a3, .int (nI n), .int sn, .int sg])), (a1, .inl (cI, 9, .inl fg)), (a2, .inl (cI, 9, .inl fb)), (a3, .inl (cI, 9, .inl fp))] H := hP
              have hD : va_D (aA as) [(h0, .inr (2, [.ref r1, .int qc])), (r1, .inl (cI, 9, .inl (upd uq (nI t).toNatClampNeg (nI k)))), (h4, .inr (4, [.ref a1, .ref a2, .ref a3, .int (nI n), .int sn, .int sg])), (a1, .inl (cI, 9, .inl fg)), (a2, .inl (cI, 9, .inl fb)), (a3, .inl (cI, 9, .inl fp))] := hD
              rw [nI_clamp (n := t) (by omega)] at hP hD
              refine lv_iinc (v := nI (k + 1)) (lv' := [(3, .int (nI (k + 1))), (4, .int (nI t)), (0, .ref h0), (1, .ref h4), (2, .int sd)]) hx hb dX2_fillByRatios_66 hl (k := 1) rfl (nI_1 k) (by decide) rfl (fun ls hl => ?_)
              refine lv_goto (tgt := 2) hx hb dX2_fillByRatios_69 (by decide) ?_
              exact ih1 (k + 1) (upd uq t (nI k)) _ _ _ (by omega) (hi2.fin (by omega)) hP hD hS (lv_sub hl [0, 2, 3, 4] rfl)
            · skip
              have d4 := c4
              rw [nz_le (by omega)] at d4
              refine lv_aload_n hx hb dX2_fillByRatios_18 rfl (lv_at hl 3 rfl) ?_
              refine lv_iload_n hx hb dX2_fillByRatios_19 rfl (lv_at hl 4 rfl) ?_
              refine lv_aload_n hx hb dX2_fillByRatios_20 rfl (lv_at hl 2 rfl) ?_
              refine va_get (D := D) (ci := 2) (v := .ref r1) (C := RX2) (T := TX2) (N := 2) hx hb hts hiX2 hown hK hP 0 rfl rfl 0 (by decide) hf9 (fun _ h9 => h9) rfl dX2_fillByRatios_21 ?_
              refine lv_iload hx hb dX2_fillByRatios_24 (lv_at hl 0 rfl) ?_
              refine lv_iconst (v := nI 1) hx hb dX2_fillByRatios_26 (by decide) ?_
              refine lv_isub hx hb dX2_fillByRatios_27 ?_
              refine cn_i (y := nI (t - 1)) (pk_sub (a := t) (b := 1) (by omega)) ?_
              obtain ⟨y9, hy9, ey9⟩ := hi2.1 (t - 1) (by omega) (by omega)
              refine va_iald hx hb hK hP 1 0 rfl rfl (i := nI (t - 1)) (vp_in_nI (by omega) (by omega)) dX2_fillByRatios_28 ?_
              refine cn_i (y := nI y9) ((congrArg uq (nI_clamp (by omega))).trans ey9) ?_
              refine lv_iload_n hx hb dX2_fillByRatios_29 rfl (lv_at hl 1 rfl) ?_
              refine pu_i (va_runS (As := [.ref h4, .int sd, .int (nI y9), .int (nI k)]) (rest := []) ⟨hx, hb, hml, hown, hts⟩ (c_X2_isDearer l D cI cJ cZ h4 a1 a2 a3 y9 k (nI n) sn sg sd fg fb fp (by first | assumption | omega) (by first | assumption | omega)) (va_cwS 4 hts gX2_fillByRatios_X2_isDearer rfl rfl rfl (by decide +kernel) ⟨Nat.le_of_ble_eq_true rfl, Nat.le_of_ble_eq_true rfl⟩) ⟨pc_blind, fun U hU hW => ⟨rfl, by rw [hU]; exact hP.sub (ws' := [(h4, .inr (4, [.ref a1, .ref a2, .ref a3, .int (nI n), .int sn, .int sg])), (a1, .inl (cI, 9, .inl fg)), (a2, .inl (cI, 9, .inl fb)), (a3, .inl (cI, 9, .inl fp))]) [2, 3, 4, 5] rfl, hKN.warm hW⟩⟩ rfl rfl hl.1 rfl (lv_room (Nat.le_of_ble_eq_true rfl)) dX2_fillByRatios_30 ⟨Nat.le_of_ble_eq_true rfl, Nat.le_of_ble_eq_true rfl⟩) hS hP (fun r5 H locs w5r hP hS => ?_)
              have w5 : B01 r5 (dear fg fb fp sd y9 k) := w5r
              clear w5r
              rcases w5 with ⟨rfl, w5⟩ | ⟨rfl, w5⟩
              · skip
                refine lv_if_eq (tgt := 58) hx hb dX2_fillByRatios_33 (by decide) (fun c6 => ?_) (fun c6 => ?_)
                · exact absurd c6 (by first | decide | exact nz_lt (by omega) | exact fun h => h (nz_ge (by omega)))
                · skip
                  refine lv_aload_n hx hb dX2_fillByRatios_36 rfl (lv_at hl 2 rfl) ?_
                  refine va_get (D := D) (ci := 2) (v := .ref r1) (C := RX2) (T := TX2) (N := 2) hx hb hts hiX2 hown hK hP 0 rfl rfl 0 (by decide) hf9 (fun _ h9 => h9) rfl dX2_fillByRatios_37 ?_
                  refine lv_iload hx hb dX2_fillByRatios_40 (lv_at hl 0 rfl) ?_
                  refine lv_aload_n hx hb dX2_fillByRatios_42 rfl (lv_at hl 2 rfl) ?_
                  refine va_get (D := D) (ci := 2) (v := .ref r1) (C := RX2) (T := TX2) (N := 2) hx hb hts hiX2 hown hK hP 0 rfl rfl 0 (by decide) hf9 (fun _ h9 => h9) rfl dX2_fillByRatios_43 ?_
                  refine lv_iload hx hb dX2_fillByRatios_46 (lv_at hl 0 rfl) ?_
                  refine lv_iconst (v := nI 1) hx hb dX2_fillByRatios_48 (by decide) ?_
                  refine lv_isub hx hb dX2_fillByRatios_49 ?_
                  refine cn_i (y := nI (t - 1)) (pk_sub (a := t) (b := 1) (by omega)) ?_
                  refine va_iald hx hb hK hP 1 0 rfl rfl (i := nI (t - 1)) (vp_in_nI (by omega) (by omega)) dX2_fillByRatios_50 ?_
                  refine cn_i (y := uq (t - 1)) (congrArg uq (nI_clamp (by omega))) ?_
                  refine va_iast hx hb hK hP hD hS 1 0 rfl rfl (i := nI t) (vp_in_nI (by omega) (by omega)) dX2_fillByRatios_51 (fun H locs hP hD hS => ?_)
                  have hP : va_P D vwCl [(h0, .inr (2, [.ref r1, .int qc])), (r1, .inl (cI, 9, .inl (upd uq (nI t).toNatClampNeg (uq (t - 1))))), (h4, .inr (4, [.ref a1, .ref a2, .ref a3, .int (nI n), .int sn, .int sg])), (a1, .inl (cI, 9, .inl fg)), (a2, .inl (cI, 9, .inl fb)), (a3, .inl (cI, 9, .inl fp))] H := hP
                  have hD : va_D (aA as) [(h0, .inr (2, [.ref r1, .int qc])), (r1, .inl (cI, 9, .inl (upd uq (nI t).toNatClampNeg (uq (t - 1))))), (h4, .inr (4, [.ref a1, .ref a2, .ref a3, .int (nI n), .int sn, .int sg])), (a1, .inl (cI, 9, .inl fg)), (a2, .inl (cI, 9, .inl fb)), (a3, .inl (cI, 9, .inl fp))] := hD
                  rw [nI_clamp (n := t) (by omega)] at hP hD
                  refine lv_iinc (v := nI (t - 1)) (lv' := [(4, .int (nI (t - 1))), (3, .int (nI k)), (0, .ref h0), (1, .ref h4), (2, .int sd)]) hx hb dX2_fillByRatios_52 hl (k := 0) rfl (sb_m1 (by omega)) (by decide) rfl (fun ls hl => ?_)
                  refine lv_goto (tgt := 13) hx hb dX2_fillByRatios_55 (by decide) ?_
                  exact ih3 (t - 1) (upd uq t (uq (t - 1))) _ _ _ (by omega) (hi2.step (by omega) (by omega)) hP hD hS (lv_sub hl [0, 1, 2, 3, 4] rfl)
              · skip
                refine lv_if_eq (tgt := 58) hx hb dX2_fillByRatios_33 (by decide) (fun c7 => ?_) (fun c7 => ?_)
                · skip
                  refine lv_aload_n hx hb dX2_fillByRatios_58 rfl (lv_at hl 2 rfl) ?_
                  refine va_get (D := D) (ci := 2) (v := .ref r1) (C := RX2) (T := TX2) (N := 2) hx hb hts hiX2 hown hK hP 0 rfl rfl 0 (by decide) hf9 (fun _ h9 => h9) rfl dX2_fillByRatios_59 ?_
                  refine lv_iload hx hb dX2_fillByRatios_62 (lv_at hl 0 rfl) ?_
                  refine lv_iload_n hx hb dX2_fillByRatios_64 rfl (lv_at hl 1 rfl) ?_
                  refine va_iast hx hb hK hP hD hS 1 0 rfl rfl (i := nI t) (vp_in_nI (by omega) (by omega)) dX2_fillByRatios_65 (fun H locs hP hD hS => ?_)
                  have hP : va_P D vwCl [(h0, .inr (2, [.ref r1, .int qc])), (r1, .inl (cI, 9, .inl (upd uq (nI t).toNatClampNeg (nI k)))), (h4, .inr (4, [.ref a1, .ref a2, .ref a3, .int (nI n), .int sn, .int sg])), (a1, .inl (cI, 9, .inl fg)), (a2, .inl (cI, 9, .inl fb)), (a3, .inl (cI, 9, .inl fp))] H := hP
                  have hD : va_D (aA as) [(h0, .inr (2, [.ref r1, .int qc])), (r1, .inl (cI, 9, .inl (upd uq (nI t).toNatClampNeg (nI k)))), (h4, .inr (4, [.ref a1, .ref a2, .ref a3, .int (nI n), .int sn, .int sg])), (a1, .inl (cI, 9, .inl fg)), (a2, .inl (cI, 9, .inl fb)), (a3, .inl (cI, 9, .inl fp))] := hD
                  rw [nI_clamp (n := t) (by omega)] at hP hD
                  refine lv_iinc (v := nI (k + 1)) (lv' := [(3, .int (nI (k + 1))), (4, .int (nI t)), (0, .ref h0), (1, .ref h4), (2, .int sd)]) hx hb dX2_fillByRatios_66 hl (k := 1) rfl (nI_1 k) (by decide) rfl (fun ls hl => ?_)
                  refine lv_goto (tgt := 2) hx hb dX2_fillByRatios_69 (by decide) ?_
                  exact ih1 (k + 1) (upd uq t (nI k)) _ _ _ (by omega) (hi2.fin (by omega)) hP hD hS (lv_sub hl [0, 2, 3, 4] rfl)
                · exact absurd c7 (by first | decide | exact nz_lt (by omega) | exact fun h => h (nz_ge (by omega)))
        exact loop3 (k + 1) k ur _ _ _ (by omega) (DH.of hi) hP hD hS (lv_sub hl [0, 1, 2, 3, 4] rfl)
  exact loop1 (n + 1) 0 fr _ _ _ (by omega) (⟨fun z hz => absurd hz (by omega), fun i j hi => absurd hi (by omega)⟩) hP hD hS (lv_sub hl [0, 1, 2, 3] rfl)
def rm_c_X6_ratios_h : Room := { frames := 2, cells := 0, slots := 0, locals := 50 }
set_option maxHeartbeats 400000 in
set_option maxRecDepth 100000 in
theorem c_X6_ratios_h (l : Launch) (D : va_G) (cI cJ cZ : ClassId) (x0 : Nat) (h4 : Nat) (h3 : Nat) (h2 : Nat) (h1 : Nat) (hB : Nat) (h5 : Nat) (a1 : Nat) (a2 : Nat) (a3 : Nat) (r1 : Nat) (n : Nat) (sn : Int32) (sg : Int32) (qc : Int32) (sd : Int32) (em : Int32) (fr : Nat → Int32) (fg : Nat → Int32) (fb : Nat → Int32) (fp : Nat → Int32) (hn : n ≤ 9) : Met l yX6_ratios wsX6_ratios rm_c_X6_ratios_h (pm_ D cI cJ cZ [.ref x0, .int sd, .int em] [(x0, .inr (6, [.ref h4, .ref h3, .ref h2, .ref h1, .ref hB, .ref h5])), (h4, .inr (4, [.ref a1, .ref a2, .ref a3, .int (nI n), .int sn, .int sg])), (a1, .inl (cI, 9, .inl fg)), (a2, .inl (cI, 9, .inl fb)), (a3, .inl (cI, 9, .inl fp)), (h2, .inr (2, [.ref r1, .int qc])), (r1, .inl (cI, 9, .inl fr))]) (va_Qi (fun (r : Int32) (u : Int32 × (Nat → Int32)) => (em = 0 ∧ r = nI n ∧ u.1 = nI n ∧ DQ u.2 n n) ∨ (¬ em = 0 ∧ r = nI 0 ∧ u.1 = nI 0 ∧ u.2 = fr)) (fun (u : Int32 × (Nat → Int32)) tS => va_P D vwCl [(x0, .inr (6, [.ref h4, .ref h3, .ref h2, .ref h1, .ref hB, .ref h5])), (h4, .inr (4, [.ref a1, .ref a2, .ref a3, .int (nI n), .int sn, .int sg])), (a1, .inl (cI, 9, .inl fg)), (a2, .inl (cI, 9, .inl fb)), (a3, .inl (cI, 9, .inl fp)), (h2, .inr (2, [.ref r1, .int u.1])), (r1, .inl (cI, 9, .inl u.2))] tS.heap) (aA [x0, h4, a1, a2, a3, h2, r1])) 0 0 (aA [x0, h4, a1, a2, a3, h2, r1]) := by
  refine Met.ofW (cc := cX6_ratios) (maxL := 3) (ret := (some .int)) (by decide) rfl ?_
  intro p e s m args below meth c s₁ B hml hv
  obtain ⟨rfl, hP, hKN, hD0⟩ := hv
  have hK := hKN.1
  have hx := B.exec
  have hb := B.bytes
  have hr := B.returns
  have hts := atoms_spec (ws := wsX6_ratios) B.pre
  have hown : s.vm.findClass RX6 = some m.cls := findClass_of_methodNamed B.named
  have hlocks := B.notSynchronized
  have hiX2 : ∀ w ∈ wsX20, w ∈ wsX6_ratios := by decide +kernel
  have hiX6 : ∀ w ∈ wsX60, w ∈ wsX6_ratios := by decide +kernel
  have hf10 := hts (.fieldLink RX6 10 "LookBench" "shelf" "LLookBench$Shelf;") (by decide +kernel)
  have hf26 := hts (.fieldLink RX6 26 "LookBench" "queue" "LLookBench$Queue;") (by decide +kernel)
  have hf196 := va_Nw.use (A := [.ref x0, .int sd, .int em].toArray) rfl (hKN.2 (.fieldLinkNest RX6 196 RX2 "count" "I" RX6) (by decide +kernel))
  obtain ⟨as, has⟩ : ∃ z : List Nat, z = [x0, h4, a1, a2, a3, h2, r1] := ⟨_, rfl⟩
  have hD := hD0.addr (as := as) (by rw [has]; rfl)
  have hS : va_S (aA as) s.heap s.heap [] := va_S.rf
  have hl := lv_entry ([.ref x0, .int sd, .int em]) (n := 3) (Nat.le_of_ble_eq_true rfl)
  rw [lg_entry_eq]
  generalize (lg_sl ([.ref x0, .int sd, .int em]) ++ List.replicate (3 - (lg_sl ([.ref x0, .int sd, .int em])).length) Slot.unset).toArray = ls at hl ⊢
  have hl : lv_has ls 3 [(0, .ref x0), (1, .int sd), (2, .int em)] := hl
  generalize hQ : MQ below _ _ s _ _ _ = Q
  obtain ⟨H, hH⟩ : ∃ z, z = s.heap := ⟨_, rfl⟩
  have hP : va_P D vwCl [(x0, .inr (6, [.ref h4, .ref h3, .ref h2, .ref h1, .ref hB, .ref h5])), (h4, .inr (4, [.ref a1, .ref a2, .ref a3, .int (nI n), .int sn, .int sg])), (a1, .inl (cI, 9, .inl fg)), (a2, .inl (cI, 9, .inl fb)), (a3, .inl (cI, 9, .inl fp)), (h2, .inr (2, [.ref r1, .int qc])), (r1, .inl (cI, 9, .inl fr))] H := by rw [hH]; exact hP
  have hS : va_S (aA as) s.heap H [] := by rw [hH]; exact hS
  refine m_heap hH ?_
  clear hH
  refine lv_aload_n hx hb dX6_ratios_0 rfl (lv_at hl 0 rfl) ?_
  refine va_get (D := D) (ci := 6) (v := .ref h2) (C := RX6) (T := TX6) (N := 6) hx hb hts hiX6 hown hK hP 0 rfl rfl 2 (by decide) hf26 (fun _ h9 => h9) rfl dX6_ratios_1 ?_
  refine mu2_v (n := 7) (wc := [(h2, .inr (2, [.ref r1, .int qc]))]) (wr := [(x0, .inr (6, [.ref h4, .ref h3, .ref h2, .ref h1, .ref hB, .ref h5])), (h4, .inr (4, [.ref a1, .ref a2, .ref a3, .int (nI n), .int sn, .int sg])), (a1, .inl (cI, 9, .inl fg)), (a2, .inl (cI, 9, .inl fb)), (a3, .inl (cI, 9, .inl fp)), (r1, .inl (cI, 9, .inl fr))]) (as0 := [x0, h4, a1, a2, a3, h2, r1]) (va_runV (As := []) (rest := []) ⟨hx, hb, hml, hown, hts⟩ (c_X2_clear l D cI cJ cZ h2 r1 qc) (cwV 0 hts gX6_ratios_X2_clear rfl rfl rfl (by decide +kernel) ⟨Nat.le_of_ble_eq_true rfl, Nat.le_of_ble_eq_true rfl⟩) ⟨pm_blind, va_recv hK hP (ci := 2) (q0 := 5) rfl rfl, fun U hU hW => ⟨rfl, by rw [hU]; exact hP.sub (ws' := [(h2, .inr (2, [.ref r1, .int qc]))]) [5] rfl, hKN.warm hW, (hD.sub (ws' := [(h2, .inr (2, [.ref r1, .int qc]))]) [5] (by decide) rfl).weaken (fun _ _ _ _ => trivial)⟩⟩ rfl rfl hl.1 rfl (lv_room (Nat.le_of_ble_eq_true rfl)) dX6_ratios_4 ⟨Nat.le_of_ble_eq_true rfl, Nat.le_of_ble_eq_true rfl⟩) hS hP hD (fun (u : Unit) => [(x0, .inr (6, [.ref h4, .ref h3, .ref h2, .ref h1, .ref hB, .ref h5])), (h4, .inr (4, [.ref a1, .ref a2, .ref a3, .int (nI n), .int sn, .int sg])), (a1, .inl (cI, 9, .inl fg)), (a2, .inl (cI, 9, .inl fb)), (a3, .inl (cI, 9, .inl fp)), (h2, .inr (2, [.ref r1, .int (nI 0)])), (r1, .inl (cI, 9, .inl fr))]) [5] [0, 1, 2, 3, 4, 6] rfl rfl rfl (fun _ => rfl) (fun _ => rfl) rfl (fun _ => rfl) (fun _ => rfl) (m_cov rfl) (m_dis rfl) (fun u1 H locs w1r hP hD hS => ?_)
  have hP : va_P D vwCl [(x0, .inr (6, [.ref h4, .ref h3, .ref h2, .ref h1, .ref hB, .ref h5])), (h4, .inr (4, [.ref a1, .ref a2, .ref a3, .int (nI n), .int sn, .int sg])), (a1, .inl (cI, 9, .inl fg)), (a2, .inl (cI, 9, .inl fb)), (a3, .inl (cI, 9, .inl fp)), (h2, .inr (2, [.ref r1, .int (nI 0)])), (r1, .inl (cI, 9, .inl fr))] H := hP
  have hD : va_D (aA as) [(x0, .inr (6, [.ref h4, .ref h3, .ref h2, .ref h1, .ref hB, .ref h5])), (h4, .inr (4, [.ref a1, .ref a2, .ref a3, .int (nI n), .int sn, .int sg])), (a1, .inl (cI, 9, .inl fg)), (a2, .inl (cI, 9, .inl fb)), (a3, .inl (cI, 9, .inl fp)), (h2, .inr (2, [.ref r1, .int (nI 0)])), (r1, .inl (cI, 9, .inl fr))] := hD
  have w1 : True := w1r
  clear w1r
  refine lv_iload_n hx hb dX6_ratios_7 rfl (lv_at hl 2 rfl) ?_
  refine lv_if_ne (tgt := 23) hx hb dX6_ratios_8 (by decide) (fun c2 => ?_) (fun c2 => ?_)
  · skip
    refine lv_aload_n hx hb dX6_ratios_23 rfl (lv_at hl 0 rfl) ?_
    refine va_get (D := D) (ci := 6) (v := .ref h2) (C := RX6) (T := TX6) (N := 6) hx hb hts hiX6 hown hK hP 0 rfl rfl 2 (by decide) hf26 (fun _ h9 => h9) rfl dX6_ratios_24 ?_
    refine va_getN (D := D) (ci := 2) (v := .int (nI 0)) (C := RX2) (T := TX2) (N := 2) hx hb hts hiX2 hown hK hP 5 rfl rfl 1 (by decide) hf196 (fun _ h9 => h9) rfl dX6_ratios_27 ?_
    rw [← hQ]
    exact W.iret (v := nI 0) hx hb hr (fun tS htS hWS => ⟨⟨(nI 0), (nI 0, fr), rfl, by first | exact Or.inl ⟨c2, rfl, rfl, by assumption⟩ | exact Or.inr ⟨c2, rfl, rfl, rfl⟩, m_at htS hP⟩, by rw [← has]; exact hS.F htS⟩) (by rw [← has]; exact hS.2.2) dX6_ratios_30
  · skip
    refine lv_aload_n hx hb dX6_ratios_11 rfl (lv_at hl 0 rfl) ?_
    refine va_get (D := D) (ci := 6) (v := .ref h2) (C := RX6) (T := TX6) (N := 6) hx hb hts hiX6 hown hK hP 0 rfl rfl 2 (by decide) hf26 (fun _ h9 => h9) rfl dX6_ratios_12 ?_
    refine lv_aload_n hx hb dX6_ratios_15 rfl (lv_at hl 0 rfl) ?_
    refine va_get (D := D) (ci := 6) (v := .ref h4) (C := RX6) (T := TX6) (N := 6) hx hb hts hiX6 hown hK hP 0 rfl rfl 0 (by decide) hf10 (fun _ h9 => h9) rfl dX6_ratios_16 ?_
    refine lv_iload_n hx hb dX6_ratios_19 rfl (lv_at hl 1 rfl) ?_
    refine mu2_v (n := 7) (wc := [(h2, .inr (2, [.ref r1, .int (nI 0)])), (r1, .inl (cI, 9, .inl fr)), (h4, .inr (4, [.ref a1, .ref a2, .ref a3, .int (nI n), .int sn, .int sg])), (a1, .inl (cI, 9, .inl fg)), (a2, .inl (cI, 9, .inl fb)), (a3, .inl (cI, 9, .inl fp))]) (wr := [(x0, .inr (6, [.ref h4, .ref h3, .ref h2, .ref h1, .ref hB, .ref h5]))]) (as0 := [x0, h4, a1, a2, a3, h2, r1]) (va_runV (As := [.ref h4, .int sd]) (rest := []) ⟨hx, hb, hml, hown, hts⟩ (c_X2_fillByRatios_g l D cI cJ cZ h2 r1 h4 a1 a2 a3 n (nI 0) sn sg sd fr fg fb fp (by first | assumption | omega)) (cwV 2 hts gX6_ratios_X2_fillByRatios rfl rfl rfl (by decide +kernel) ⟨Nat.le_of_ble_eq_true rfl, Nat.le_of_ble_eq_true rfl⟩) ⟨pm_blind, va_recv hK hP (ci := 2) (q0 := 5) rfl rfl, fun U hU hW => ⟨rfl, by rw [hU]; exact hP.sub (ws' := [(h2, .inr (2, [.ref r1, .int (nI 0)])), (r1, .inl (cI, 9, .inl fr)), (h4, .inr (4, [.ref a1, .ref a2, .ref a3, .int (nI n), .int sn, .int sg])), (a1, .inl (cI, 9, .inl fg)), (a2, .inl (cI, 9, .inl fb)), (a3, .inl (cI, 9, .inl fp))]) [5, 6, 1, 2, 3, 4] rfl, hKN.warm hW, (hD.sub (ws' := [(h2, .inr (2, [.ref r1, .int (nI 0)])), (r1, .inl (cI, 9, .inl fr)), (h4, .inr (4, [.ref a1, .ref a2, .ref a3, .int (nI n), .int sn, .int sg])), (a1, .inl (cI, 9, .inl fg)), (a2, .inl (cI, 9, .inl fb)), (a3, .inl (cI, 9, .inl fp))]) [5, 6, 1, 2, 3, 4] (by decide) rfl).weaken (fun _ _ _ _ => trivial)⟩⟩ rfl rfl hl.1 rfl (lv_room (Nat.le_of_ble_eq_true rfl)) dX6_ratios_20 ⟨Nat.le_of_ble_eq_true rfl, Nat.le_of_ble_eq_true rfl⟩) hS hP hD (fun (u : (Nat → Int32)) => [(x0, .inr (6, [.ref h4, .ref h3, .ref h2, .ref h1, .ref hB, .ref h5])), (h4, .inr (4, [.ref a1, .ref a2, .ref a3, .int (nI n), .int sn, .int sg])), (a1, .inl (cI, 9, .inl fg)), (a2, .inl (cI, 9, .inl fb)), (a3, .inl (cI, 9, .inl fp)), (h2, .inr (2, [.ref r1, .int (nI n)])), (r1, .inl (cI, 9, .inl u))]) [5, 6, 1, 2, 3, 4] [0] rfl rfl rfl (fun _ => rfl) (fun _ => rfl) rfl (fun _ => rfl) (fun _ => rfl) (m_cov rfl) (m_dis rfl) (fun u3 H locs w3r hP hD hS => ?_)
    obtain ⟨u3_ur, rfl⟩ : ∃ z, z = u3 := ⟨_, rfl⟩
    have hP : va_P D vwCl [(x0, .inr (6, [.ref h4, .ref h3, .ref h2, .ref h1, .ref hB, .ref h5])), (h4, .inr (4, [.ref a1, .ref a2, .ref a3, .int (nI n), .int sn, .int sg])), (a1, .inl (cI, 9, .inl fg)), (a2, .inl (cI, 9, .inl fb)), (a3, .inl (cI, 9, .inl fp)), (h2, .inr (2, [.ref r1, .int (nI n)])), (r1, .inl (cI, 9, .inl u3_ur))] H := hP
    have hD : va_D (aA as) [(x0, .inr (6, [.ref h4, .ref h3, .ref h2, .ref h1, .ref hB, .ref h5])), (h4, .inr (4, [.ref a1, .ref a2, .ref a3, .int (nI n), .int sn, .int sg])), (a1, .inl (cI, 9, .inl fg)), (a2, .inl (cI, 9, .inl fb)), (a3, .inl (cI, 9, .inl fp)), (h2, .inr (2, [.ref r1, .int (nI n)])), (r1, .inl (cI, 9, .inl u3_ur))] := hD
    have w3 : DQ u3_ur n n := w3r
    clear w3r
    refine lv_aload_n hx hb dX6_ratios_23 rfl (lv_at hl 0 rfl) ?_
    refine va_get (D := D) (ci := 6) (v := .ref h2) (C := RX6) (T := TX6) (N := 6) hx hb hts hiX6 hown hK hP 0 rfl rfl 2 (by decide) hf26 (fun _ h9 => h9) rfl dX6_ratios_24 ?_
    refine va_getN (D := D) (ci := 2) (v := .int (nI n)) (C := RX2) (T := TX2) (N := 2) hx hb hts hiX2 hown hK hP 5 rfl rfl 1 (by decide) hf196 (fun _ h9 => h9) rfl dX6_ratios_27 ?_
    rw [← hQ]
    exact W.iret (v := nI n) hx hb hr (fun tS htS hWS => ⟨⟨(nI n), (nI n, u3_ur), rfl, by first | exact Or.inl ⟨c2, rfl, rfl, by assumption⟩ | exact Or.inr ⟨c2, rfl, rfl, rfl⟩, m_at htS hP⟩, by rw [← has]; exact hS.F htS⟩) (by rw [← has]; exact hS.2.2) dX6_ratios_30
