
theorem DQ.cover {fr : Nat → Int32} {q n : Nat} (hn : n ≤ 9) (h : ∀ p, p < n → ∃ z, z < q ∧ fr z = nI p) : n ≤ q := by
  have h' : ∀ p, ∃ z, p < n → z < q ∧ fr z = nI p := fun p => by
    by_cases hp : p < n
    · obtain ⟨z, hz⟩ := h p hp
      exact ⟨z, fun _ => hz⟩
    · exact ⟨0, fun g => absurd g hp⟩
  refine pig q n (fun p => Classical.choose (h' p)) (fun i j hi hj e => ?_) (fun i hi => (Classical.choose_spec (h' i) hi).1)
  have a := (Classical.choose_spec (h' i) hi).2
  have b := (Classical.choose_spec (h' j) hj).2
  have e' : Classical.choose (h' i) = Classical.choose (h' j) := e
  rw [e'] at a
  exact (nI_eq (by omega) (by omega)).mp (a.symm.trans b)
theorem ratio_ne {uo : Nat → Int32} {k n : Nat} {nx : Int32} (hn : n ≤ 9) (hk : k < n) (h : (nx = -1 ∧ ∀ p, p < n → ∃ z, z < k ∧ uo z = nI p) ∨ ∃ y, y < n ∧ nx = nI y ∧ ∀ z, z < k → ¬ uo z = nI y) : ∃ y, y < n ∧ nx = nI y ∧ ∀ z, z < k → ¬ uo z = nI y := by
  rcases h with ⟨_, g⟩ | h
  · have := DQ.cover hn g
    omega
  · exact h
def rm_c_X7_ratios_g : Room := { frames := 1, cells := 0, slots := 0, locals := 23 }
set_option maxHeartbeats 400000 in
set_option maxRecDepth 100000 in
theorem c_X7_ratios_g (l : Launch) (D : va_G) (cI cJ cZ : ClassId) (m0 : Nat) (g1 : Nat) (g2 : Nat) (g3 : Nat) (g4 : Nat) (g5 : Nat) (g6 : Nat) (g7 : Nat) (g8 : Nat) (g9 : Nat) (g10 : Nat) (g11 : Nat) (g12 : Nat) (n : Nat) (mr : Int32) (my : Int32) (mo : Int32) (ml : Int32) (sd : Int32) (em : Int32) (fg : Nat → Int32) (fb : Nat → Int32) (fp : Nat → Int32) (fo : Nat → Int32) (hn : n ≤ 9) (h1n : 1 ≤ n) : Met l yX7_ratios wsX7_ratios rm_c_X7_ratios_g (pm_ D cI cJ cZ [.ref m0, .int sd, .int em] [(m0, .inr (7, [.int (nI n), .ref g1, .ref g2, .ref g3, .int mr, .ref g4, .int my, .ref g5, .int mo, .ref g6, .int ml, .ref g7, .ref g8, .ref g9, .ref g10, .ref g11, .ref g12])), (g1, .inl (cI, 9, .inl fg)), (g2, .inl (cI, 9, .inl fb)), (g3, .inl (cI, 9, .inl fp)), (g6, .inl (cI, 9, .inl fo))]) (va_Qi (fun (r : Int32) (u : Int32 × (Nat → Int32)) => (em = 0 ∧ r = nI n ∧ u.1 = nI n ∧ DQ u.2 n n) ∨ (¬ em = 0 ∧ r = nI 0 ∧ u.1 = nI 0 ∧ u.2 = fo)) (fun (u : Int32 × (Nat → Int32)) tS => va_P D vwCl [(m0, .inr (7, [.int (nI n), .ref g1, .ref g2, .ref g3, .int mr, .ref g4, .int my, .ref g5, .int u.1, .ref g6, .int ml, .ref g7, .ref g8, .ref g9, .ref g10, .ref g11, .ref g12])), (g1, .inl (cI, 9, .inl fg)), (g2, .inl (cI, 9, .inl fb)), (g3, .inl (cI, 9, .inl fp)), (g6, .inl (cI, 9, .inl u.2))] tS.heap) (aA [m0, g1, g2, g3, g6])) 0 0 (aA [m0, g1, g2, g3, g6]) := by
  refine Met.ofW (cc := cX7_ratios) (maxL := 5) (ret := (some .int)) (by decide) rfl ?_
  intro p e s m args below meth c s₁ B hml hv
  obtain ⟨rfl, hP, hKN, hD0⟩ := hv
  have hK := hKN.1
  have hx := B.exec
  have hb := B.bytes
  have hr := B.returns
  have hts := atoms_spec (ws := wsX7_ratios) B.pre
  have hown : s.vm.findClass RX7 = some m.cls := findClass_of_methodNamed B.named
  have hlocks := B.notSynchronized
  have hiX7 : ∀ w ∈ wsX70, w ∈ wsX7_ratios := by decide +kernel
  have hf7 := hts (.fieldLink RX7 7 "LookBenchModel" "parts" "I") (by decide +kernel)
  have hf33 := hts (.fieldLink RX7 33 "LookBenchModel" "order" "[I") (by decide +kernel)
  have hf64 := hts (.fieldLink RX7 64 "LookBenchModel" "ordered" "I") (by decide +kernel)
  obtain ⟨as, has⟩ : ∃ z : List Nat, z = [m0, g1, g2, g3, g6] := ⟨_, rfl⟩
  have hD := hD0.addr (as := as) (by rw [has]; rfl)
  have hS : va_S (aA as) s.heap s.heap [] := va_S.rf
  have hl := lv_entry ([.ref m0, .int sd, .int em]) (n := 5) (Nat.le_of_ble_eq_true rfl)
  rw [lg_entry_eq]
  generalize (lg_sl ([.ref m0, .int sd, .int em]) ++ List.replicate (5 - (lg_sl ([.ref m0, .int sd, .int em])).length) Slot.unset).toArray = ls at hl ⊢
  have hl : lv_has ls 5 [(0, .ref m0), (1, .int sd), (2, .int em)] := hl
  generalize hQ : MQ below _ _ s _ _ _ = Q
  obtain ⟨H, hH⟩ : ∃ z, z = s.heap := ⟨_, rfl⟩
  have hP : va_P D vwCl [(m0, .inr (7, [.int (nI n), .ref g1, .ref g2, .ref g3, .int mr, .ref g4, .int my, .ref g5, .int mo, .ref g6, .int ml, .ref g7, .ref g8, .ref g9, .ref g10, .ref g11, .ref g12])), (g1, .inl (cI, 9, .inl fg)), (g2, .inl (cI, 9, .inl fb)), (g3, .inl (cI, 9, .inl fp)), (g6, .inl (cI, 9, .inl fo))] H := by rw [hH]; exact hP
  have hS : va_S (aA as) s.heap H [] := by rw [hH]; exact hS
  refine m_heap hH ?_
  clear hH
  refine lv_aload_n hx hb dX7_ratios_0 rfl (lv_at hl 0 rfl) ?_
  refine lv_iconst (v := nI 0) hx hb dX7_ratios_1 (by decide) ?_
  refine va_put (D := D) (ci := 7) (v := .int (nI 0)) (ty := tyX7 8) (C := RX7) (T := TX7) (N := 17) hx hb hts hiX7 tyX7 tyX7_ok nmX7 hown hK hP hD hS 0 rfl rfl 8 (by decide) hf64 (fun _ h9 => h9) rfl (by decide +kernel) rfl rfl (Nat.le_of_ble_eq_true rfl) dX7_ratios_2 (fun H locs hP hD hS => ?_)
  have hP : va_P D vwCl [(m0, .inr (7, [.int (nI n), .ref g1, .ref g2, .ref g3, .int mr, .ref g4, .int my, .ref g5, .int (nI 0), .ref g6, .int ml, .ref g7, .ref g8, .ref g9, .ref g10, .ref g11, .ref g12])), (g1, .inl (cI, 9, .inl fg)), (g2, .inl (cI, 9, .inl fb)), (g3, .inl (cI, 9, .inl fp)), (g6, .inl (cI, 9, .inl fo))] H := hP
  have hD : va_D (aA as) [(m0, .inr (7, [.int (nI n), .ref g1, .ref g2, .ref g3, .int mr, .ref g4, .int my, .ref g5, .int (nI 0), .ref g6, .int ml, .ref g7, .ref g8, .ref g9, .ref g10, .ref g11, .ref g12])), (g1, .inl (cI, 9, .inl fg)), (g2, .inl (cI, 9, .inl fb)), (g3, .inl (cI, 9, .inl fp)), (g6, .inl (cI, 9, .inl fo))] := hD
  have loop1 : ∀ (fu : Nat) (k : Nat) (uo : Nat → Int32) (H : Heap) (locs : List Loc) (ls : Array Slot), (k ≤ n ∧ n < k + fu) → (¬ em = 0 → k = 0 ∧ uo = fo) → (DQ uo k n) → va_P D vwCl [(m0, .inr (7, [.int (nI n), .ref g1, .ref g2, .ref g3, .int mr, .ref g4, .int my, .ref g5, .int (nI k), .ref g6, .int ml, .ref g7, .ref g8, .ref g9, .ref g10, .ref g11, .ref g12])), (g1, .inl (cI, 9, .inl fg)), (g2, .inl (cI, 9, .inl fb)), (g3, .inl (cI, 9, .inl fp)), (g6, .inl (cI, 9, .inl uo))] H → va_D (aA as) [(m0, .inr (7, [.int (nI n), .ref g1, .ref g2, .ref g3, .int mr, .ref g4, .int my, .ref g5, .int (nI k), .ref g6, .int ml, .ref g7, .ref g8, .ref g9, .ref g10, .ref g11, .ref g12])), (g1, .inl (cI, 9, .inl fg)), (g2, .inl (cI, 9, .inl fb)), (g3, .inl (cI, 9, .inl fp)), (g6, .inl (cI, 9, .inl uo))] → va_S (aA as) s.heap H locs → lv_has ls 5 [(0, .ref m0), (1, .int sd), (2, .int em)] → W p l e (headSpec wsX7_ratios rm_c_X7_ratios_g).room s m ([.ref m0, .int sd, .int em] : List Value).toArray below meth c H locs 0 0 Q (F0 m 5 ls []) := by
    intro fu
    induction fu with
    | zero => intro k uo H locs ls hk hz hdq; exact absurd hk (by omega)
    | succ fu ih1 =>
      intro k uo H locs ls hk hz hdq hP hD hS hl
      refine lv_iload_n hx hb dX7_ratios_5 rfl (lv_at hl 2 rfl) ?_
      refine lv_if_ne (tgt := 109) hx hb dX7_ratios_6 (by decide) (fun c2 => ?_) (fun c2 => ?_)
      · skip
        refine lv_aload_n hx hb dX7_ratios_109 rfl (lv_at hl 0 rfl) ?_
        refine va_get (D := D) (ci := 7) (v := .int (nI k)) (C := RX7) (T := TX7) (N := 17) hx hb hts hiX7 hown hK hP 0 rfl rfl 8 (by decide) hf64 (fun _ h9 => h9) rfl dX7_ratios_110 ?_
        rw [← hQ]
        exact W.iret (v := nI k) hx hb hr (fun tS htS hWS => ⟨⟨(nI k), (nI k, uo), rfl, by first | exact Or.inr ⟨c2, by rw [(hz c2).1], by rw [(hz c2).1], (hz c2).2⟩ | exact Or.inl ⟨c2, by rw [show k = n by omega], by rw [show k = n by omega], by have e9 : k = n := (by omega); subst e9; exact hdq⟩, m_at htS hP⟩, by rw [← has]; exact hS.F htS⟩) (by rw [← has]; exact hS.2.2) dX7_ratios_113
      · skip
        refine lv_aload_n hx hb dX7_ratios_9 rfl (lv_at hl 0 rfl) ?_
        refine va_get (D := D) (ci := 7) (v := .int (nI k)) (C := RX7) (T := TX7) (N := 17) hx hb hts hiX7 hown hK hP 0 rfl rfl 8 (by decide) hf64 (fun _ h9 => h9) rfl dX7_ratios_10 ?_
        refine lv_aload_n hx hb dX7_ratios_13 rfl (lv_at hl 0 rfl) ?_
        refine va_get (D := D) (ci := 7) (v := .int (nI n)) (C := RX7) (T := TX7) (N := 17) hx hb hts hiX7 hown hK hP 0 rfl rfl 0 (by decide) hf7 (fun _ h9 => h9) rfl dX7_ratios_14 ?_
        refine lv_icmp_ge (tgt := 109) hx hb dX7_ratios_17 (by decide) (fun c3 => ?_) (fun c3 => ?_)
        · skip
          have d3 := c3
          rw [nI_leI (by omega) (by omega)] at d3
          refine lv_aload_n hx hb dX7_ratios_109 rfl (lv_at hl 0 rfl) ?_
          refine va_get (D := D) (ci := 7) (v := .int (nI k)) (C := RX7) (T := TX7) (N := 17) hx hb hts hiX7 hown hK hP 0 rfl rfl 8 (by decide) hf64 (fun _ h9 => h9) rfl dX7_ratios_110 ?_
          rw [← hQ]
          exact W.iret (v := nI k) hx hb hr (fun tS htS hWS => ⟨⟨(nI k), (nI k, uo), rfl, by first | exact Or.inr ⟨c2, by rw [(hz c2).1], by rw [(hz c2).1], (hz c2).2⟩ | exact Or.inl ⟨c2, by rw [show k = n by omega], by rw [show k = n by omega], by have e9 : k = n := (by omega); subst e9; exact hdq⟩, m_at htS hP⟩, by rw [← has]; exact hS.F htS⟩) (by rw [← has]; exact hS.2.2) dX7_ratios_113
        · skip
          have d3 := c3
          rw [nI_leI (by omega) (by omega)] at d3
          refine lv_iconst (v := (-1 : Int32)) hx hb dX7_ratios_20 (by decide) ?_
          refine lv_istore_n (lv' := [(3, .int (-1 : Int32)), (0, .ref m0), (1, .int sd), (2, .int em)]) hx hb dX7_ratios_21 rfl hl (by decide) rfl (fun ls hl => ?_)
          refine lv_iconst (v := nI 0) hx hb dX7_ratios_22 (by decide) ?_
          refine lv_istore (lv' := [(4, .int (nI 0)), (3, .int (-1 : Int32)), (0, .ref m0), (1, .int sd), (2, .int em)]) hx hb dX7_ratios_23 hl (by decide) rfl (fun ls hl => ?_)
          have loop4 : ∀ (fu : Nat) (t : Nat) (nx : Int32) (H : Heap) (locs : List Loc) (ls : Array Slot), (t ≤ n ∧ n < t + fu) → ((nx = -1 ∧ ∀ p, p < t → ∃ z, z < k ∧ uo z = nI p) ∨ ∃ y, y < n ∧ nx = nI y ∧ ∀ z, z < k → ¬ uo z = nI y) → va_P D vwCl [(m0, .inr (7, [.int (nI n), .ref g1, .ref g2, .ref g3, .int mr, .ref g4, .int my, .ref g5, .int (nI k), .ref g6, .int ml, .ref g7, .ref g8, .ref g9, .ref g10, .ref g11, .ref g12])), (g1, .inl (cI, 9, .inl fg)), (g2, .inl (cI, 9, .inl fb)), (g3, .inl (cI, 9, .inl fp)), (g6, .inl (cI, 9, .inl uo))] H → va_D (aA as) [(m0, .inr (7, [.int (nI n), .ref g1, .ref g2, .ref g3, .int mr, .ref g4, .int my, .ref g5, .int (nI k), .ref g6, .int ml, .ref g7, .ref g8, .ref g9, .ref g10, .ref g11, .ref g12])), (g1, .inl (cI, 9, .inl fg)), (g2, .inl (cI, 9, .inl fb)), (g3, .inl (cI, 9, .inl fp)), (g6, .inl (cI, 9, .inl uo))] → va_S (aA as) s.heap H locs → lv_has ls 5 [(4, .int (nI t)), (3, .int nx), (0, .ref m0), (1, .int sd), (2, .int em)] → W p l e (headSpec wsX7_ratios rm_c_X7_ratios_g).room s m ([.ref m0, .int sd, .int em] : List Value).toArray below meth c H locs 0 0 Q (F0 m 25 ls []) := by
            intro fu
            induction fu with
            | zero => intro t nx H locs ls ht hx2; exact absurd ht (by omega)
            | succ fu ih4 =>
              intro t nx H locs ls ht hx2 hP hD hS hl
              refine lv_iload hx hb dX7_ratios_25 (lv_at hl 0 rfl) ?_
              refine lv_aload_n hx hb dX7_ratios_27 rfl (lv_at hl 2 rfl) ?_
              refine va_get (D := D) (ci := 7) (v := .int (nI n)) (C := RX7) (T := TX7) (N := 17) hx hb hts hiX7 hown hK hP 0 rfl rfl 0 (by decide) hf7 (fun _ h9 => h9) rfl dX7_ratios_28 ?_
              refine lv_icmp_ge (tgt := 86) hx hb dX7_ratios_31 (by decide) (fun c5 => ?_) (fun c5 => ?_)
              · skip
                have d5 := c5
                rw [nI_leI (by omega) (by omega)] at d5
                have hx3 := hx2
                rw [show t = n by omega] at hx3
                obtain ⟨y8, hy8, rfl, hno8⟩ := ratio_ne hn (by omega) hx3
                refine lv_aload_n hx hb dX7_ratios_86 rfl (lv_at hl 2 rfl) ?_
                refine va_get (D := D) (ci := 7) (v := .ref g6) (C := RX7) (T := TX7) (N := 17) hx hb hts hiX7 hown hK hP 0 rfl rfl 9 (by decide) hf33 (fun _ h9 => h9) rfl dX7_ratios_87 ?_
                refine lv_aload_n hx hb dX7_ratios_90 rfl (lv_at hl 2 rfl) ?_
                refine va_get (D := D) (ci := 7) (v := .int (nI k)) (C := RX7) (T := TX7) (N := 17) hx hb hts hiX7 hown hK hP 0 rfl rfl 8 (by decide) hf64 (fun _ h9 => h9) rfl dX7_ratios_91 ?_
                refine lv_iload_n hx hb dX7_ratios_94 rfl (lv_at hl 1 rfl) ?_
                refine va_iast hx hb hK hP hD hS 4 0 rfl rfl (i := nI k) (vp_in_nI (by omega) (by omega)) dX7_ratios_95 (fun H locs hP hD hS => ?_)
                have hP : va_P D vwCl [(m0, .inr (7, [.int (nI n), .ref g1, .ref g2, .ref g3, .int mr, .ref g4, .int my, .ref g5, .int (nI k), .ref g6, .int ml, .ref g7, .ref g8, .ref g9, .ref g10, .ref g11, .ref g12])), (g1, .inl (cI, 9, .inl fg)), (g2, .inl (cI, 9, .inl fb)), (g3, .inl (cI, 9, .inl fp)), (g6, .inl (cI, 9, .inl (upd uo (nI k).toNatClampNeg (nI y8))))] H := hP
                have hD : va_D (aA as) [(m0, .inr (7, [.int (nI n), .ref g1, .ref g2, .ref g3, .int mr, .ref g4, .int my, .ref g5, .int (nI k), .ref g6, .int ml, .ref g7, .ref g8, .ref g9, .ref g10, .ref g11, .ref g12])), (g1, .inl (cI, 9, .inl fg)), (g2, .inl (cI, 9, .inl fb)), (g3, .inl (cI, 9, .inl fp)), (g6, .inl (cI, 9, .inl (upd uo (nI k).toNatClampNeg (nI y8))))] := hD
                rw [nI_clamp (n := k) (by omega)] at hP hD
                refine lv_aload_n hx hb dX7_ratios_96 rfl (lv_at hl 2 rfl) ?_
                refine lv_dup hx hb dX7_ratios_97 rfl ?_
                refine va_get (D := D) (ci := 7) (v := .int (nI k)) (C := RX7) (T := TX7) (N := 17) hx hb hts hiX7 hown hK hP 0 rfl rfl 8 (by decide) hf64 (fun _ h9 => h9) rfl dX7_ratios_98 ?_
                refine lv_iconst (v := nI 1) hx hb dX7_ratios_101 (by decide) ?_
                refine lv_iadd hx hb dX7_ratios_102 ?_
                refine cn_i (y := nI (k + 1)) (nI_add k 1) ?_
                refine va_put (D := D) (ci := 7) (v := .int (nI (k + 1))) (ty := tyX7 8) (C := RX7) (T := TX7) (N := 17) hx hb hts hiX7 tyX7 tyX7_ok nmX7 hown hK hP hD hS 0 rfl rfl 8 (by decide) hf64 (fun _ h9 => h9) rfl (by decide +kernel) rfl rfl (Nat.le_of_ble_eq_true rfl) dX7_ratios_103 (fun H locs hP hD hS => ?_)
                have hP : va_P D vwCl [(m0, .inr (7, [.int (nI n), .ref g1, .ref g2, .ref g3, .int mr, .ref g4, .int my, .ref g5, .int (nI (k + 1)), .ref g6, .int ml, .ref g7, .ref g8, .ref g9, .ref g10, .ref g11, .ref g12])), (g1, .inl (cI, 9, .inl fg)), (g2, .inl (cI, 9, .inl fb)), (g3, .inl (cI, 9, .inl fp)), (g6, .inl (cI, 9, .inl (upd uo k (nI y8))))] H := hP
                have hD : va_D (aA as) [(m0, .inr (7, [.int (nI n), .ref g1, .ref g2, .ref g3, .int mr, .ref g4, .int my, .ref g5, .int (nI (k + 1)), .ref g6, .int ml, .ref g7, .ref g8, .ref g9, .ref g10, .ref g11, .ref g12])), (g1, .inl (cI, 9, .inl fg)), (g2, .inl (cI, 9, .inl fb)), (g3, .inl (cI, 9, .inl fp)), (g6, .inl (cI, 9, .inl (upd uo k (nI y8))))] := hD
                refine lv_goto (tgt := 5) hx hb dX7_ratios_106 (by decide) ?_
                exact ih1 (k + 1) (upd uo k (nI y8)) _ _ _ (by omega) (fun h => absurd c2 h) (hdq.push hy8 hno8) hP hD hS (lv_sub hl [2, 3, 4] rfl)
              · skip
                have d5 := c5
                rw [nI_leI (by omega) (by omega)] at d5
                refine lv_aload_n hx hb dX7_ratios_34 rfl (lv_at hl 2 rfl) ?_
                refine lv_iload hx hb dX7_ratios_35 (lv_at hl 0 rfl) ?_
                refine pu_i (va_runV (As := [.int (nI t)]) (rest := []) ⟨hx, hb, hml, hown, hts⟩ (c_X7_placeOf l D cI cJ cZ m0 g1 g2 g3 g4 g5 g6 g7 g8 g9 g10 g11 g12 k (nI n) mr my ml (nI t) uo (by first | assumption | omega)) (cwV 1 hts gX7_ratios_X7_placeOf rfl rfl rfl (by decide +kernel) ⟨Nat.le_of_ble_eq_true rfl, Nat.le_of_ble_eq_true rfl⟩) ⟨pc_blind, va_recv hK hP (ci := 7) (q0 := 0) rfl rfl, fun U hU hW => ⟨rfl, by rw [hU]; exact hP.sub (ws' := [(m0, .inr (7, [.int (nI n), .ref g1, .ref g2, .ref g3, .int mr, .ref g4, .int my, .ref g5, .int (nI k), .ref g6, .int ml, .ref g7, .ref g8, .ref g9, .ref g10, .ref g11, .ref g12])), (g6, .inl (cI, 9, .inl uo))]) [0, 4] rfl, hKN.warm hW⟩⟩ rfl rfl hl.1 rfl (lv_room (Nat.le_of_ble_eq_true rfl)) dX7_ratios_37 ⟨Nat.le_of_ble_eq_true rfl, Nat.le_of_ble_eq_true rfl⟩) hS hP (fun r6 H locs w6r hP hS => ?_)
                have w6 : (r6 = -1 ∧ ∀ z, z < k → ¬ uo z = (nI t)) ∨ (∃ z, z < k ∧ r6 = nI z ∧ uo z = (nI t)) := w6r
                clear w6r
                rcases w6 with ⟨rfl, w6⟩ | ⟨z9, hz9, rfl, w6⟩
                · skip
                  refine lv_if_ge (tgt := 80) hx hb dX7_ratios_40 (by decide) (fun c7 => ?_) (fun c7 => ?_)
                  · exact absurd c7 (by first | decide | exact nz_lt (by omega) | exact fun h => h (nz_ge (by omega)))
                  · skip
                    refine lv_iload_n hx hb dX7_ratios_43 rfl (lv_at hl 1 rfl) ?_
                    refine lv_iconst (v := (-1 : Int32)) hx hb dX7_ratios_44 (by decide) ?_
                    refine lv_icmp_eq (tgt := 77) hx hb dX7_ratios_45 (by decide) (fun c8 => ?_) (fun c8 => ?_)
                    · skip
                      refine lv_iload hx hb dX7_ratios_77 (lv_at hl 0 rfl) ?_
                      refine lv_istore_n (lv' := [(3, .int (nI t)), (4, .int (nI t)), (0, .ref m0), (1, .int sd), (2, .int em)]) hx hb dX7_ratios_79 rfl hl (by decide) rfl (fun ls hl => ?_)
                      refine lv_iinc (v := nI (t + 1)) (lv' := [(4, .int (nI (t + 1))), (3, .int (nI t)), (0, .ref m0), (1, .int sd), (2, .int em)]) hx hb dX7_ratios_80 hl (k := 1) rfl (nI_1 t) (by decide) rfl (fun ls hl => ?_)
                      refine lv_goto (tgt := 25) hx hb dX7_ratios_83 (by decide) ?_
                      exact ih4 (t + 1) (nI t) _ _ _ (by omega) (by first | exact Or.inr ⟨y9, hy9, rfl, hno9⟩ | exact Or.inr ⟨t, by omega, rfl, by assumption⟩ | exact hx2.elim (fun h => Or.inl ⟨h.1, fun p hp => by rcases Nat.lt_or_ge p t with g | g; exact h.2 p g; exact (by have e9 : p = t := (by omega); subst e9; exact ⟨z9, hz9, by assumption⟩)⟩) Or.inr) hP hD hS (lv_sub hl [0, 1, 2, 3, 4] rfl)
                    · skip
                      have hg9 : ∃ y, y < n ∧ nx = nI y ∧ ∀ z, z < k → ¬ uo z = nI y := hx2.resolve_left (fun h => c8 h.1)
                      obtain ⟨y9, hy9, rfl, hno9⟩ := hg9
                      refine lv_aload_n hx hb dX7_ratios_48 rfl (lv_at hl 2 rfl) ?_
                      refine lv_iload hx hb dX7_ratios_49 (lv_at hl 0 rfl) ?_
                      refine pu_i (va_runV (As := [.int (nI t)]) (rest := []) ⟨hx, hb, hml, hown, hts⟩ (c_X7_ratioUp l D cI cJ cZ m0 g1 g2 g3 g4 g5 g6 g7 g8 g9 g10 g11 g12 t (nI n) mr my (nI k) ml fg fb fp (by first | assumption | omega)) (cwV 1 hts gX7_ratios_X7_ratioUp rfl rfl rfl (by decide +kernel) ⟨Nat.le_of_ble_eq_true rfl, Nat.le_of_ble_eq_true rfl⟩) ⟨pc_blind, va_recv hK hP (ci := 7) (q0 := 0) rfl rfl, fun U hU hW => ⟨rfl, by rw [hU]; exact hP.sub (ws' := [(m0, .inr (7, [.int (nI n), .ref g1, .ref g2, .ref g3, .int mr, .ref g4, .int my, .ref g5, .int (nI k), .ref g6, .int ml, .ref g7, .ref g8, .ref g9, .ref g10, .ref g11, .ref g12])), (g1, .inl (cI, 9, .inl fg)), (g2, .inl (cI, 9, .inl fb)), (g3, .inl (cI, 9, .inl fp))]) [0, 1, 2, 3] rfl, hKN.warm hW⟩⟩ rfl rfl hl.1 rfl (lv_room (Nat.le_of_ble_eq_true rfl)) dX7_ratios_51 ⟨Nat.le_of_ble_eq_true rfl, Nat.le_of_ble_eq_true rfl⟩) hS hP (fun r9 H locs w9r hP hS => ?_)
                      have w9 : r9 = fp t * (fg t + fb t) := w9r
                      clear w9r
                      refine lv_aload_n hx hb dX7_ratios_54 rfl (lv_at hl 2 rfl) ?_
                      refine lv_iload_n hx hb dX7_ratios_55 rfl (lv_at hl 1 rfl) ?_
                      refine lv_iload_n hx hb dX7_ratios_56 rfl (lv_at hl 3 rfl) ?_
                      refine pu_i (va_runV (As := [.int (nI y9), .int sd]) (rest := [.int r9]) ⟨hx, hb, hml, hown, hts⟩ (c_X7_down l D cI cJ cZ m0 g1 g2 g3 g4 g5 g6 g7 g8 g9 g10 g11 g12 y9 (nI n) mr my (nI k) ml sd fg fb (by first | assumption | omega)) (cwV 2 hts gX7_ratios_X7_down rfl rfl rfl (by decide +kernel) ⟨Nat.le_of_ble_eq_true rfl, Nat.le_of_ble_eq_true rfl⟩) ⟨pc_blind, va_recv hK hP (ci := 7) (q0 := 0) rfl rfl, fun U hU hW => ⟨rfl, by rw [hU]; exact hP.sub (ws' := [(m0, .inr (7, [.int (nI n), .ref g1, .ref g2, .ref g3, .int mr, .ref g4, .int my, .ref g5, .int (nI k), .ref g6, .int ml, .ref g7, .ref g8, .ref g9, .ref g10, .ref g11, .ref g12])), (g1, .inl (cI, 9, .inl fg)), (g2, .inl (cI, 9, .inl fb))]) [0, 1, 2] rfl, hKN.warm hW⟩⟩ rfl rfl hl.1 rfl (lv_room (Nat.le_of_ble_eq_true rfl)) dX7_ratios_57 ⟨Nat.le_of_ble_eq_true rfl, Nat.le_of_ble_eq_true rfl⟩) hS hP (fun r10 H locs w10r hP hS => ?_)
                      have w10 : r10 = if sd = 0 then fb y9 else fg y9 := w10r
                      clear w10r
                      refine lv_imul hx hb dX7_ratios_60 ?_
                      refine lv_aload_n hx hb dX7_ratios_61 rfl (lv_at hl 2 rfl) ?_
                      refine lv_iload_n hx hb dX7_ratios_62 rfl (lv_at hl 1 rfl) ?_
                      refine pu_i (va_runV (As := [.int (nI y9)]) (rest := [.int (r9 * r10)]) ⟨hx, hb, hml, hown, hts⟩ (c_X7_ratioUp l D cI cJ cZ m0 g1 g2 g3 g4 g5 g6 g7 g8 g9 g10 g11 g12 y9 (nI n) mr my (nI k) ml fg fb fp (by first | assumption | omega)) (cwV 1 hts gX7_ratios_X7_ratioUp rfl rfl rfl (by decide +kernel) ⟨Nat.le_of_ble_eq_true rfl, Nat.le_of_ble_eq_true rfl⟩) ⟨pc_blind, va_recv hK hP (ci := 7) (q0 := 0) rfl rfl, fun U hU hW => ⟨rfl, by rw [hU]; exact hP.sub (ws' := [(m0, .inr (7, [.int (nI n), .ref g1, .ref g2, .ref g3, .int mr, .ref g4, .int my, .ref g5, .int (nI k), .ref g6, .int ml, .ref g7, .ref g8, .ref g9, .ref g10, .ref g11, .ref g12])), (g1, .inl (cI, 9, .inl fg)), (g2, .inl (cI, 9, .inl fb)), (g3, .inl (cI, 9, .inl fp))]) [0, 1, 2, 3] rfl, hKN.warm hW⟩⟩ rfl rfl hl.1 rfl (lv_room (Nat.le_of_ble_eq_true rfl)) dX7_ratios_63 ⟨Nat.le_of_ble_eq_true rfl, Nat.le_of_ble_eq_true rfl⟩) hS hP (fun r11 H locs w11r hP hS => ?_)
                      have w11 : r11 = fp y9 * (fg y9 + fb y9) := w11r
                      clear w11r
                      refine lv_aload_n hx hb dX7_ratios_66 rfl (lv_at hl 2 rfl) ?_
                      refine lv_iload hx hb dX7_ratios_67 (lv_at hl 0 rfl) ?_
                      refine lv_iload_n hx hb dX7_ratios_69 rfl (lv_at hl 3 rfl) ?_
                      refine pu_i (va_runV (As := [.int (nI t), .int sd]) (rest := [.int r11, .int (r9 * r10)]) ⟨hx, hb, hml, hown, hts⟩ (c_X7_down l D cI cJ cZ m0 g1 g2 g3 g4 g5 g6 g7 g8 g9 g10 g11 g12 t (nI n) mr my (nI k) ml sd fg fb (by first | assumption | omega)) (cwV 2 hts gX7_ratios_X7_down rfl rfl rfl (by decide +kernel) ⟨Nat.le_of_ble_eq_true rfl, Nat.le_of_ble_eq_true rfl⟩) ⟨pc_blind, va_recv hK hP (ci := 7) (q0 := 0) rfl rfl, fun U hU hW => ⟨rfl, by rw [hU]; exact hP.sub (ws' := [(m0, .inr (7, [.int (nI n), .ref g1, .ref g2, .ref g3, .int mr, .ref g4, .int my, .ref g5, .int (nI k), .ref g6, .int ml, .ref g7, .ref g8, .ref g9, .ref g10, .ref g11, .ref g12])), (g1, .inl (cI, 9, .inl fg)), (g2, .inl (cI, 9, .inl fb))]) [0, 1, 2] rfl, hKN.warm hW⟩⟩ rfl rfl hl.1 rfl (lv_room (Nat.le_of_ble_eq_true rfl)) dX7_ratios_70 ⟨Nat.le_of_ble_eq_true rfl, Nat.le_of_ble_eq_true rfl⟩) hS hP (fun r12 H locs w12r hP hS => ?_)
                      have w12 : r12 = if sd = 0 then fb t else fg t := w12r
                      clear w12r
                      refine lv_imul hx hb dX7_ratios_73 ?_
                      refine lv_icmp_ge (tgt := 80) hx hb dX7_ratios_74 (by decide) (fun c13 => ?_) (fun c13 => ?_)
                      · skip
                        refine lv_iinc (v := nI (t + 1)) (lv' := [(4, .int (nI (t + 1))), (3, .int (nI y9)), (0, .ref m0), (1, .int sd), (2, .int em)]) hx hb dX7_ratios_80 hl (k := 0) rfl (nI_1 t) (by decide) rfl (fun ls hl => ?_)
                        refine lv_goto (tgt := 25) hx hb dX7_ratios_83 (by decide) ?_
                        exact ih4 (t + 1) (nI y9) _ _ _ (by omega) (by first | exact Or.inr ⟨y9, hy9, rfl, hno9⟩ | exact Or.inr ⟨t, by omega, rfl, by assumption⟩ | exact hx2.elim (fun h => Or.inl ⟨h.1, fun p hp => by rcases Nat.lt_or_ge p t with g | g; exact h.2 p g; exact (by have e9 : p = t := (by omega); subst e9; exact ⟨z9, hz9, by assumption⟩)⟩) Or.inr) hP hD hS (lv_sub hl [0, 1, 2, 3, 4] rfl)
                      · skip
                        refine lv_iload hx hb dX7_ratios_77 (lv_at hl 0 rfl) ?_
                        refine lv_istore_n (lv' := [(3, .int (nI t)), (4, .int (nI t)), (0, .ref m0), (1, .int sd), (2, .int em)]) hx hb dX7_ratios_79 rfl hl (by decide) rfl (fun ls hl => ?_)
                        refine lv_iinc (v := nI (t + 1)) (lv' := [(4, .int (nI (t + 1))), (3, .int (nI t)), (0, .ref m0), (1, .int sd), (2, .int em)]) hx hb dX7_ratios_80 hl (k := 1) rfl (nI_1 t) (by decide) rfl (fun ls hl => ?_)
                        refine lv_goto (tgt := 25) hx hb dX7_ratios_83 (by decide) ?_
                        exact ih4 (t + 1) (nI t) _ _ _ (by omega) (by first | exact Or.inr ⟨y9, hy9, rfl, hno9⟩ | exact Or.inr ⟨t, by omega, rfl, by assumption⟩ | exact hx2.elim (fun h => Or.inl ⟨h.1, fun p hp => by rcases Nat.lt_or_ge p t with g | g; exact h.2 p g; exact (by have e9 : p = t := (by omega); subst e9; exact ⟨z9, hz9, by assumption⟩)⟩) Or.inr) hP hD hS (lv_sub hl [0, 1, 2, 3, 4] rfl)
                · skip
                  refine lv_if_ge (tgt := 80) hx hb dX7_ratios_40 (by decide) (fun c14 => ?_) (fun c14 => ?_)
                  · skip
                    refine lv_iinc (v := nI (t + 1)) (lv' := [(4, .int (nI (t + 1))), (3, .int nx), (0, .ref m0), (1, .int sd), (2, .int em)]) hx hb dX7_ratios_80 hl (k := 0) rfl (nI_1 t) (by decide) rfl (fun ls hl => ?_)
                    refine lv_goto (tgt := 25) hx hb dX7_ratios_83 (by decide) ?_
                    exact ih4 (t + 1) nx _ _ _ (by omega) (by first | exact Or.inr ⟨y9, hy9, rfl, hno9⟩ | exact Or.inr ⟨t, by omega, rfl, by assumption⟩ | exact hx2.elim (fun h => Or.inl ⟨h.1, fun p hp => by rcases Nat.lt_or_ge p t with g | g; exact h.2 p g; exact (by have e9 : p = t := (by omega); subst e9; exact ⟨z9, hz9, by assumption⟩)⟩) Or.inr) hP hD hS (lv_sub hl [0, 1, 2, 3, 4] rfl)
                  · exact absurd c14 (by first | decide | exact nz_lt (by omega) | exact fun h => h (nz_ge (by omega)))
          exact loop4 (n + 1) 0 (-1 : Int32) _ _ _ (by omega) (Or.inl ⟨rfl, fun p hp => absurd hp (by omega)⟩) hP hD hS (lv_sub hl [0, 1, 2, 3, 4] rfl)
  exact loop1 (n + 1) 0 fo _ _ _ (by omega) (fun _ => ⟨rfl, rfl⟩) (⟨fun z hz => absurd hz (by omega), fun i j hi => absurd hi (by omega)⟩) hP hD hS (lv_sub hl [0, 1, 2] rfl)
