
theorem m_up {cv x n : Nat} (hc : cv < 3 ^ n) (hx : x < n) (hd : cv / 3 ^ x % 3 = 0) : cv + 2 * 3 ^ x < 3 ^ n := by
  have hP := m_p3p x
  have e : 3 ^ n = 3 ^ x * (3 * 3 ^ (n - x - 1)) := by
    rw [← Nat.pow_succ', ← Nat.pow_add]
    congr 1
    omega
  rw [e] at hc ⊢
  generalize 3 ^ (n - x - 1) = M at hc ⊢
  generalize 3 ^ x = P at hc hd hP ⊢
  have h1 : cv / P < 3 * M := Nat.div_lt_of_lt_mul hc
  have h2 : cv < P * (cv / P + 1) := Nat.lt_mul_div_succ cv hP
  have h3 : cv / P + 3 ≤ 3 * M := by omega
  have h4 : P * (cv / P + 3) ≤ P * (3 * M) := Nat.mul_le_mul_left P h3
  rw [Nat.mul_add] at h2 h4
  omega
theorem setN_full {cv : Nat} : ∀ k, (∀ z, z < k → ¬ cv / 3 ^ z % 3 = 0) → setN cv 1 k + setN cv 2 k + 1 = 2 ^ k
  | 0, _ => rfl
  | k + 1, h => by
    have g := setN_full (cv := cv) k (fun z hz => h z (by omega))
    have h1 := h k (by omega)
    have h2 : cv / 3 ^ k % 3 < 3 := Nat.mod_lt _ (by decide)
    show setN cv 1 k + (if cv / 3 ^ k % 3 = 1 then 2 ^ k else 0) + (setN cv 2 k + (if cv / 3 ^ k % 3 = 2 then 2 ^ k else 0)) + 1 = 2 ^ (k + 1)
    rw [Nat.pow_succ]
    generalize cv / 3 ^ k % 3 = d at h1 h2 ⊢
    rcases (show d = 1 ∨ d = 2 by omega) with rfl | rfl
    · rw [if_pos rfl, if_neg (by decide)]; omega
    · rw [if_neg (by decide), if_pos rfl]; omega
theorem uns_no {fs : Nat → Int32} {y n cv : Nat} (h : ¬ Sg fs y (setN cv 1 n) ∧ Sg fs y (2 ^ n - 1 - setN cv 2 n)) : ¬ ∀ z, z < n → ¬ cv / 3 ^ z % 3 = 0 := by
  intro g
  have e := setN_full n g
  rw [show 2 ^ n - 1 - setN cv 2 n = setN cv 1 n by omega] at h
  exact h.1 h.2
/-- a part that may be looked at in the state cv -/
def PV (n cv : Nat) (f : Nat → Int32) : Prop := ∃ x, x < n ∧ f cv = nI x ∧ cv / 3 ^ x % 3 = 0
theorem pv_set {n cv k : Nat} {f : Nat → Int32} (h : k < n) (hd : cv / 3 ^ k % 3 = 0) : PV n cv (upd f cv (nI k)) := ⟨k, h, by simp [upd], hd⟩
def rm_c_X7_orderNext : Room := { frames := 1, cells := 0, slots := 0, locals := 22 }
set_option maxHeartbeats 400000 in
set_option maxRecDepth 100000 in
theorem c_X7_orderNext (l : Launch) (D : va_G) (cI cJ cZ : ClassId) (m0 : Nat) (g1 : Nat) (g2 : Nat) (g3 : Nat) (g4 : Nat) (g5 : Nat) (g6 : Nat) (g7 : Nat) (g8 : Nat) (g9 : Nat) (g10 : Nat) (g11 : Nat) (g12 : Nat) (n : Nat) (q : Nat) (cv : Nat) (mr : Int32) (my : Int32) (ml : Int32) (fo : Nat → Int32) (th : Nat → Int32) (hn : n ≤ 9) (hcv : cv < 3 ^ n) (hq : q ≤ 9) (hfo : ∀ z, z < q → ∃ x, x < n ∧ fo z = nI x) (hth : ∀ z, z < 9 → th z = nI (3 ^ z)) : Met l yX7_orderNext wsX7_orderNext rm_c_X7_orderNext (pc_ D cI cJ cZ [.ref m0, .int (nI cv)] [(m0, .inr (7, [.int (nI n), .ref g1, .ref g2, .ref g3, .int mr, .ref g4, .int my, .ref g5, .int (nI q), .ref g6, .int ml, .ref g7, .ref g8, .ref g9, .ref g10, .ref g11, .ref g12])), (g6, .inl (cI, 9, .inl fo)), (g12, .inl (cI, 9, .inl th))]) (va_Qi (fun (r : Int32) (_ : Unit) => (r = -1 ∧ ∀ z, z < n → ¬ cv / 3 ^ z % 3 = 0) ∨ (∃ x, x < n ∧ r = nI x ∧ cv / 3 ^ x % 3 = 0)) (fun _ _ => True) aN) 0 0 aN := by
  refine Met.ofW (cc := cX7_orderNext) (maxL := 3) (ret := (some .int)) (by decide) rfl ?_
  intro p e s m args below meth c s₁ B hml hv
  obtain ⟨rfl, hP, hKN⟩ := hv
  have hK := hKN.1
  have hx := B.exec
  have hb := B.bytes
  have hr := B.returns
  have hts := atoms_spec (ws := wsX7_orderNext) B.pre
  have hown : s.vm.findClass RX7 = some m.cls := findClass_of_methodNamed B.named
  have hlocks := B.notSynchronized
  have hiX7 : ∀ w ∈ wsX70, w ∈ wsX7_orderNext := by decide +kernel
  have hf7 := hts (.fieldLink RX7 7 "LookBenchModel" "parts" "I") (by decide +kernel)
  have hf33 := hts (.fieldLink RX7 33 "LookBenchModel" "order" "[I") (by decide +kernel)
  have hf64 := hts (.fieldLink RX7 64 "LookBenchModel" "ordered" "I") (by decide +kernel)
  have hS : va_S aN s.heap s.heap [] := va_S.rf
  have hl := lv_entry ([.ref m0, .int (nI cv)]) (n := 3) (Nat.le_of_ble_eq_true rfl)
  rw [lg_entry_eq]
  generalize (lg_sl ([.ref m0, .int (nI cv)]) ++ List.replicate (3 - (lg_sl ([.ref m0, .int (nI cv)])).length) Slot.unset).toArray = ls at hl ⊢
  have hl : lv_has ls 3 [(0, .ref m0), (1, .int (nI cv))] := hl
  generalize hQ : MQ below _ _ s _ _ _ = Q
  obtain ⟨H, hH⟩ : ∃ z, z = s.heap := ⟨_, rfl⟩
  have hP : va_P D vwCl [(m0, .inr (7, [.int (nI n), .ref g1, .ref g2, .ref g3, .int mr, .ref g4, .int my, .ref g5, .int (nI q), .ref g6, .int ml, .ref g7, .ref g8, .ref g9, .ref g10, .ref g11, .ref g12])), (g6, .inl (cI, 9, .inl fo)), (g12, .inl (cI, 9, .inl th))] H := by rw [hH]; exact hP
  have hS : va_S aN s.heap H [] := by rw [hH]; exact hS
  refine m_heap hH ?_
  clear hH
  have h3n := m_p3 hn
  refine lv_iconst (v := nI 0) hx hb dX7_orderNext_0 (by decide) ?_
  refine lv_istore_n (lv' := [(2, .int (nI 0)), (0, .ref m0), (1, .int (nI cv))]) hx hb dX7_orderNext_1 rfl hl (by decide) rfl (fun ls hl => ?_)
  have loop1 : ∀ (fu : Nat) (k : Nat) (H : Heap) (locs : List Loc) (ls : Array Slot), (k ≤ q ∧ q < k + fu) → va_P D vwCl [(m0, .inr (7, [.int (nI n), .ref g1, .ref g2, .ref g3, .int mr, .ref g4, .int my, .ref g5, .int (nI q), .ref g6, .int ml, .ref g7, .ref g8, .ref g9, .ref g10, .ref g11, .ref g12])), (g6, .inl (cI, 9, .inl fo)), (g12, .inl (cI, 9, .inl th))] H → va_S aN s.heap H locs → lv_has ls 3 [(2, .int (nI k)), (0, .ref m0), (1, .int (nI cv))] → W p l e (headSpec wsX7_orderNext rm_c_X7_orderNext).room s m ([.ref m0, .int (nI cv)] : List Value).toArray below meth c H locs 0 0 Q (F0 m 2 ls []) := by
    intro fu
    induction fu with
    | zero => intro k H locs ls hk; exact absurd hk (by omega)
    | succ fu ih1 =>
      intro k H locs ls hk hP hS hl
      refine lv_iload_n hx hb dX7_orderNext_2 rfl (lv_at hl 0 rfl) ?_
      refine lv_aload_n hx hb dX7_orderNext_3 rfl (lv_at hl 1 rfl) ?_
      refine va_get (D := D) (ci := 7) (v := .int (nI q)) (C := RX7) (T := TX7) (N := 17) hx hb hts hiX7 hown hK hP 0 rfl rfl 8 (by decide) hf64 (fun _ h9 => h9) rfl dX7_orderNext_4 ?_
      refine lv_icmp_ge (tgt := 37) hx hb dX7_orderNext_7 (by decide) (fun c2 => ?_) (fun c2 => ?_)
      · skip
        have d2 := c2
        rw [nI_leI (by omega) (by omega)] at d2
        refine lv_iconst (v := nI 0) hx hb dX7_orderNext_37 (by decide) ?_
        refine lv_istore_n (lv' := [(2, .int (nI 0)), (0, .ref m0), (1, .int (nI cv))]) hx hb dX7_orderNext_38 rfl hl (by decide) rfl (fun ls hl => ?_)
        have loop3 : ∀ (fu : Nat) (t : Nat) (H : Heap) (locs : List Loc) (ls : Array Slot), (t ≤ n ∧ n < t + fu) → (∀ z, z < t → ¬ cv / 3 ^ z % 3 = 0) → va_P D vwCl [(m0, .inr (7, [.int (nI n), .ref g1, .ref g2, .ref g3, .int mr, .ref g4, .int my, .ref g5, .int (nI q), .ref g6, .int ml, .ref g7, .ref g8, .ref g9, .ref g10, .ref g11, .ref g12])), (g6, .inl (cI, 9, .inl fo)), (g12, .inl (cI, 9, .inl th))] H → va_S aN s.heap H locs → lv_has ls 3 [(2, .int (nI t)), (0, .ref m0), (1, .int (nI cv))] → W p l e (headSpec wsX7_orderNext rm_c_X7_orderNext).room s m ([.ref m0, .int (nI cv)] : List Value).toArray below meth c H locs 0 0 Q (F0 m 39 ls []) := by
          intro fu
          induction fu with
          | zero => intro t H locs ls ht hi; exact absurd ht (by omega)
          | succ fu ih3 =>
            intro t H locs ls ht hi hP hS hl
            refine lv_iload_n hx hb dX7_orderNext_39 rfl (lv_at hl 0 rfl) ?_
            refine lv_aload_n hx hb dX7_orderNext_40 rfl (lv_at hl 1 rfl) ?_
            refine va_get (D := D) (ci := 7) (v := .int (nI n)) (C := RX7) (T := TX7) (N := 17) hx hb hts hiX7 hown hK hP 0 rfl rfl 0 (by decide) hf7 (fun _ h9 => h9) rfl dX7_orderNext_41 ?_
            refine lv_icmp_ge (tgt := 64) hx hb dX7_orderNext_44 (by decide) (fun c4 => ?_) (fun c4 => ?_)
            · skip
              have d4 := c4
              rw [nI_leI (by omega) (by omega)] at d4
              refine lv_iconst (v := (-1 : Int32)) hx hb dX7_orderNext_64 (by decide) ?_
              rw [← hQ]
              exact W.iret (v := (-1 : Int32)) hx hb hr (fun tS htS hWS => ⟨⟨(-1 : Int32), (), rfl, Or.inl ⟨rfl, fun z hz => hi z (by omega)⟩, trivial⟩, hS.F htS⟩) hS.2.2 dX7_orderNext_65
            · skip
              have d4 := c4
              rw [nI_leI (by omega) (by omega)] at d4
              refine lv_aload_n hx hb dX7_orderNext_47 rfl (lv_at hl 1 rfl) ?_
              refine lv_iload_n hx hb dX7_orderNext_48 rfl (lv_at hl 2 rfl) ?_
              refine lv_iload_n hx hb dX7_orderNext_49 rfl (lv_at hl 0 rfl) ?_
              refine pu_i (va_runV (As := [.int (nI cv), .int (nI t)]) (rest := []) ⟨hx, hb, hml, hown, hts⟩ (c_X7_digit_g l D cI cJ cZ m0 g1 g2 g3 g4 g5 g6 g7 g8 g9 g10 g11 g12 t cv (nI n) mr my (nI q) ml th (by first | assumption | omega) (by first | assumption | omega) (by first | assumption | omega)) (cwV 2 hts gX7_orderNext_X7_digit rfl rfl rfl (by decide +kernel) ⟨Nat.le_of_ble_eq_true rfl, Nat.le_of_ble_eq_true rfl⟩) ⟨pc_blind, va_recv hK hP (ci := 7) (q0 := 0) rfl rfl, fun U hU hW => ⟨rfl, by rw [hU]; exact hP.sub (ws' := [(m0, .inr (7, [.int (nI n), .ref g1, .ref g2, .ref g3, .int mr, .ref g4, .int my, .ref g5, .int (nI q), .ref g6, .int ml, .ref g7, .ref g8, .ref g9, .ref g10, .ref g11, .ref g12])), (g12, .inl (cI, 9, .inl th))]) [0, 2] rfl, hKN.warm hW⟩⟩ rfl rfl hl.1 rfl (lv_room (Nat.le_of_ble_eq_true rfl)) dX7_orderNext_50 ⟨Nat.le_of_ble_eq_true rfl, Nat.le_of_ble_eq_true rfl⟩) hS hP (fun r5 H locs w5r hP hS => ?_)
              have w5 : r5 = nI (cv / 3 ^ t % 3) := w5r
              clear w5r
              obtain rfl : r5 = nI (cv / 3 ^ t % 3) := w5
              refine lv_if_ne (tgt := 58) hx hb dX7_orderNext_53 (by decide) (fun c6 => ?_) (fun c6 => ?_)
              · skip
                have d6 := c6
                rw [nz_eq (by omega)] at d6
                refine lv_iinc (v := nI (t + 1)) (lv' := [(2, .int (nI (t + 1))), (0, .ref m0), (1, .int (nI cv))]) hx hb dX7_orderNext_58 hl (k := 0) rfl (nI_1 t) (by decide) rfl (fun ls hl => ?_)
                refine lv_goto (tgt := 39) hx hb dX7_orderNext_61 (by decide) ?_
                exact ih3 (t + 1) _ _ _ (by omega) (fun z hz => by rcases Nat.lt_or_ge z t with h | h; exact hi z h; exact (by have e9 : z = t := (by omega); subst e9; assumption)) hP hS (lv_sub hl [0, 1, 2] rfl)
              · skip
                have d6 := c6
                rw [nz_eq (by omega)] at d6
                refine lv_iload_n hx hb dX7_orderNext_56 rfl (lv_at hl 0 rfl) ?_
                rw [← hQ]
                exact W.iret (v := nI t) hx hb hr (fun tS htS hWS => ⟨⟨(nI t), (), rfl, Or.inr ⟨t, by omega, rfl, by omega⟩, trivial⟩, hS.F htS⟩) hS.2.2 dX7_orderNext_57
        exact loop3 (n + 1) 0 _ _ _ (by omega) (fun z hz => absurd hz (by omega)) hP hS (lv_sub hl [0, 1, 2] rfl)
      · skip
        have d2 := c2
        rw [nI_leI (by omega) (by omega)] at d2
        refine lv_aload_n hx hb dX7_orderNext_10 rfl (lv_at hl 1 rfl) ?_
        refine lv_iload_n hx hb dX7_orderNext_11 rfl (lv_at hl 2 rfl) ?_
        refine lv_aload_n hx hb dX7_orderNext_12 rfl (lv_at hl 1 rfl) ?_
        refine va_get (D := D) (ci := 7) (v := .ref g6) (C := RX7) (T := TX7) (N := 17) hx hb hts hiX7 hown hK hP 0 rfl rfl 9 (by decide) hf33 (fun _ h9 => h9) rfl dX7_orderNext_13 ?_
        refine lv_iload_n hx hb dX7_orderNext_16 rfl (lv_at hl 0 rfl) ?_
        obtain ⟨x9, hx9, ex9⟩ := hfo k (by omega)
        refine va_iald hx hb hK hP 1 0 rfl rfl (i := nI k) (vp_in_nI (by omega) (by omega)) dX7_orderNext_17 ?_
        refine cn_i (y := nI x9) ((congrArg fo (nI_clamp (by omega))).trans ex9) ?_
        refine pu_i (va_runV (As := [.int (nI cv), .int (nI x9)]) (rest := []) ⟨hx, hb, hml, hown, hts⟩ (c_X7_digit_g l D cI cJ cZ m0 g1 g2 g3 g4 g5 g6 g7 g8 g9 g10 g11 g12 x9 cv (nI n) mr my (nI q) ml th (by first | assumption | omega) (by first | assumption | omega) (by first | assumption | omega)) (cwV 2 hts gX7_orderNext_X7_digit rfl rfl rfl (by decide +kernel) ⟨Nat.le_of_ble_eq_true rfl, Nat.le_of_ble_eq_true rfl⟩) ⟨pc_blind, va_recv hK hP (ci := 7) (q0 := 0) rfl rfl, fun U hU hW => ⟨rfl, by rw [hU]; exact hP.sub (ws' := [(m0, .inr (7, [.int (nI n), .ref g1, .ref g2, .ref g3, .int mr, .ref g4, .int my, .ref g5, .int (nI q), .ref g6, .int ml, .ref g7, .ref g8, .ref g9, .ref g10, .ref g11, .ref g12])), (g12, .inl (cI, 9, .inl th))]) [0, 2] rfl, hKN.warm hW⟩⟩ rfl rfl hl.1 rfl (lv_room (Nat.le_of_ble_eq_true rfl)) dX7_orderNext_18 ⟨Nat.le_of_ble_eq_true rfl, Nat.le_of_ble_eq_true rfl⟩) hS hP (fun r7 H locs w7r hP hS => ?_)
        have w7 : r7 = nI (cv / 3 ^ x9 % 3) := w7r
        clear w7r
        obtain rfl : r7 = nI (cv / 3 ^ x9 % 3) := w7
        refine lv_if_ne (tgt := 31) hx hb dX7_orderNext_21 (by decide) (fun c8 => ?_) (fun c8 => ?_)
        · skip
          have d8 := c8
          rw [nz_eq (by omega)] at d8
          refine lv_iinc (v := nI (k + 1)) (lv' := [(2, .int (nI (k + 1))), (0, .ref m0), (1, .int (nI cv))]) hx hb dX7_orderNext_31 hl (k := 0) rfl (nI_1 k) (by decide) rfl (fun ls hl => ?_)
          refine lv_goto (tgt := 2) hx hb dX7_orderNext_34 (by decide) ?_
          exact ih1 (k + 1) _ _ _ (by omega) hP hS (lv_sub hl [0, 1, 2] rfl)
        · skip
          have d8 := c8
          rw [nz_eq (by omega)] at d8
          refine lv_aload_n hx hb dX7_orderNext_24 rfl (lv_at hl 1 rfl) ?_
          refine va_get (D := D) (ci := 7) (v := .ref g6) (C := RX7) (T := TX7) (N := 17) hx hb hts hiX7 hown hK hP 0 rfl rfl 9 (by decide) hf33 (fun _ h9 => h9) rfl dX7_orderNext_25 ?_
          refine lv_iload_n hx hb dX7_orderNext_28 rfl (lv_at hl 0 rfl) ?_
          refine va_iald hx hb hK hP 1 0 rfl rfl (i := nI k) (vp_in_nI (by omega) (by omega)) dX7_orderNext_29 ?_
          refine cn_i (y := nI x9) ((congrArg fo (nI_clamp (by omega))).trans ex9) ?_
          rw [← hQ]
          exact W.iret (v := nI x9) hx hb hr (fun tS htS hWS => ⟨⟨(nI x9), (), rfl, Or.inr ⟨x9, hx9, rfl, by omega⟩, trivial⟩, hS.F htS⟩) hS.2.2 dX7_orderNext_30
  exact loop1 (q + 1) 0 _ _ _ (by omega) hP hS (lv_sub hl [0, 1, 2] rfl)
def rm_c_X7_byOrder : Room := { frames := 3, cells := 0, slots := 0, locals := 67 }
set_option maxHeartbeats 400000 in
set_option maxRecDepth 100000 in
theorem c_X7_byOrder (l : Launch) (D : va_G) (cI cJ cZ : ClassId) (m0 : Nat) (g1 : Nat) (g2 : Nat) (g3 : Nat) (g4 : Nat) (g5 : Nat) (g6 : Nat) (g7 : Nat) (g8 : Nat) (g9 : Nat) (g10 : Nat) (g11 : Nat) (g12 : Nat) (n : Nat) (q : Nat) (cv : Nat) (y : Nat) (mr : Int32) (ml : Int32) (st : Int32) (fp : Nat → Int32) (fs : Nat → Int32) (fo : Nat → Int32) (th : Nat → Int32) (hn : n ≤ 9) (hcv : cv < 3 ^ n) (hy : y < 40) (hq : q ≤ 9) (hfo : ∀ z, z < q → ∃ x, x < n ∧ fo z = nI x) (hth : ∀ z, z < 9 → th z = nI (3 ^ z)) (h01 : T01 fs) : Met l yX7_byOrder wsX7_byOrder rm_c_X7_byOrder (pc_ D cI cJ cZ [.ref m0, .int st, .int (nI cv)] [(m0, .inr (7, [.int (nI n), .ref g1, .ref g2, .ref g3, .int mr, .ref g4, .int (nI y), .ref g5, .int (nI q), .ref g6, .int ml, .ref g7, .ref g8, .ref g9, .ref g10, .ref g11, .ref g12])), (g3, .inl (cI, 9, .inl fp)), (g4, .inl (cZ, 20480, .inl fs)), (g6, .inl (cI, 9, .inl fo)), (g12, .inl (cI, 9, .inl th))]) (va_Qi (fun (r : Int32) (_ : Unit) => True) (fun _ _ => True) aN) 0 0 aN := by
  refine Met.ofW (cc := cX7_byOrder) (maxL := 6) (ret := (some .int)) (by decide) rfl ?_
  intro p e s m args below meth c s₁ B hml hv
  obtain ⟨rfl, hP, hKN⟩ := hv
  have hK := hKN.1
  have hx := B.exec
  have hb := B.bytes
  have hr := B.returns
  have hts := atoms_spec (ws := wsX7_byOrder) B.pre
  have hown : s.vm.findClass RX7 = some m.cls := findClass_of_methodNamed B.named
  have hlocks := B.notSynchronized
  have hiX7 : ∀ w ∈ wsX70, w ∈ wsX7_byOrder := by decide +kernel
  have hf20 := hts (.fieldLink RX7 20 "LookBenchModel" "price" "[I") (by decide +kernel)
  have hf52 := hts (.fieldLink RX7 52 "LookBenchModel" "three" "[I") (by decide +kernel)
  have hS : va_S aN s.heap s.heap [] := va_S.rf
  have hl := lv_entry ([.ref m0, .int st, .int (nI cv)]) (n := 6) (Nat.le_of_ble_eq_true rfl)
  rw [lg_entry_eq]
  generalize (lg_sl ([.ref m0, .int st, .int (nI cv)]) ++ List.replicate (6 - (lg_sl ([.ref m0, .int st, .int (nI cv)])).length) Slot.unset).toArray = ls at hl ⊢
  have hl : lv_has ls 6 [(0, .ref m0), (1, .int st), (2, .int (nI cv))] := hl
  generalize hQ : MQ below _ _ s _ _ _ = Q
  obtain ⟨H, hH⟩ : ∃ z, z = s.heap := ⟨_, rfl⟩
  have hP : va_P D vwCl [(m0, .inr (7, [.int (nI n), .ref g1, .ref g2, .ref g3, .int mr, .ref g4, .int (nI y), .ref g5, .int (nI q), .ref g6, .int ml, .ref g7, .ref g8, .ref g9, .ref g10, .ref g11, .ref g12])), (g3, .inl (cI, 9, .inl fp)), (g4, .inl (cZ, 20480, .inl fs)), (g6, .inl (cI, 9, .inl fo)), (g12, .inl (cI, 9, .inl th))] H := by rw [hH]; exact hP
  have hS : va_S aN s.heap H [] := by rw [hH]; exact hS
  refine m_heap hH ?_
  clear hH
  have h3n := m_p3 hn
  refine lv_iload_n hx hb dX7_byOrder_0 rfl (lv_at hl 2 rfl) ?_
  refine lv_istore_n (lv' := [(3, .int (nI cv)), (0, .ref m0), (1, .int st), (2, .int (nI cv))]) hx hb dX7_byOrder_1 rfl hl (by decide) rfl (fun ls hl => ?_)
  refine lv_iconst (v := nI 0) hx hb dX7_byOrder_2 (by decide) ?_
  refine lv_istore (lv' := [(4, .int (nI 0)), (3, .int (nI cv)), (0, .ref m0), (1, .int st), (2, .int (nI cv))]) hx hb dX7_byOrder_3 hl (by decide) rfl (fun ls hl => ?_)
  have loop1 : ∀ (fu : Nat) (u0 : Nat) (v : Int32) (H : Heap) (locs : List Loc) (ls : Array Slot), (u0 < 3 ^ n ∧ 3 ^ n ≤ u0 + fu) → va_P D vwCl [(m0, .inr (7, [.int (nI n), .ref g1, .ref g2, .ref g3, .int mr, .ref g4, .int (nI y), .ref g5, .int (nI q), .ref g6, .int ml, .ref g7, .ref g8, .ref g9, .ref g10, .ref g11, .ref g12])), (g3, .inl (cI, 9, .inl fp)), (g4, .inl (cZ, 20480, .inl fs)), (g6, .inl (cI, 9, .inl fo)), (g12, .inl (cI, 9, .inl th))] H → va_S aN s.heap H locs → lv_has ls 6 [(4, .int v), (3, .int (nI u0)), (0, .ref m0), (1, .int st), (2, .int (nI cv))] → W p l e (headSpec wsX7_byOrder rm_c_X7_byOrder).room s m ([.ref m0, .int st, .int (nI cv)] : List Value).toArray below meth c H locs 0 0 Q (F0 m 5 ls []) := by
    intro fu
    induction fu with
    | zero => intro u0 v H locs ls hu; exact absurd hu (by omega)
    | succ fu ih1 =>
      intro u0 v H locs ls hu hP hS hl
      refine lv_aload_n hx hb dX7_byOrder_5 rfl (lv_at hl 2 rfl) ?_
      refine lv_iload_n hx hb dX7_byOrder_6 rfl (lv_at hl 1 rfl) ?_
      refine pu_i (va_runV (As := [.int (nI u0)]) (rest := []) ⟨hx, hb, hml, hown, hts⟩ (c_X7_sureAt l D cI cJ cZ m0 g1 g2 g3 g4 g5 g6 g7 g8 g9 g10 g11 g12 n u0 y mr (nI q) ml fs th (by first | assumption | omega) (by first | assumption | omega) (by first | assumption | omega) (by first | assumption | omega) (by first | assumption | omega)) (cwV 1 hts gX7_byOrder_X7_sureAt rfl rfl rfl (by decide +kernel) ⟨Nat.le_of_ble_eq_true rfl, Nat.le_of_ble_eq_true rfl⟩) ⟨pc_blind, va_recv hK hP (ci := 7) (q0 := 0) rfl rfl, fun U hU hW => ⟨rfl, by rw [hU]; exact hP.sub (ws' := [(m0, .inr (7, [.int (nI n), .ref g1, .ref g2, .ref g3, .int mr, .ref g4, .int (nI y), .ref g5, .int (nI q), .ref g6, .int ml, .ref g7, .ref g8, .ref g9, .ref g10, .ref g11, .ref g12])), (g4, .inl (cZ, 20480, .inl fs)), (g12, .inl (cI, 9, .inl th))]) [0, 2, 4] rfl, hKN.warm hW⟩⟩ rfl rfl hl.1 rfl (lv_room (Nat.le_of_ble_eq_true rfl)) dX7_byOrder_7 ⟨Nat.le_of_ble_eq_true rfl, Nat.le_of_ble_eq_true rfl⟩) hS hP (fun r2 H locs w2r hP hS => ?_)
      have w2 : (r2 = nI 1 ∧ Sg fs y (setN u0 1 n)) ∨ (r2 = -1 ∧ ¬ Sg fs y (setN u0 1 n) ∧ Sg fs y (2 ^ n - 1 - setN u0 2 n)) ∨ (r2 = nI 0 ∧ ¬ Sg fs y (setN u0 1 n) ∧ ¬ Sg fs y (2 ^ n - 1 - setN u0 2 n)) := w2r
      clear w2r
      rcases w2 with ⟨rfl, w2⟩ | ⟨rfl, w2⟩ | ⟨rfl, w2⟩
      · skip
        refine lv_iconst (v := (-1 : Int32)) hx hb dX7_byOrder_10 (by decide) ?_
        refine lv_icmp_ne (tgt := 62) hx hb dX7_byOrder_11 (by decide) (fun c3 => ?_) (fun c3 => ?_)
        · skip
          refine lv_iload hx hb dX7_byOrder_62 (lv_at hl 0 rfl) ?_
          rw [← hQ]
          exact W.iret (v := v) hx hb hr (fun tS htS hWS => ⟨⟨v, (), rfl, trivial, trivial⟩, hS.F htS⟩) hS.2.2 dX7_byOrder_64
        · exact absurd c3 (by first | decide | exact nz_lt (by omega) | exact fun h => h (nz_ge (by omega)))
      · skip
        refine lv_iconst (v := (-1 : Int32)) hx hb dX7_byOrder_10 (by decide) ?_
        refine lv_icmp_ne (tgt := 62) hx hb dX7_byOrder_11 (by decide) (fun c4 => ?_) (fun c4 => ?_)
        · exact absurd c4 (by first | decide | exact nz_lt (by omega) | exact fun h => h (nz_ge (by omega)))
        · skip
          refine lv_aload_n hx hb dX7_byOrder_14 rfl (lv_at hl 2 rfl) ?_
          refine lv_iload_n hx hb dX7_byOrder_15 rfl (lv_at hl 1 rfl) ?_
          refine pu_i (va_runV (As := [.int (nI u0)]) (rest := []) ⟨hx, hb, hml, hown, hts⟩ (c_X7_orderNext l D cI cJ cZ m0 g1 g2 g3 g4 g5 g6 g7 g8 g9 g10 g11 g12 n q u0 mr (nI y) ml fo th (by first | assumption | omega) (by first | assumption | omega) (by first | assumption | omega) (by first | assumption | omega) (by first | assumption | omega)) (cwV 1 hts gX7_byOrder_X7_orderNext rfl rfl rfl (by decide +kernel) ⟨Nat.le_of_ble_eq_true rfl, Nat.le_of_ble_eq_true rfl⟩) ⟨pc_blind, va_recv hK hP (ci := 7) (q0 := 0) rfl rfl, fun U hU hW => ⟨rfl, by rw [hU]; exact hP.sub (ws' := [(m0, .inr (7, [.int (nI n), .ref g1, .ref g2, .ref g3, .int mr, .ref g4, .int (nI y), .ref g5, .int (nI q), .ref g6, .int ml, .ref g7, .ref g8, .ref g9, .ref g10, .ref g11, .ref g12])), (g6, .inl (cI, 9, .inl fo)), (g12, .inl (cI, 9, .inl th))]) [0, 3, 4] rfl, hKN.warm hW⟩⟩ rfl rfl hl.1 rfl (lv_room (Nat.le_of_ble_eq_true rfl)) dX7_byOrder_16 ⟨Nat.le_of_ble_eq_true rfl, Nat.le_of_ble_eq_true rfl⟩) hS hP (fun r5 H locs w5r hP hS => ?_)
          have w5 : (r5 = -1 ∧ ∀ z, z < n → ¬ u0 / 3 ^ z % 3 = 0) ∨ (∃ x, x < n ∧ r5 = nI x ∧ u0 / 3 ^ x % 3 = 0) := w5r
          clear w5r
          rcases w5 with ⟨rfl, w5⟩ | ⟨x9, hx9, rfl, w5⟩
          · exact absurd w5 (uns_no w2)
          · skip
            refine lv_istore (lv' := [(5, .int (nI x9)), (4, .int v), (3, .int (nI u0)), (0, .ref m0), (1, .int st), (2, .int (nI cv))]) hx hb dX7_byOrder_19 hl (by decide) rfl (fun ls hl => ?_)
            refine lv_iload hx hb dX7_byOrder_21 (lv_at hl 1 rfl) ?_
            refine lv_aload_n hx hb dX7_byOrder_23 rfl (lv_at hl 3 rfl) ?_
            refine va_get (D := D) (ci := 7) (v := .ref g3) (C := RX7) (T := TX7) (N := 17) hx hb hts hiX7 hown hK hP 0 rfl rfl 3 (by decide) hf20 (fun _ h9 => h9) rfl dX7_byOrder_24 ?_
            refine lv_iload hx hb dX7_byOrder_27 (lv_at hl 0 rfl) ?_
            refine va_iald hx hb hK hP 1 0 rfl rfl (i := nI x9) (vp_in_nI (by omega) (by omega)) dX7_byOrder_29 ?_
            refine cn_i (y := fp x9) (congrArg fp (nI_clamp (by omega))) ?_
            refine lv_iadd hx hb dX7_byOrder_30 ?_
            refine lv_istore (lv' := [(4, .int (v + (fp x9))), (5, .int (nI x9)), (3, .int (nI u0)), (0, .ref m0), (1, .int st), (2, .int (nI cv))]) hx hb dX7_byOrder_31 hl (by decide) rfl (fun ls hl => ?_)
            refine lv_iload_n hx hb dX7_byOrder_33 rfl (lv_at hl 2 rfl) ?_
            refine lv_aload_n hx hb dX7_byOrder_34 rfl (lv_at hl 3 rfl) ?_
            refine va_get (D := D) (ci := 7) (v := .ref g12) (C := RX7) (T := TX7) (N := 17) hx hb hts hiX7 hown hK hP 0 rfl rfl 16 (by decide) hf52 (fun _ h9 => h9) rfl dX7_byOrder_35 ?_
            refine lv_iload hx hb dX7_byOrder_38 (lv_at hl 1 rfl) ?_
            refine va_iald hx hb hK hP 4 0 rfl rfl (i := nI x9) (vp_in_nI (by omega) (by omega)) dX7_byOrder_40 ?_
            refine cn_i (y := nI (3 ^ x9)) ((congrArg th (nI_clamp (by omega))).trans (hth x9 (by omega))) ?_
            have hs1 := sb_lt st x9
            refine lv_iload_n hx hb dX7_byOrder_41 rfl (lv_at hl 4 rfl) ?_
            refine lv_iload hx hb dX7_byOrder_42 (lv_at hl 1 rfl) ?_
            refine lv_ishr hx hb dX7_byOrder_44 ?_
            refine lv_iconst (v := nI 1) hx hb dX7_byOrder_45 (by decide) ?_
            refine lv_iand hx hb dX7_byOrder_46 ?_
            refine cn_i (y := nI (sb st x9)) (sb_ok st x9) ?_
            refine lv_iconst (v := nI 1) hx hb dX7_byOrder_47 (by decide) ?_
            refine lv_icmp_ne (tgt := 55) hx hb dX7_byOrder_48 (by decide) (fun c6 => ?_) (fun c6 => ?_)
            · skip
              have d6 := c6
              rw [nI_eq (by omega) (by omega)] at d6
              refine lv_iconst (v := nI 2) hx hb dX7_byOrder_55 (by decide) ?_
              refine lv_imul hx hb dX7_byOrder_56 ?_
              refine cn_i (y := nI ((3 ^ x9) * 2)) (pk_mul (3 ^ x9) 2) ?_
              refine lv_iadd hx hb dX7_byOrder_57 ?_
              refine cn_i (y := nI (u0 + ((3 ^ x9) * 2))) (nI_add u0 ((3 ^ x9) * 2)) ?_
              refine lv_istore_n (lv' := [(3, .int (nI (u0 + ((3 ^ x9) * 2)))), (4, .int (v + (fp x9))), (5, .int (nI x9)), (0, .ref m0), (1, .int st), (2, .int (nI cv))]) hx hb dX7_byOrder_58 rfl hl (by decide) rfl (fun ls hl => ?_)
              refine lv_goto (tgt := 5) hx hb dX7_byOrder_59 (by decide) ?_
              exact ih1 (u0 + ((3 ^ x9) * 2)) (v + (fp x9)) _ _ _ (by have h8 := m_up (n := n) hu.1 hx9 w5; have h9 := m_p3p x9; omega) hP hS (lv_sub hl [1, 0, 3, 4, 5] rfl)
            · skip
              have d6 := c6
              rw [nI_eq (by omega) (by omega)] at d6
              refine lv_iconst (v := nI 1) hx hb dX7_byOrder_51 (by decide) ?_
              refine lv_goto (tgt := 56) hx hb dX7_byOrder_52 (by decide) ?_
              refine lv_imul hx hb dX7_byOrder_56 ?_
              refine cn_i (y := nI ((3 ^ x9) * 1)) (pk_mul (3 ^ x9) 1) ?_
              refine lv_iadd hx hb dX7_byOrder_57 ?_
              refine cn_i (y := nI (u0 + ((3 ^ x9) * 1))) (nI_add u0 ((3 ^ x9) * 1)) ?_
              refine lv_istore_n (lv' := [(3, .int (nI (u0 + ((3 ^ x9) * 1)))), (4, .int (v + (fp x9))), (5, .int (nI x9)), (0, .ref m0), (1, .int st), (2, .int (nI cv))]) hx hb dX7_byOrder_58 rfl hl (by decide) rfl (fun ls hl => ?_)
              refine lv_goto (tgt := 5) hx hb dX7_byOrder_59 (by decide) ?_
              exact ih1 (u0 + ((3 ^ x9) * 1)) (v + (fp x9)) _ _ _ (by have h8 := m_up (n := n) hu.1 hx9 w5; have h9 := m_p3p x9; omega) hP hS (lv_sub hl [1, 0, 3, 4, 5] rfl)
      · skip
        refine lv_iconst (v := (-1 : Int32)) hx hb dX7_byOrder_10 (by decide) ?_
        refine lv_icmp_ne (tgt := 62) hx hb dX7_byOrder_11 (by decide) (fun c7 => ?_) (fun c7 => ?_)
        · skip
          refine lv_iload hx hb dX7_byOrder_62 (lv_at hl 0 rfl) ?_
          rw [← hQ]
          exact W.iret (v := v) hx hb hr (fun tS htS hWS => ⟨⟨v, (), rfl, trivial, trivial⟩, hS.F htS⟩) hS.2.2 dX7_byOrder_64
        · exact absurd c7 (by first | decide | exact nz_lt (by omega) | exact fun h => h (nz_ge (by omega)))
  exact loop1 (3 ^ n) cv (nI 0) _ _ _ (by omega) hP hS (lv_sub hl [0, 1, 2, 3, 4] rfl)
def rm_c_X7_digit : Room := { frames := 0, cells := 0, slots := 0, locals := 0 }
set_option maxHeartbeats 400000 in
set_option maxRecDepth 100000 in
theorem c_X7_digit (l : Launch) (D : va_G) (cI cJ cZ : ClassId) (m0 : Nat) (g1 : Nat) (g2 : Nat) (g3 : Nat) (g4 : Nat) (g5 : Nat) (g6 : Nat) (g7 : Nat) (g8 : Nat) (g9 : Nat) (g10 : Nat) (g11 : Nat) (g12 : Nat) (j : Nat) (mp : Int32) (mr : Int32) (my : Int32) (mo : Int32) (ml : Int32) (cc0 : Int32) (th : Nat → Int32) (hj : j < 9) (ht : ¬ th j = 0) : Met l yX7_digit wsX7_digit rm_c_X7_digit (pc_ D cI cJ cZ [.ref m0, .int cc0, .int (nI j)] [(m0, .inr (7, [.int mp, .ref g1, .ref g2, .ref g3, .int mr, .ref g4, .int my, .ref g5, .int mo, .ref g6, .int ml, .ref g7, .ref g8, .ref g9, .ref g10, .ref g11, .ref g12])), (g12, .inl (cI, 9, .inl th))]) (va_Qi (fun (r : Int32) (_ : Unit) => r = dgt th cc0 j) (fun _ _ => True) aN) 0 0 aN := by
  refine Met.ofW (cc := cX7_digit) (maxL := 3) (ret := (some .int)) (by decide) rfl ?_
  intro p e s m args below meth c s₁ B hml hv
  obtain ⟨rfl, hP, hKN⟩ := hv
  have hK := hKN.1
  have hx := B.exec
  have hb := B.bytes
  have hr := B.returns
  have hts := atoms_spec (ws := wsX7_digit) B.pre
  have hown : s.vm.findClass RX7 = some m.cls := findClass_of_methodNamed B.named
  have hlocks := B.notSynchronized
  have hiX7 : ∀ w ∈ wsX70, w ∈ wsX7_digit := by decide +kernel
  have hf52 := hts (.fieldLink RX7 52 "LookBenchModel" "three" "[I") (by decide +kernel)
  have hS : va_S aN s.heap s.heap [] := va_S.rf
  have hl := lv_entry ([.ref m0, .int cc0, .int (nI j)]) (n := 3) (Nat.le_of_ble_eq_true rfl)
  rw [lg_entry_eq]
  generalize (lg_sl ([.ref m0, .int cc0, .int (nI j)]) ++ List.replicate (3 - (lg_sl ([.ref m0, .int cc0, .int (nI j)])).length) Slot.unset).toArray = ls at hl ⊢
  have hl : lv_has ls 3 [(0, .ref m0), (1, .int cc0), (2, .int (nI j))] := hl
  generalize hQ : MQ below _ _ s _ _ _ = Q
  obtain ⟨H, hH⟩ : ∃ z, z = s.heap := ⟨_, rfl⟩
  have hP : va_P D vwCl [(m0, .inr (7, [.int mp, .ref g1, .ref g2, .ref g3, .int mr, .ref g4, .int my, .ref g5, .int mo, .ref g6, .int ml, .ref g7, .ref g8, .ref g9, .ref g10, .ref g11, .ref g12])), (g12, .inl (cI, 9, .inl th))] H := by rw [hH]; exact hP
  have hS : va_S aN s.heap H [] := by rw [hH]; exact hS
  refine m_heap hH ?_
  clear hH
  refine lv_iload_n hx hb dX7_digit_0 rfl (lv_at hl 1 rfl) ?_
  refine lv_aload_n hx hb dX7_digit_1 rfl (lv_at hl 0 rfl) ?_
  refine va_get (D := D) (ci := 7) (v := .ref g12) (C := RX7) (T := TX7) (N := 17) hx hb hts hiX7 hown hK hP 0 rfl rfl 16 (by decide) hf52 (fun _ h9 => h9) rfl dX7_digit_2 ?_
  refine lv_iload_n hx hb dX7_digit_5 rfl (lv_at hl 2 rfl) ?_
  refine va_iald hx hb hK hP 1 0 rfl rfl (i := nI j) (vp_in_nI (by omega) (by omega)) dX7_digit_6 ?_
  refine cn_i (y := th j) (congrArg th (nI_clamp (by omega))) ?_
  refine lv_idiv hx hb dX7_digit_7 (ht) ?_
  refine lv_iconst (v := nI 3) hx hb dX7_digit_8 (by decide) ?_
  refine lv_irem hx hb dX7_digit_9 (by decide) ?_
  rw [← hQ]
  exact W.iret (v := (cc0 / (th j)) - (cc0 / (th j)) / (nI 3) * (nI 3)) hx hb hr (fun tS htS hWS => ⟨⟨((cc0 / (th j)) - (cc0 / (th j)) / (nI 3) * (nI 3)), (), rfl, rfl, trivial⟩, hS.F htS⟩) hS.2.2 dX7_digit_10
def rm_c_X7_left : Room := { frames := 1, cells := 0, slots := 0, locals := 22 }
set_option maxHeartbeats 400000 in
set_option maxRecDepth 100000 in
theorem c_X7_left (l : Launch) (D : va_G) (cI cJ cZ : ClassId) (m0 : Nat) (g1 : Nat) (g2 : Nat) (g3 : Nat) (g4 : Nat) (g5 : Nat) (g6 : Nat) (g7 : Nat) (g8 : Nat) (g9 : Nat) (g10 : Nat) (g11 : Nat) (g12 : Nat) (n : Nat) (mr : Int32) (my : Int32) (mo : Int32) (ml : Int32) (cc0 : Int32) (fg : Nat → Int32) (fb : Nat → Int32) (th : Nat → Int32) (hn : n ≤ 9) (hth : ∀ z, z < 9 → ¬ th z = 0) : Met l yX7_left wsX7_left rm_c_X7_left (pc_ D cI cJ cZ [.ref m0, .int cc0] [(m0, .inr (7, [.int (nI n), .ref g1, .ref g2, .ref g3, .int mr, .ref g4, .int my, .ref g5, .int mo, .ref g6, .int ml, .ref g7, .ref g8, .ref g9, .ref g10, .ref g11, .ref g12])), (g1, .inl (cI, 9, .inl fg)), (g2, .inl (cI, 9, .inl fb)), (g12, .inl (cI, 9, .inl th))]) (va_Ql (fun (r : Int64) (_ : Unit) => r = mlf fg fb th cc0 n) (fun _ _ => True) aN) 0 0 aN := by
  refine Met.ofW (cc := cX7_left) (maxL := 6) (ret := (some .long)) (by decide) rfl ?_
  intro p e s m args below meth c s₁ B hml hv
  obtain ⟨rfl, hP, hKN⟩ := hv
  have hK := hKN.1
  have hx := B.exec
  have hb := B.bytes
  have hr := B.returns
  have hts := atoms_spec (ws := wsX7_left) B.pre
  have hown : s.vm.findClass RX7 = some m.cls := findClass_of_methodNamed B.named
  have hlocks := B.notSynchronized
  have hiX7 : ∀ w ∈ wsX70, w ∈ wsX7_left := by decide +kernel
  have hf7 := hts (.fieldLink RX7 7 "LookBenchModel" "parts" "I") (by decide +kernel)
  have hf13 := hts (.fieldLink RX7 13 "LookBenchModel" "good" "[I") (by decide +kernel)
  have hf17 := hts (.fieldLink RX7 17 "LookBenchModel" "bad" "[I") (by decide +kernel)
  have hS : va_S aN s.heap s.heap [] := va_S.rf
  have hl := lv_entry ([.ref m0, .int cc0]) (n := 6) (Nat.le_of_ble_eq_true rfl)
  rw [lg_entry_eq]
  generalize (lg_sl ([.ref m0, .int cc0]) ++ List.replicate (6 - (lg_sl ([.ref m0, .int cc0])).length) Slot.unset).toArray = ls at hl ⊢
  have hl : lv_has ls 6 [(0, .ref m0), (1, .int cc0)] := hl
  generalize hQ : MQ below _ _ s _ _ _ = Q
  obtain ⟨H, hH⟩ : ∃ z, z = s.heap := ⟨_, rfl⟩
  have hP : va_P D vwCl [(m0, .inr (7, [.int (nI n), .ref g1, .ref g2, .ref g3, .int mr, .ref g4, .int my, .ref g5, .int mo, .ref g6, .int ml, .ref g7, .ref g8, .ref g9, .ref g10, .ref g11, .ref g12])), (g1, .inl (cI, 9, .inl fg)), (g2, .inl (cI, 9, .inl fb)), (g12, .inl (cI, 9, .inl th))] H := by rw [hH]; exact hP
  have hS : va_S aN s.heap H [] := by rw [hH]; exact hS
  refine m_heap hH ?_
  clear hH
  refine lv_lconst (v := lN 1) hx hb dX7_left_0 (by decide) ?_
  refine lv_lstore_n (lv' := [(2, .long (lN 1)), (0, .ref m0), (1, .int cc0)]) hx hb dX7_left_1 rfl hl (by decide) rfl (fun ls hl => ?_)
  refine lv_iconst (v := nI 0) hx hb dX7_left_2 (by decide) ?_
  refine lv_istore (lv' := [(4, .int (nI 0)), (2, .long (lN 1)), (0, .ref m0), (1, .int cc0)]) hx hb dX7_left_3 hl (by decide) rfl (fun ls hl => ?_)
  have loop1 : ∀ (fu : Nat) (k : Nat) (v : Int64) (H : Heap) (locs : List Loc) (ls : Array Slot), (k ≤ n ∧ n < k + fu) → (v = mlf fg fb th cc0 k) → va_P D vwCl [(m0, .inr (7, [.int (nI n), .ref g1, .ref g2, .ref g3, .int mr, .ref g4, .int my, .ref g5, .int mo, .ref g6, .int ml, .ref g7, .ref g8, .ref g9, .ref g10, .ref g11, .ref g12])), (g1, .inl (cI, 9, .inl fg)), (g2, .inl (cI, 9, .inl fb)), (g12, .inl (cI, 9, .inl th))] H → va_S aN s.heap H locs → lv_has ls 6 [(4, .int (nI k)), (2, .long v), (0, .ref m0), (1, .int cc0)] → W p l e (headSpec wsX7_left rm_c_X7_left).room s m ([.ref m0, .int cc0] : List Value).toArray below meth c H locs 0 0 Q (F0 m 5 ls []) := by
    intro fu
    induction fu with
    | zero => intro k v H locs ls hk hv; exact absurd hk (by omega)
    | succ fu ih1 =>
      intro k v H locs ls hk hv hP hS hl
      refine lv_iload hx hb dX7_left_5 (lv_at hl 0 rfl) ?_
      refine lv_aload_n hx hb dX7_left_7 rfl (lv_at hl 2 rfl) ?_
      refine va_get (D := D) (ci := 7) (v := .int (nI n)) (C := RX7) (T := TX7) (N := 17) hx hb hts hiX7 hown hK hP 0 rfl rfl 0 (by decide) hf7 (fun _ h9 => h9) rfl dX7_left_8 ?_
      refine lv_icmp_ge (tgt := 82) hx hb dX7_left_11 (by decide) (fun c2 => ?_) (fun c2 => ?_)
      · skip
        have d2 := c2
        rw [nI_leI (by omega) (by omega)] at d2
        refine lv_lload_n hx hb dX7_left_82 rfl (lv_at hl 1 rfl) ?_
        rw [← hQ]
        exact W.lret (v := v) hx hb hr (fun tS htS hWS => ⟨⟨v, (), rfl, by rw [hv, show k = n by omega], trivial⟩, hS.F htS⟩) hS.2.2 dX7_left_83
      · skip
        have d2 := c2
        rw [nI_leI (by omega) (by omega)] at d2
        refine lv_aload_n hx hb dX7_left_14 rfl (lv_at hl 2 rfl) ?_
        refine lv_iload_n hx hb dX7_left_15 rfl (lv_at hl 3 rfl) ?_
        refine lv_iload hx hb dX7_left_16 (lv_at hl 0 rfl) ?_
        refine pu_i (va_runV (As := [.int cc0, .int (nI k)]) (rest := []) ⟨hx, hb, hml, hown, hts⟩ (c_X7_digit l D cI cJ cZ m0 g1 g2 g3 g4 g5 g6 g7 g8 g9 g10 g11 g12 k (nI n) mr my mo ml cc0 th (by first | assumption | omega) (by exact hth k (by omega))) (cwV 2 hts gX7_left_X7_digit rfl rfl rfl (by decide +kernel) ⟨Nat.le_of_ble_eq_true rfl, Nat.le_of_ble_eq_true rfl⟩) ⟨pc_blind, va_recv hK hP (ci := 7) (q0 := 0) rfl rfl, fun U hU hW => ⟨rfl, by rw [hU]; exact hP.sub (ws' := [(m0, .inr (7, [.int (nI n), .ref g1, .ref g2, .ref g3, .int mr, .ref g4, .int my, .ref g5, .int mo, .ref g6, .int ml, .ref g7, .ref g8, .ref g9, .ref g10, .ref g11, .ref g12])), (g12, .inl (cI, 9, .inl th))]) [0, 3] rfl, hKN.warm hW⟩⟩ rfl rfl hl.1 rfl (lv_room (Nat.le_of_ble_eq_true rfl)) dX7_left_18 ⟨Nat.le_of_ble_eq_true rfl, Nat.le_of_ble_eq_true rfl⟩) hS hP (fun r3 H locs w3r hP hS => ?_)
        have w3 : r3 = dgt th cc0 k := w3r
        clear w3r
        obtain rfl : r3 = dgt th cc0 k := w3
        refine lv_istore (lv' := [(5, .int (dgt th cc0 k)), (4, .int (nI k)), (2, .long v), (0, .ref m0), (1, .int cc0)]) hx hb dX7_left_21 hl (by decide) rfl (fun ls hl => ?_)
        refine lv_lload_n hx hb dX7_left_23 rfl (lv_at hl 2 rfl) ?_
        refine lv_iload hx hb dX7_left_24 (lv_at hl 0 rfl) ?_
        refine lv_iconst (v := nI 1) hx hb dX7_left_26 (by decide) ?_
        refine lv_icmp_ne (tgt := 41) hx hb dX7_left_27 (by decide) (fun c4 => ?_) (fun c4 => ?_)
        · skip
          refine lv_iload hx hb dX7_left_41 (lv_at hl 0 rfl) ?_
          refine lv_iconst (v := nI 2) hx hb dX7_left_43 (by decide) ?_
          refine lv_icmp_ne (tgt := 58) hx hb dX7_left_44 (by decide) (fun c5 => ?_) (fun c5 => ?_)
          · skip
            refine lv_aload_n hx hb dX7_left_58 rfl (lv_at hl 3 rfl) ?_
            refine va_get (D := D) (ci := 7) (v := .ref g1) (C := RX7) (T := TX7) (N := 17) hx hb hts hiX7 hown hK hP 0 rfl rfl 1 (by decide) hf13 (fun _ h9 => h9) rfl dX7_left_59 ?_
            refine lv_iload hx hb dX7_left_62 (lv_at hl 1 rfl) ?_
            refine va_iald hx hb hK hP 1 0 rfl rfl (i := nI k) (vp_in_nI (by omega) (by omega)) dX7_left_64 ?_
            refine cn_i (y := fg k) (congrArg fg (nI_clamp (by omega))) ?_
            refine lv_aload_n hx hb dX7_left_65 rfl (lv_at hl 3 rfl) ?_
            refine va_get (D := D) (ci := 7) (v := .ref g2) (C := RX7) (T := TX7) (N := 17) hx hb hts hiX7 hown hK hP 0 rfl rfl 2 (by decide) hf17 (fun _ h9 => h9) rfl dX7_left_66 ?_
            refine lv_iload hx hb dX7_left_69 (lv_at hl 1 rfl) ?_
            refine va_iald hx hb hK hP 2 0 rfl rfl (i := nI k) (vp_in_nI (by omega) (by omega)) dX7_left_71 ?_
            refine cn_i (y := fb k) (congrArg fb (nI_clamp (by omega))) ?_
            refine lv_iadd hx hb dX7_left_72 ?_
            refine lv_i2l hx hb dX7_left_73 rfl ?_
            refine lv_lmul hx hb dX7_left_74 ?_
            refine lv_lstore_n (lv' := [(2, .long (v * (((fg k) + (fb k)).toInt64))), (5, .int (dgt th cc0 k)), (4, .int (nI k)), (0, .ref m0), (1, .int cc0)]) hx hb dX7_left_75 rfl hl (by decide) rfl (fun ls hl => ?_)
            refine lv_iinc (v := nI (k + 1)) (lv' := [(4, .int (nI (k + 1))), (2, .long (v * (((fg k) + (fb k)).toInt64))), (5, .int (dgt th cc0 k)), (0, .ref m0), (1, .int cc0)]) hx hb dX7_left_76 hl (k := 2) rfl (nI_1 k) (by decide) rfl (fun ls hl => ?_)
            refine lv_goto (tgt := 5) hx hb dX7_left_79 (by decide) ?_
            exact ih1 (k + 1) (v * (((fg k) + (fb k)).toInt64)) _ _ _ (by omega) (by rw [hv]; simp only [mlf]; first | rw [if_pos c4] | rw [if_neg c4, if_pos c5] | rw [if_neg c4, if_neg c5]) hP hS (lv_sub hl [0, 1, 3, 4] rfl)
          · skip
            refine lv_aload_n hx hb dX7_left_47 rfl (lv_at hl 3 rfl) ?_
            refine va_get (D := D) (ci := 7) (v := .ref g2) (C := RX7) (T := TX7) (N := 17) hx hb hts hiX7 hown hK hP 0 rfl rfl 2 (by decide) hf17 (fun _ h9 => h9) rfl dX7_left_48 ?_
            refine lv_iload hx hb dX7_left_51 (lv_at hl 1 rfl) ?_
            refine va_iald hx hb hK hP 2 0 rfl rfl (i := nI k) (vp_in_nI (by omega) (by omega)) dX7_left_53 ?_
            refine cn_i (y := fb k) (congrArg fb (nI_clamp (by omega))) ?_
            refine lv_i2l hx hb dX7_left_54 rfl ?_
            refine lv_goto (tgt := 74) hx hb dX7_left_55 (by decide) ?_
            refine lv_lmul hx hb dX7_left_74 ?_
            refine lv_lstore_n (lv' := [(2, .long (v * ((fb k).toInt64))), (5, .int (dgt th cc0 k)), (4, .int (nI k)), (0, .ref m0), (1, .int cc0)]) hx hb dX7_left_75 rfl hl (by decide) rfl (fun ls hl => ?_)
            refine lv_iinc (v := nI (k + 1)) (lv' := [(4, .int (nI (k + 1))), (2, .long (v * ((fb k).toInt64))), (5, .int (dgt th cc0 k)), (0, .ref m0), (1, .int cc0)]) hx hb dX7_left_76 hl (k := 2) rfl (nI_1 k) (by decide) rfl (fun ls hl => ?_)
            refine lv_goto (tgt := 5) hx hb dX7_left_79 (by decide) ?_
            exact ih1 (k + 1) (v * ((fb k).toInt64)) _ _ _ (by omega) (by rw [hv]; simp only [mlf]; first | rw [if_pos c4] | rw [if_neg c4, if_pos c5] | rw [if_neg c4, if_neg c5]) hP hS (lv_sub hl [0, 1, 3, 4] rfl)
        · skip
          refine lv_aload_n hx hb dX7_left_30 rfl (lv_at hl 3 rfl) ?_
          refine va_get (D := D) (ci := 7) (v := .ref g1) (C := RX7) (T := TX7) (N := 17) hx hb hts hiX7 hown hK hP 0 rfl rfl 1 (by decide) hf13 (fun _ h9 => h9) rfl dX7_left_31 ?_
          refine lv_iload hx hb dX7_left_34 (lv_at hl 1 rfl) ?_
          refine va_iald hx hb hK hP 1 0 rfl rfl (i := nI k) (vp_in_nI (by omega) (by omega)) dX7_left_36 ?_
          refine cn_i (y := fg k) (congrArg fg (nI_clamp (by omega))) ?_
          refine lv_i2l hx hb dX7_left_37 rfl ?_
          refine lv_goto (tgt := 74) hx hb dX7_left_38 (by decide) ?_
          refine lv_lmul hx hb dX7_left_74 ?_
          refine lv_lstore_n (lv' := [(2, .long (v * ((fg k).toInt64))), (5, .int (dgt th cc0 k)), (4, .int (nI k)), (0, .ref m0), (1, .int cc0)]) hx hb dX7_left_75 rfl hl (by decide) rfl (fun ls hl => ?_)
          refine lv_iinc (v := nI (k + 1)) (lv' := [(4, .int (nI (k + 1))), (2, .long (v * ((fg k).toInt64))), (5, .int (dgt th cc0 k)), (0, .ref m0), (1, .int cc0)]) hx hb dX7_left_76 hl (k := 2) rfl (nI_1 k) (by decide) rfl (fun ls hl => ?_)
          refine lv_goto (tgt := 5) hx hb dX7_left_79 (by decide) ?_
          exact ih1 (k + 1) (v * ((fg k).toInt64)) _ _ _ (by omega) (by rw [hv]; simp only [mlf]; first | rw [if_pos c4] | rw [if_neg c4, if_pos c5] | rw [if_neg c4, if_neg c5]) hP hS (lv_sub hl [0, 1, 3, 4] rfl)
  exact loop1 (n + 1) 0 (lN 1) _ _ _ (by omega) rfl hP hS (lv_sub hl [0, 1, 2, 3] rfl)
def rm_c_X7_plan : Room := { frames := 3, cells := 0, slots := 0, locals := 67 }
set_option maxHeartbeats 400000 in
set_option maxRecDepth 100000 in
theorem c_X7_plan (l : Launch) (D : va_G) (cI cJ cZ : ClassId) (m0 : Nat) (g1 : Nat) (g2 : Nat) (g3 : Nat) (g4 : Nat) (g5 : Nat) (g6 : Nat) (g7 : Nat) (g8 : Nat) (g9 : Nat) (g10 : Nat) (g11 : Nat) (g12 : Nat) (n : Nat) (cv : Nat) (y : Nat) (mr : Int32) (mo : Int32) (ml : Int32) (fg : Nat → Int32) (fb : Nat → Int32) (fp : Nat → Int32) (fs : Nat → Int32) (th : Nat → Int32) (eb : Nat → Int64) (en : Nat → Int32) (ew : Nat → Int32) (ex : Nat → Int32) (hn : n ≤ 9) (hcv : cv < 3 ^ n) (hy : y < 40) (hth : ∀ z, z < 9 → th z = nI (3 ^ z)) (h01 : T01 fs) : Met l yX7_plan wsX7_plan rm_c_X7_plan (pm_ D cI cJ cZ [.ref m0, .int (nI cv)] [(m0, .inr (7, [.int (nI n), .ref g1, .ref g2, .ref g3, .int mr, .ref g4, .int (nI y), .ref g5, .int mo, .ref g6, .int ml, .ref g7, .ref g8, .ref g9, .ref g10, .ref g11, .ref g12])), (g1, .inl (cI, 9, .inl fg)), (g2, .inl (cI, 9, .inl fb)), (g3, .inl (cI, 9, .inl fp)), (g4, .inl (cZ, 20480, .inl fs)), (g12, .inl (cI, 9, .inl th)), (g8, .inl (cJ, 19683, .inr (.inl eb))), (g9, .inl (cI, 19683, .inl en)), (g10, .inl (cI, 19683, .inl ew)), (g11, .inl (cI, 19683, .inl ex))]) (va_Qv (fun (u : (Nat → Int64) × (Nat → Int32) × (Nat → Int32) × (Nat → Int32)) => (∀ z, ¬ z = cv → u.2.1 z = en z ∧ u.2.2.2 z = ex z) ∧ ((¬ Sg fs y (setN cv 1 n) ∧ Sg fs y (2 ^ n - 1 - setN cv 2 n)) → PV n cv u.2.1 ∧ PV n cv u.2.2.2)) (fun (u : (Nat → Int64) × (Nat → Int32) × (Nat → Int32) × (Nat → Int32)) tS => va_P D vwCl [(m0, .inr (7, [.int (nI n), .ref g1, .ref g2, .ref g3, .int mr, .ref g4, .int (nI y), .ref g5, .int mo, .ref g6, .int ml, .ref g7, .ref g8, .ref g9, .ref g10, .ref g11, .ref g12])), (g1, .inl (cI, 9, .inl fg)), (g2, .inl (cI, 9, .inl fb)), (g3, .inl (cI, 9, .inl fp)), (g4, .inl (cZ, 20480, .inl fs)), (g12, .inl (cI, 9, .inl th)), (g8, .inl (cJ, 19683, .inr (.inl u.1))), (g9, .inl (cI, 19683, .inl u.2.1)), (g10, .inl (cI, 19683, .inl u.2.2.1)), (g11, .inl (cI, 19683, .inl u.2.2.2))] tS.heap) (aA [m0, g1, g2, g3, g4, g12, g8, g9, g10, g11])) 0 0 (aA [m0, g1, g2, g3, g4, g12, g8, g9, g10, g11]) := by
  refine Met.ofW (cc := cX7_plan) (maxL := 10) (ret := none) (by decide) rfl ?_
  intro p e s m args below meth c s₁ B hml hv
  obtain ⟨rfl, hP, hKN, hD0⟩ := hv
  have hK := hKN.1
  have hx := B.exec
  have hb := B.bytes
  have hr := B.returns
  have hts := atoms_spec (ws := wsX7_plan) B.pre
  have hown : s.vm.findClass RX7 = some m.cls := findClass_of_methodNamed B.named
  have hlocks := B.notSynchronized
  have hiX7 : ∀ w ∈ wsX70, w ∈ wsX7_plan := by decide +kernel
  have hf7 := hts (.fieldLink RX7 7 "LookBenchModel" "parts" "I") (by decide +kernel)
  have hf20 := hts (.fieldLink RX7 20 "LookBenchModel" "price" "[I") (by decide +kernel)
  have hf39 := hts (.fieldLink RX7 39 "LookBenchModel" "best" "[J") (by decide +kernel)
  have hf43 := hts (.fieldLink RX7 43 "LookBenchModel" "bestNext" "[I") (by decide +kernel)
  have hf46 := hts (.fieldLink RX7 46 "LookBenchModel" "worst" "[I") (by decide +kernel)
  have hf49 := hts (.fieldLink RX7 49 "LookBenchModel" "worstNext" "[I") (by decide +kernel)
  have hf52 := hts (.fieldLink RX7 52 "LookBenchModel" "three" "[I") (by decide +kernel)
  obtain ⟨as, has⟩ : ∃ z : List Nat, z = [m0, g1, g2, g3, g4, g12, g8, g9, g10, g11] := ⟨_, rfl⟩
  have hD := hD0.addr (as := as) (by rw [has]; rfl)
  have hS : va_S (aA as) s.heap s.heap [] := va_S.rf
  have hl := lv_entry ([.ref m0, .int (nI cv)]) (n := 10) (Nat.le_of_ble_eq_true rfl)
  rw [lg_entry_eq]
  generalize (lg_sl ([.ref m0, .int (nI cv)]) ++ List.replicate (10 - (lg_sl ([.ref m0, .int (nI cv)])).length) Slot.unset).toArray = ls at hl ⊢
  have hl : lv_has ls 10 [(0, .ref m0), (1, .int (nI cv))] := hl
  generalize hQ : MQ below _ _ s _ _ _ = Q
  obtain ⟨H, hH⟩ : ∃ z, z = s.heap := ⟨_, rfl⟩
  have hP : va_P D vwCl [(m0, .inr (7, [.int (nI n), .ref g1, .ref g2, .ref g3, .int mr, .ref g4, .int (nI y), .ref g5, .int mo, .ref g6, .int ml, .ref g7, .ref g8, .ref g9, .ref g10, .ref g11, .ref g12])), (g1, .inl (cI, 9, .inl fg)), (g2, .inl (cI, 9, .inl fb)), (g3, .inl (cI, 9, .inl fp)), (g4, .inl (cZ, 20480, .inl fs)), (g12, .inl (cI, 9, .inl th)), (g8, .inl (cJ, 19683, .inr (.inl eb))), (g9, .inl (cI, 19683, .inl en)), (g10, .inl (cI, 19683, .inl ew)), (g11, .inl (cI, 19683, .inl ex))] H := by rw [hH]; exact hP
  have hS : va_S (aA as) s.heap H [] := by rw [hH]; exact hS
  refine m_heap hH ?_
  clear hH
  have h3n := m_p3 hn
  refine lv_aload_n hx hb dX7_plan_0 rfl (lv_at hl 0 rfl) ?_
  refine va_get (D := D) (ci := 7) (v := .ref g8) (C := RX7) (T := TX7) (N := 17) hx hb hts hiX7 hown hK hP 0 rfl rfl 12 (by decide) hf39 (fun _ h9 => h9) rfl dX7_plan_1 ?_
  refine lv_iload_n hx hb dX7_plan_4 rfl (lv_at hl 1 rfl) ?_
  refine lv_lconst (v := lN 0) hx hb dX7_plan_5 (by decide) ?_
  refine va_last hx hb hK hP hD hS 6 1 rfl rfl (i := nI cv) (vp_in_nI (by omega) (by omega)) dX7_plan_6 (fun H locs hP hD hS => ?_)
  have hP : va_P D vwCl [(m0, .inr (7, [.int (nI n), .ref g1, .ref g2, .ref g3, .int mr, .ref g4, .int (nI y), .ref g5, .int mo, .ref g6, .int ml, .ref g7, .ref g8, .ref g9, .ref g10, .ref g11, .ref g12])), (g1, .inl (cI, 9, .inl fg)), (g2, .inl (cI, 9, .inl fb)), (g3, .inl (cI, 9, .inl fp)), (g4, .inl (cZ, 20480, .inl fs)), (g12, .inl (cI, 9, .inl th)), (g8, .inl (cJ, 19683, .inr (.inl (vp_updL eb (nI cv).toNatClampNeg (lN 0))))), (g9, .inl (cI, 19683, .inl en)), (g10, .inl (cI, 19683, .inl ew)), (g11, .inl (cI, 19683, .inl ex))] H := hP
  have hD : va_D (aA as) [(m0, .inr (7, [.int (nI n), .ref g1, .ref g2, .ref g3, .int mr, .ref g4, .int (nI y), .ref g5, .int mo, .ref g6, .int ml, .ref g7, .ref g8, .ref g9, .ref g10, .ref g11, .ref g12])), (g1, .inl (cI, 9, .inl fg)), (g2, .inl (cI, 9, .inl fb)), (g3, .inl (cI, 9, .inl fp)), (g4, .inl (cZ, 20480, .inl fs)), (g12, .inl (cI, 9, .inl th)), (g8, .inl (cJ, 19683, .inr (.inl (vp_updL eb (nI cv).toNatClampNeg (lN 0))))), (g9, .inl (cI, 19683, .inl en)), (g10, .inl (cI, 19683, .inl ew)), (g11, .inl (cI, 19683, .inl ex))] := hD
  rw [nI_clamp (n := cv) (by omega)] at hP hD
  refine lv_aload_n hx hb dX7_plan_7 rfl (lv_at hl 0 rfl) ?_
  refine va_get (D := D) (ci := 7) (v := .ref g10) (C := RX7) (T := TX7) (N := 17) hx hb hts hiX7 hown hK hP 0 rfl rfl 14 (by decide) hf46 (fun _ h9 => h9) rfl dX7_plan_8 ?_
  refine lv_iload_n hx hb dX7_plan_11 rfl (lv_at hl 1 rfl) ?_
  refine lv_iconst (v := nI 0) hx hb dX7_plan_12 (by decide) ?_
  refine va_iast hx hb hK hP hD hS 8 0 rfl rfl (i := nI cv) (vp_in_nI (by omega) (by omega)) dX7_plan_13 (fun H locs hP hD hS => ?_)
  have hP : va_P D vwCl [(m0, .inr (7, [.int (nI n), .ref g1, .ref g2, .ref g3, .int mr, .ref g4, .int (nI y), .ref g5, .int mo, .ref g6, .int ml, .ref g7, .ref g8, .ref g9, .ref g10, .ref g11, .ref g12])), (g1, .inl (cI, 9, .inl fg)), (g2, .inl (cI, 9, .inl fb)), (g3, .inl (cI, 9, .inl fp)), (g4, .inl (cZ, 20480, .inl fs)), (g12, .inl (cI, 9, .inl th)), (g8, .inl (cJ, 19683, .inr (.inl (vp_updL eb cv (lN 0))))), (g9, .inl (cI, 19683, .inl en)), (g10, .inl (cI, 19683, .inl (upd ew (nI cv).toNatClampNeg (nI 0)))), (g11, .inl (cI, 19683, .inl ex))] H := hP
  have hD : va_D (aA as) [(m0, .inr (7, [.int (nI n), .ref g1, .ref g2, .ref g3, .int mr, .ref g4, .int (nI y), .ref g5, .int mo, .ref g6, .int ml, .ref g7, .ref g8, .ref g9, .ref g10, .ref g11, .ref g12])), (g1, .inl (cI, 9, .inl fg)), (g2, .inl (cI, 9, .inl fb)), (g3, .inl (cI, 9, .inl fp)), (g4, .inl (cZ, 20480, .inl fs)), (g12, .inl (cI, 9, .inl th)), (g8, .inl (cJ, 19683, .inr (.inl (vp_updL eb cv (lN 0))))), (g9, .inl (cI, 19683, .inl en)), (g10, .inl (cI, 19683, .inl (upd ew (nI cv).toNatClampNeg (nI 0)))), (g11, .inl (cI, 19683, .inl ex))] := hD
  rw [nI_clamp (n := cv) (by omega)] at hP hD
  refine lv_aload_n hx hb dX7_plan_14 rfl (lv_at hl 0 rfl) ?_
  refine va_get (D := D) (ci := 7) (v := .ref g9) (C := RX7) (T := TX7) (N := 17) hx hb hts hiX7 hown hK hP 0 rfl rfl 13 (by decide) hf43 (fun _ h9 => h9) rfl dX7_plan_15 ?_
  refine lv_iload_n hx hb dX7_plan_18 rfl (lv_at hl 1 rfl) ?_
  refine lv_iconst (v := (-1 : Int32)) hx hb dX7_plan_19 (by decide) ?_
  refine va_iast hx hb hK hP hD hS 7 0 rfl rfl (i := nI cv) (vp_in_nI (by omega) (by omega)) dX7_plan_20 (fun H locs hP hD hS => ?_)
  have hP : va_P D vwCl [(m0, .inr (7, [.int (nI n), .ref g1, .ref g2, .ref g3, .int mr, .ref g4, .int (nI y), .ref g5, .int mo, .ref g6, .int ml, .ref g7, .ref g8, .ref g9, .ref g10, .ref g11, .ref g12])), (g1, .inl (cI, 9, .inl fg)), (g2, .inl (cI, 9, .inl fb)), (g3, .inl (cI, 9, .inl fp)), (g4, .inl (cZ, 20480, .inl fs)), (g12, .inl (cI, 9, .inl th)), (g8, .inl (cJ, 19683, .inr (.inl (vp_updL eb cv (lN 0))))), (g9, .inl (cI, 19683, .inl (upd en (nI cv).toNatClampNeg (-1 : Int32)))), (g10, .inl (cI, 19683, .inl (upd ew cv (nI 0)))), (g11, .inl (cI, 19683, .inl ex))] H := hP
  have hD : va_D (aA as) [(m0, .inr (7, [.int (nI n), .ref g1, .ref g2, .ref g3, .int mr, .ref g4, .int (nI y), .ref g5, .int mo, .ref g6, .int ml, .ref g7, .ref g8, .ref g9, .ref g10, .ref g11, .ref g12])), (g1, .inl (cI, 9, .inl fg)), (g2, .inl (cI, 9, .inl fb)), (g3, .inl (cI, 9, .inl fp)), (g4, .inl (cZ, 20480, .inl fs)), (g12, .inl (cI, 9, .inl th)), (g8, .inl (cJ, 19683, .inr (.inl (vp_updL eb cv (lN 0))))), (g9, .inl (cI, 19683, .inl (upd en (nI cv).toNatClampNeg (-1 : Int32)))), (g10, .inl (cI, 19683, .inl (upd ew cv (nI 0)))), (g11, .inl (cI, 19683, .inl ex))] := hD
  rw [nI_clamp (n := cv) (by omega)] at hP hD
  refine lv_aload_n hx hb dX7_plan_21 rfl (lv_at hl 0 rfl) ?_
  refine va_get (D := D) (ci := 7) (v := .ref g11) (C := RX7) (T := TX7) (N := 17) hx hb hts hiX7 hown hK hP 0 rfl rfl 15 (by decide) hf49 (fun _ h9 => h9) rfl dX7_plan_22 ?_
  refine lv_iload_n hx hb dX7_plan_25 rfl (lv_at hl 1 rfl) ?_
  refine lv_iconst (v := (-1 : Int32)) hx hb dX7_plan_26 (by decide) ?_
  refine va_iast hx hb hK hP hD hS 9 0 rfl rfl (i := nI cv) (vp_in_nI (by omega) (by omega)) dX7_plan_27 (fun H locs hP hD hS => ?_)
  have hP : va_P D vwCl [(m0, .inr (7, [.int (nI n), .ref g1, .ref g2, .ref g3, .int mr, .ref g4, .int (nI y), .ref g5, .int mo, .ref g6, .int ml, .ref g7, .ref g8, .ref g9, .ref g10, .ref g11, .ref g12])), (g1, .inl (cI, 9, .inl fg)), (g2, .inl (cI, 9, .inl fb)), (g3, .inl (cI, 9, .inl fp)), (g4, .inl (cZ, 20480, .inl fs)), (g12, .inl (cI, 9, .inl th)), (g8, .inl (cJ, 19683, .inr (.inl (vp_updL eb cv (lN 0))))), (g9, .inl (cI, 19683, .inl (upd en cv (-1 : Int32)))), (g10, .inl (cI, 19683, .inl (upd ew cv (nI 0)))), (g11, .inl (cI, 19683, .inl (upd ex (nI cv).toNatClampNeg (-1 : Int32))))] H := hP
  have hD : va_D (aA as) [(m0, .inr (7, [.int (nI n), .ref g1, .ref g2, .ref g3, .int mr, .ref g4, .int (nI y), .ref g5, .int mo, .ref g6, .int ml, .ref g7, .ref g8, .ref g9, .ref g10, .ref g11, .ref g12])), (g1, .inl (cI, 9, .inl fg)), (g2, .inl (cI, 9, .inl fb)), (g3, .inl (cI, 9, .inl fp)), (g4, .inl (cZ, 20480, .inl fs)), (g12, .inl (cI, 9, .inl th)), (g8, .inl (cJ, 19683, .inr (.inl (vp_updL eb cv (lN 0))))), (g9, .inl (cI, 19683, .inl (upd en cv (-1 : Int32)))), (g10, .inl (cI, 19683, .inl (upd ew cv (nI 0)))), (g11, .inl (cI, 19683, .inl (upd ex (nI cv).toNatClampNeg (-1 : Int32))))] := hD
  rw [nI_clamp (n := cv) (by omega)] at hP hD
  refine lv_aload_n hx hb dX7_plan_28 rfl (lv_at hl 0 rfl) ?_
  refine lv_iload_n hx hb dX7_plan_29 rfl (lv_at hl 1 rfl) ?_
  refine pu_i (va_runV (As := [.int (nI cv)]) (rest := []) ⟨hx, hb, hml, hown, hts⟩ (c_X7_sureAt l D cI cJ cZ m0 g1 g2 g3 g4 g5 g6 g7 g8 g9 g10 g11 g12 n cv y mr mo ml fs th (by first | assumption | omega) (by first | assumption | omega) (by first | assumption | omega) (by first | assumption | omega) (by first | assumption | omega)) (cwV 1 hts gX7_plan_X7_sureAt rfl rfl rfl (by decide +kernel) ⟨Nat.le_of_ble_eq_true rfl, Nat.le_of_ble_eq_true rfl⟩) ⟨pc_blind, va_recv hK hP (ci := 7) (q0 := 0) rfl rfl, fun U hU hW => ⟨rfl, by rw [hU]; exact hP.sub (ws' := [(m0, .inr (7, [.int (nI n), .ref g1, .ref g2, .ref g3, .int mr, .ref g4, .int (nI y), .ref g5, .int mo, .ref g6, .int ml, .ref g7, .ref g8, .ref g9, .ref g10, .ref g11, .ref g12])), (g4, .inl (cZ, 20480, .inl fs)), (g12, .inl (cI, 9, .inl th))]) [0, 4, 5] rfl, hKN.warm hW⟩⟩ rfl rfl hl.1 rfl (lv_room (Nat.le_of_ble_eq_true rfl)) dX7_plan_30 ⟨Nat.le_of_ble_eq_true rfl, Nat.le_of_ble_eq_true rfl⟩) hS hP (fun r1 H locs w1r hP hS => ?_)
  have w1 : (r1 = nI 1 ∧ Sg fs y (setN cv 1 n)) ∨ (r1 = -1 ∧ ¬ Sg fs y (setN cv 1 n) ∧ Sg fs y (2 ^ n - 1 - setN cv 2 n)) ∨ (r1 = nI 0 ∧ ¬ Sg fs y (setN cv 1 n) ∧ ¬ Sg fs y (2 ^ n - 1 - setN cv 2 n)) := w1r
  clear w1r
  rcases w1 with ⟨rfl, w1⟩ | ⟨rfl, w1⟩ | ⟨rfl, w1⟩
  · skip
    refine lv_iconst (v := (-1 : Int32)) hx hb dX7_plan_33 (by decide) ?_
    refine lv_icmp_eq (tgt := 38) hx hb dX7_plan_34 (by decide) (fun c2 => ?_) (fun c2 => ?_)
    · exact absurd c2 (by first | decide | exact nz_lt (by omega) | exact fun h => h (nz_ge (by omega)))
    · skip
      rw [← hQ]
      exact W.vret hx hb hr (fun tS htS hWS => ⟨⟨(vp_updL eb cv (lN 0), upd en cv (-1 : Int32), upd ew cv (nI 0), upd ex cv (-1 : Int32)), rfl, ⟨fun z hz => ⟨by simp [upd, hz], by simp [upd, hz]⟩, fun h => by first | exact absurd w1 h.1 | exact absurd h.2 w1.2⟩, m_at htS hP⟩, by rw [← has]; exact hS.F htS⟩) (by rw [← has]; exact hS.2.2) dX7_plan_37
  · skip
    refine lv_iconst (v := (-1 : Int32)) hx hb dX7_plan_33 (by decide) ?_
    refine lv_icmp_eq (tgt := 38) hx hb dX7_plan_34 (by decide) (fun c3 => ?_) (fun c3 => ?_)
    · skip
      refine lv_aload_n hx hb dX7_plan_38 rfl (lv_at hl 0 rfl) ?_
      refine lv_iload_n hx hb dX7_plan_39 rfl (lv_at hl 1 rfl) ?_
      refine pu_l (va_runV (As := [.int (nI cv)]) (rest := []) ⟨hx, hb, hml, hown, hts⟩ (c_X7_left l D cI cJ cZ m0 g1 g2 g3 g4 g5 g6 g7 g8 g9 g10 g11 g12 n mr (nI y) mo ml (nI cv) fg fb th (by first | assumption | omega) (by intro z hz; exact m_th0 (hth z hz) hz)) (cwV 1 hts gX7_plan_X7_left rfl rfl rfl (by decide +kernel) ⟨Nat.le_of_ble_eq_true rfl, Nat.le_of_ble_eq_true rfl⟩) ⟨pc_blind, va_recv hK hP (ci := 7) (q0 := 0) rfl rfl, fun U hU hW => ⟨rfl, by rw [hU]; exact hP.sub (ws' := [(m0, .inr (7, [.int (nI n), .ref g1, .ref g2, .ref g3, .int mr, .ref g4, .int (nI y), .ref g5, .int mo, .ref g6, .int ml, .ref g7, .ref g8, .ref g9, .ref g10, .ref g11, .ref g12])), (g1, .inl (cI, 9, .inl fg)), (g2, .inl (cI, 9, .inl fb)), (g12, .inl (cI, 9, .inl th))]) [0, 1, 2, 5] rfl, hKN.warm hW⟩⟩ rfl rfl hl.1 rfl (lv_room (Nat.le_of_ble_eq_true rfl)) dX7_plan_40 ⟨Nat.le_of_ble_eq_true rfl, Nat.le_of_ble_eq_true rfl⟩) hS hP (fun r4 H locs w4r hP hS => ?_)
      have w4 : r4 = mlf fg fb th (nI cv) n := w4r
      clear w4r
      refine lv_lstore_n (lv' := [(2, .long r4), (0, .ref m0), (1, .int (nI cv))]) hx hb dX7_plan_43 rfl hl (by decide) rfl (fun ls hl => ?_)
      refine lv_iconst (v := nI 0) hx hb dX7_plan_44 (by decide) ?_
      refine lv_istore (lv' := [(4, .int (nI 0)), (2, .long r4), (0, .ref m0), (1, .int (nI cv))]) hx hb dX7_plan_45 hl (by decide) rfl (fun ls hl => ?_)
      have loop5 : ∀ (fu : Nat) (k : Nat) (ub : Nat → Int64) (un : Nat → Int32) (uw : Nat → Int32) (ux : Nat → Int32) (H : Heap) (locs : List Loc) (ls : Array Slot), (k ≤ n ∧ n < k + fu) → (∀ z, ¬ z = cv → un z = en z ∧ ux z = ex z) → ((un cv = -1 ∧ ux cv = -1 ∧ ∀ z, z < k → ¬ cv / 3 ^ z % 3 = 0) ∨ (PV n cv un ∧ PV n cv ux)) → va_P D vwCl [(m0, .inr (7, [.int (nI n), .ref g1, .ref g2, .ref g3, .int mr, .ref g4, .int (nI y), .ref g5, .int mo, .ref g6, .int ml, .ref g7, .ref g8, .ref g9, .ref g10, .ref g11, .ref g12])), (g1, .inl (cI, 9, .inl fg)), (g2, .inl (cI, 9, .inl fb)), (g3, .inl (cI, 9, .inl fp)), (g4, .inl (cZ, 20480, .inl fs)), (g12, .inl (cI, 9, .inl th)), (g8, .inl (cJ, 19683, .inr (.inl ub))), (g9, .inl (cI, 19683, .inl un)), (g10, .inl (cI, 19683, .inl uw)), (g11, .inl (cI, 19683, .inl ux))] H → va_D (aA as) [(m0, .inr (7, [.int (nI n), .ref g1, .ref g2, .ref g3, .int mr, .ref g4, .int (nI y), .ref g5, .int mo, .ref g6, .int ml, .ref g7, .ref g8, .ref g9, .ref g10, .ref g11, .ref g12])), (g1, .inl (cI, 9, .inl fg)), (g2, .inl (cI, 9, .inl fb)), (g3, .inl (cI, 9, .inl fp)), (g4, .inl (cZ, 20480, .inl fs)), (g12, .inl (cI, 9, .inl th)), (g8, .inl (cJ, 19683, .inr (.inl ub))), (g9, .inl (cI, 19683, .inl un)), (g10, .inl (cI, 19683, .inl uw)), (g11, .inl (cI, 19683, .inl ux))] → va_S (aA as) s.heap H locs → lv_has ls 10 [(4, .int (nI k)), (2, .long r4), (0, .ref m0), (1, .int (nI cv))] → W p l e (headSpec wsX7_plan rm_c_X7_plan).room s m ([.ref m0, .int (nI cv)] : List Value).toArray below meth c H locs 0 0 Q (F0 m 47 ls []) := by
        intro fu
        induction fu with
        | zero => intro k ub un uw ux H locs ls hk hsm hval; exact absurd hk (by omega)
        | succ fu ih5 =>
          intro k ub un uw ux H locs ls hk hsm hval hP hD hS hl
          refine lv_iload hx hb dX7_plan_47 (lv_at hl 0 rfl) ?_
          refine lv_aload_n hx hb dX7_plan_49 rfl (lv_at hl 2 rfl) ?_
          refine va_get (D := D) (ci := 7) (v := .int (nI n)) (C := RX7) (T := TX7) (N := 17) hx hb hts hiX7 hown hK hP 0 rfl rfl 0 (by decide) hf7 (fun _ h9 => h9) rfl dX7_plan_50 ?_
          refine lv_icmp_ge (tgt := 245) hx hb dX7_plan_53 (by decide) (fun c6 => ?_) (fun c6 => ?_)
          · skip
            have d6 := c6
            rw [nI_leI (by omega) (by omega)] at d6
            rw [← hQ]
            exact W.vret hx hb hr (fun tS htS hWS => ⟨⟨(ub, un, uw, ux), rfl, ⟨hsm, fun h => hval.elim (fun g => absurd (fun z hz => g.2.2 z (by omega)) (uns_no h)) id⟩, m_at htS hP⟩, by rw [← has]; exact hS.F htS⟩) (by rw [← has]; exact hS.2.2) dX7_plan_245
          · skip
            have d6 := c6
            rw [nI_leI (by omega) (by omega)] at d6
            refine lv_aload_n hx hb dX7_plan_56 rfl (lv_at hl 2 rfl) ?_
            refine lv_iload_n hx hb dX7_plan_57 rfl (lv_at hl 3 rfl) ?_
            refine lv_iload hx hb dX7_plan_58 (lv_at hl 0 rfl) ?_
            refine pu_i (va_runV (As := [.int (nI cv), .int (nI k)]) (rest := []) ⟨hx, hb, hml, hown, hts⟩ (c_X7_digit_g l D cI cJ cZ m0 g1 g2 g3 g4 g5 g6 g7 g8 g9 g10 g11 g12 k cv (nI n) mr (nI y) mo ml th (by first | assumption | omega) (by first | assumption | omega) (by first | assumption | omega)) (cwV 2 hts gX7_plan_X7_digit rfl rfl rfl (by decide +kernel) ⟨Nat.le_of_ble_eq_true rfl, Nat.le_of_ble_eq_true rfl⟩) ⟨pc_blind, va_recv hK hP (ci := 7) (q0 := 0) rfl rfl, fun U hU hW => ⟨rfl, by rw [hU]; exact hP.sub (ws' := [(m0, .inr (7, [.int (nI n), .ref g1, .ref g2, .ref g3, .int mr, .ref g4, .int (nI y), .ref g5, .int mo, .ref g6, .int ml, .ref g7, .ref g8, .ref g9, .ref g10, .ref g11, .ref g12])), (g12, .inl (cI, 9, .inl th))]) [0, 5] rfl, hKN.warm hW⟩⟩ rfl rfl hl.1 rfl (lv_room (Nat.le_of_ble_eq_true rfl)) dX7_plan_60 ⟨Nat.le_of_ble_eq_true rfl, Nat.le_of_ble_eq_true rfl⟩) hS hP (fun r7 H locs w7r hP hS => ?_)
            have w7 : r7 = nI (cv / 3 ^ k % 3) := w7r
            clear w7r
            obtain rfl : r7 = nI (cv / 3 ^ k % 3) := w7
            refine lv_if_eq (tgt := 69) hx hb dX7_plan_63 (by decide) (fun c8 => ?_) (fun c8 => ?_)
            · skip
              have d8 := c8
              rw [nz_eq (by omega)] at d8
              refine lv_iload_n hx hb dX7_plan_69 rfl (lv_at hl 3 rfl) ?_
              refine lv_aload_n hx hb dX7_plan_70 rfl (lv_at hl 2 rfl) ?_
              refine va_get (D := D) (ci := 7) (v := .ref g12) (C := RX7) (T := TX7) (N := 17) hx hb hts hiX7 hown hK hP 0 rfl rfl 16 (by decide) hf52 (fun _ h9 => h9) rfl dX7_plan_71 ?_
              refine lv_iload hx hb dX7_plan_74 (lv_at hl 0 rfl) ?_
              refine va_iald hx hb hK hP 5 0 rfl rfl (i := nI k) (vp_in_nI (by omega) (by omega)) dX7_plan_76 ?_
              refine cn_i (y := nI (3 ^ k)) ((congrArg th (nI_clamp (by omega))).trans (hth k (by omega))) ?_
              refine lv_iadd hx hb dX7_plan_77 ?_
              refine cn_i (y := nI (cv + (3 ^ k))) (nI_add cv (3 ^ k)) ?_
              refine lv_istore (lv' := [(5, .int (nI (cv + (3 ^ k)))), (4, .int (nI k)), (2, .long r4), (0, .ref m0), (1, .int (nI cv))]) hx hb dX7_plan_78 hl (by decide) rfl (fun ls hl => ?_)
              have h8 := m_up (n := n) (x := k) hcv (by omega) (by omega)
              refine lv_iload hx hb dX7_plan_80 (lv_at hl 0 rfl) ?_
              refine lv_aload_n hx hb dX7_plan_82 rfl (lv_at hl 3 rfl) ?_
              refine va_get (D := D) (ci := 7) (v := .ref g12) (C := RX7) (T := TX7) (N := 17) hx hb hts hiX7 hown hK hP 0 rfl rfl 16 (by decide) hf52 (fun _ h9 => h9) rfl dX7_plan_83 ?_
              refine lv_iload hx hb dX7_plan_86 (lv_at hl 1 rfl) ?_
              refine va_iald hx hb hK hP 5 0 rfl rfl (i := nI k) (vp_in_nI (by omega) (by omega)) dX7_plan_88 ?_
              refine cn_i (y := nI (3 ^ k)) ((congrArg th (nI_clamp (by omega))).trans (hth k (by omega))) ?_
              refine lv_iadd hx hb dX7_plan_89 ?_
              refine cn_i (y := nI ((cv + (3 ^ k)) + (3 ^ k))) (nI_add (cv + (3 ^ k)) (3 ^ k)) ?_
              refine lv_istore (lv' := [(6, .int (nI ((cv + (3 ^ k)) + (3 ^ k)))), (5, .int (nI (cv + (3 ^ k)))), (4, .int (nI k)), (2, .long r4), (0, .ref m0), (1, .int (nI cv))]) hx hb dX7_plan_90 hl (by decide) rfl (fun ls hl => ?_)
              refine lv_lload_n hx hb dX7_plan_92 rfl (lv_at hl 3 rfl) ?_
              refine lv_aload_n hx hb dX7_plan_93 rfl (lv_at hl 4 rfl) ?_
              refine va_get (D := D) (ci := 7) (v := .ref g3) (C := RX7) (T := TX7) (N := 17) hx hb hts hiX7 hown hK hP 0 rfl rfl 3 (by decide) hf20 (fun _ h9 => h9) rfl dX7_plan_94 ?_
              refine lv_iload hx hb dX7_plan_97 (lv_at hl 2 rfl) ?_
              refine va_iald hx hb hK hP 3 0 rfl rfl (i := nI k) (vp_in_nI (by omega) (by omega)) dX7_plan_99 ?_
              refine cn_i (y := fp k) (congrArg fp (nI_clamp (by omega))) ?_
              refine lv_i2l hx hb dX7_plan_100 rfl ?_
              refine lv_lmul hx hb dX7_plan_101 ?_
              refine lv_aload_n hx hb dX7_plan_102 rfl (lv_at hl 4 rfl) ?_
              refine va_get (D := D) (ci := 7) (v := .ref g8) (C := RX7) (T := TX7) (N := 17) hx hb hts hiX7 hown hK hP 0 rfl rfl 12 (by decide) hf39 (fun _ h9 => h9) rfl dX7_plan_103 ?_
              refine lv_iload hx hb dX7_plan_106 (lv_at hl 1 rfl) ?_
              refine va_lald hx hb hK hP 6 1 rfl rfl (i := nI (cv + (3 ^ k))) (vp_in_nI (by omega) (by omega)) dX7_plan_108 ?_
              refine cn_l (y := ub (cv + (3 ^ k))) (congrArg ub (nI_clamp (by omega))) ?_
              refine lv_ladd hx hb dX7_plan_109 ?_
              refine lv_aload_n hx hb dX7_plan_110 rfl (lv_at hl 4 rfl) ?_
              refine va_get (D := D) (ci := 7) (v := .ref g8) (C := RX7) (T := TX7) (N := 17) hx hb hts hiX7 hown hK hP 0 rfl rfl 12 (by decide) hf39 (fun _ h9 => h9) rfl dX7_plan_111 ?_
              refine lv_iload hx hb dX7_plan_114 (lv_at hl 0 rfl) ?_
              refine va_lald hx hb hK hP 6 1 rfl rfl (i := nI ((cv + (3 ^ k)) + (3 ^ k))) (vp_in_nI (by omega) (by omega)) dX7_plan_116 ?_
              refine cn_l (y := ub ((cv + (3 ^ k)) + (3 ^ k))) (congrArg ub (nI_clamp (by omega))) ?_
              refine lv_ladd hx hb dX7_plan_117 ?_
              refine lv_lstore (lv' := [(7, .long (((r4 * ((fp k).toInt64)) + (ub (cv + (3 ^ k)))) + (ub ((cv + (3 ^ k)) + (3 ^ k))))), (6, .int (nI ((cv + (3 ^ k)) + (3 ^ k)))), (5, .int (nI (cv + (3 ^ k)))), (4, .int (nI k)), (2, .long r4), (0, .ref m0), (1, .int (nI cv))]) hx hb dX7_plan_118 hl (by decide) rfl (fun ls hl => ?_)
              refine lv_aload_n hx hb dX7_plan_120 rfl (lv_at hl 5 rfl) ?_
              refine va_get (D := D) (ci := 7) (v := .ref g9) (C := RX7) (T := TX7) (N := 17) hx hb hts hiX7 hown hK hP 0 rfl rfl 13 (by decide) hf43 (fun _ h9 => h9) rfl dX7_plan_121 ?_
              refine lv_iload_n hx hb dX7_plan_124 rfl (lv_at hl 6 rfl) ?_
              refine va_iald hx hb hK hP 7 0 rfl rfl (i := nI cv) (vp_in_nI (by omega) (by omega)) dX7_plan_125 ?_
              refine cn_i (y := un cv) (congrArg un (nI_clamp (by omega))) ?_
              refine lv_iconst (v := (-1 : Int32)) hx hb dX7_plan_126 (by decide) ?_
              refine lv_icmp_eq (tgt := 142) hx hb dX7_plan_127 (by decide) (fun c9 => ?_) (fun c9 => ?_)
              · skip
                refine lv_aload_n hx hb dX7_plan_142 rfl (lv_at hl 5 rfl) ?_
                refine va_get (D := D) (ci := 7) (v := .ref g8) (C := RX7) (T := TX7) (N := 17) hx hb hts hiX7 hown hK hP 0 rfl rfl 12 (by decide) hf39 (fun _ h9 => h9) rfl dX7_plan_143 ?_
                refine lv_iload_n hx hb dX7_plan_146 rfl (lv_at hl 6 rfl) ?_
                refine lv_lload hx hb dX7_plan_147 (lv_at hl 0 rfl) ?_
                refine va_last hx hb hK hP hD hS 6 1 rfl rfl (i := nI cv) (vp_in_nI (by omega) (by omega)) dX7_plan_149 (fun H locs hP hD hS => ?_)
                have hP : va_P D vwCl [(m0, .inr (7, [.int (nI n), .ref g1, .ref g2, .ref g3, .int mr, .ref g4, .int (nI y), .ref g5, .int mo, .ref g6, .int ml, .ref g7, .ref g8, .ref g9, .ref g10, .ref g11, .ref g12])), (g1, .inl (cI, 9, .inl fg)), (g2, .inl (cI, 9, .inl fb)), (g3, .inl (cI, 9, .inl fp)), (g4, .inl (cZ, 20480, .inl fs)), (g12, .inl (cI, 9, .inl th)), (g8, .inl (cJ, 19683, .inr (.inl (vp_updL ub (nI cv).toNatClampNeg (((r4 * ((fp k).toInt64)) + (ub (cv + (3 ^ k)))) + (ub ((cv + (3 ^ k)) + (3 ^ k)))))))), (g9, .inl (cI, 19683, .inl un)), (g10, .inl (cI, 19683, .inl uw)), (g11, .inl (cI, 19683, .inl ux))] H := hP
                have hD : va_D (aA as) [(m0, .inr (7, [.int (nI n), .ref g1, .ref g2, .ref g3, .int mr, .ref g4, .int (nI y), .ref g5, .int mo, .ref g6, .int ml, .ref g7, .ref g8, .ref g9, .ref g10, .ref g11, .ref g12])), (g1, .inl (cI, 9, .inl fg)), (g2, .inl (cI, 9, .inl fb)), (g3, .inl (cI, 9, .inl fp)), (g4, .inl (cZ, 20480, .inl fs)), (g12, .inl (cI, 9, .inl th)), (g8, .inl (cJ, 19683, .inr (.inl (vp_updL ub (nI cv).toNatClampNeg (((r4 * ((fp k).toInt64)) + (ub (cv + (3 ^ k)))) + (ub ((cv + (3 ^ k)) + (3 ^ k)))))))), (g9, .inl (cI, 19683, .inl un)), (g10, .inl (cI, 19683, .inl uw)), (g11, .inl (cI, 19683, .inl ux))] := hD
                rw [nI_clamp (n := cv) (by omega)] at hP hD
                refine lv_aload_n hx hb dX7_plan_150 rfl (lv_at hl 5 rfl) ?_
                refine va_get (D := D) (ci := 7) (v := .ref g9) (C := RX7) (T := TX7) (N := 17) hx hb hts hiX7 hown hK hP 0 rfl rfl 13 (by decide) hf43 (fun _ h9 => h9) rfl dX7_plan_151 ?_
                refine lv_iload_n hx hb dX7_plan_154 rfl (lv_at hl 6 rfl) ?_
                refine lv_iload hx hb dX7_plan_155 (lv_at hl 3 rfl) ?_
                refine va_iast hx hb hK hP hD hS 7 0 rfl rfl (i := nI cv) (vp_in_nI (by omega) (by omega)) dX7_plan_157 (fun H locs hP hD hS => ?_)
                have hP : va_P D vwCl [(m0, .inr (7, [.int (nI n), .ref g1, .ref g2, .ref g3, .int mr, .ref g4, .int (nI y), .ref g5, .int mo, .ref g6, .int ml, .ref g7, .ref g8, .ref g9, .ref g10, .ref g11, .ref g12])), (g1, .inl (cI, 9, .inl fg)), (g2, .inl (cI, 9, .inl fb)), (g3, .inl (cI, 9, .inl fp)), (g4, .inl (cZ, 20480, .inl fs)), (g12, .inl (cI, 9, .inl th)), (g8, .inl (cJ, 19683, .inr (.inl (vp_updL ub cv (((r4 * ((fp k).toInt64)) + (ub (cv + (3 ^ k)))) + (ub ((cv + (3 ^ k)) + (3 ^ k)))))))), (g9, .inl (cI, 19683, .inl (upd un (nI cv).toNatClampNeg (nI k)))), (g10, .inl (cI, 19683, .inl uw)), (g11, .inl (cI, 19683, .inl ux))] H := hP
                have hD : va_D (aA as) [(m0, .inr (7, [.int (nI n), .ref g1, .ref g2, .ref g3, .int mr, .ref g4, .int (nI y), .ref g5, .int mo, .ref g6, .int ml, .ref g7, .ref g8, .ref g9, .ref g10, .ref g11, .ref g12])), (g1, .inl (cI, 9, .inl fg)), (g2, .inl (cI, 9, .inl fb)), (g3, .inl (cI, 9, .inl fp)), (g4, .inl (cZ, 20480, .inl fs)), (g12, .inl (cI, 9, .inl th)), (g8, .inl (cJ, 19683, .inr (.inl (vp_updL ub cv (((r4 * ((fp k).toInt64)) + (ub (cv + (3 ^ k)))) + (ub ((cv + (3 ^ k)) + (3 ^ k)))))))), (g9, .inl (cI, 19683, .inl (upd un (nI cv).toNatClampNeg (nI k)))), (g10, .inl (cI, 19683, .inl uw)), (g11, .inl (cI, 19683, .inl ux))] := hD
                rw [nI_clamp (n := cv) (by omega)] at hP hD
                refine lv_aload_n hx hb dX7_plan_158 rfl (lv_at hl 5 rfl) ?_
                refine va_get (D := D) (ci := 7) (v := .ref g3) (C := RX7) (T := TX7) (N := 17) hx hb hts hiX7 hown hK hP 0 rfl rfl 3 (by decide) hf20 (fun _ h9 => h9) rfl dX7_plan_159 ?_
                refine lv_iload hx hb dX7_plan_162 (lv_at hl 3 rfl) ?_
                refine va_iald hx hb hK hP 3 0 rfl rfl (i := nI k) (vp_in_nI (by omega) (by omega)) dX7_plan_164 ?_
                refine cn_i (y := fp k) (congrArg fp (nI_clamp (by omega))) ?_
                refine lv_aload_n hx hb dX7_plan_165 rfl (lv_at hl 5 rfl) ?_
                refine va_get (D := D) (ci := 7) (v := .ref g10) (C := RX7) (T := TX7) (N := 17) hx hb hts hiX7 hown hK hP 0 rfl rfl 14 (by decide) hf46 (fun _ h9 => h9) rfl dX7_plan_166 ?_
                refine lv_iload hx hb dX7_plan_169 (lv_at hl 2 rfl) ?_
                refine va_iald hx hb hK hP 8 0 rfl rfl (i := nI (cv + (3 ^ k))) (vp_in_nI (by omega) (by omega)) dX7_plan_171 ?_
                refine cn_i (y := uw (cv + (3 ^ k))) (congrArg uw (nI_clamp (by omega))) ?_
                refine lv_aload_n hx hb dX7_plan_172 rfl (lv_at hl 5 rfl) ?_
                refine va_get (D := D) (ci := 7) (v := .ref g10) (C := RX7) (T := TX7) (N := 17) hx hb hts hiX7 hown hK hP 0 rfl rfl 14 (by decide) hf46 (fun _ h9 => h9) rfl dX7_plan_173 ?_
                refine lv_iload hx hb dX7_plan_176 (lv_at hl 1 rfl) ?_
                refine va_iald hx hb hK hP 8 0 rfl rfl (i := nI ((cv + (3 ^ k)) + (3 ^ k))) (vp_in_nI (by omega) (by omega)) dX7_plan_178 ?_
                refine cn_i (y := uw ((cv + (3 ^ k)) + (3 ^ k))) (congrArg uw (nI_clamp (by omega))) ?_
                refine lv_icmp_le (tgt := 192) hx hb dX7_plan_179 (by decide) (fun c10 => ?_) (fun c10 => ?_)
                · skip
                  refine lv_aload_n hx hb dX7_plan_192 rfl (lv_at hl 5 rfl) ?_
                  refine va_get (D := D) (ci := 7) (v := .ref g10) (C := RX7) (T := TX7) (N := 17) hx hb hts hiX7 hown hK hP 0 rfl rfl 14 (by decide) hf46 (fun _ h9 => h9) rfl dX7_plan_193 ?_
                  refine lv_iload hx hb dX7_plan_196 (lv_at hl 1 rfl) ?_
                  refine va_iald hx hb hK hP 8 0 rfl rfl (i := nI ((cv + (3 ^ k)) + (3 ^ k))) (vp_in_nI (by omega) (by omega)) dX7_plan_198 ?_
                  refine cn_i (y := uw ((cv + (3 ^ k)) + (3 ^ k))) (congrArg uw (nI_clamp (by omega))) ?_
                  refine lv_iadd hx hb dX7_plan_199 ?_
                  refine lv_istore (lv' := [(9, .int ((fp k) + (uw ((cv + (3 ^ k)) + (3 ^ k))))), (7, .long (((r4 * ((fp k).toInt64)) + (ub (cv + (3 ^ k)))) + (ub ((cv + (3 ^ k)) + (3 ^ k))))), (6, .int (nI ((cv + (3 ^ k)) + (3 ^ k)))), (5, .int (nI (cv + (3 ^ k)))), (4, .int (nI k)), (2, .long r4), (0, .ref m0), (1, .int (nI cv))]) hx hb dX7_plan_200 hl (by decide) rfl (fun ls hl => ?_)
                  refine lv_aload_n hx hb dX7_plan_202 rfl (lv_at hl 6 rfl) ?_
                  refine va_get (D := D) (ci := 7) (v := .ref g11) (C := RX7) (T := TX7) (N := 17) hx hb hts hiX7 hown hK hP 0 rfl rfl 15 (by decide) hf49 (fun _ h9 => h9) rfl dX7_plan_203 ?_
                  refine lv_iload_n hx hb dX7_plan_206 rfl (lv_at hl 7 rfl) ?_
                  refine va_iald hx hb hK hP 9 0 rfl rfl (i := nI cv) (vp_in_nI (by omega) (by omega)) dX7_plan_207 ?_
                  refine cn_i (y := ux cv) (congrArg ux (nI_clamp (by omega))) ?_
                  refine lv_iconst (v := (-1 : Int32)) hx hb dX7_plan_208 (by decide) ?_
                  refine lv_icmp_eq (tgt := 223) hx hb dX7_plan_209 (by decide) (fun c11 => ?_) (fun c11 => ?_)
                  · skip
                    refine lv_aload_n hx hb dX7_plan_223 rfl (lv_at hl 6 rfl) ?_
                    refine va_get (D := D) (ci := 7) (v := .ref g10) (C := RX7) (T := TX7) (N := 17) hx hb hts hiX7 hown hK hP 0 rfl rfl 14 (by decide) hf46 (fun _ h9 => h9) rfl dX7_plan_224 ?_
                    refine lv_iload_n hx hb dX7_plan_227 rfl (lv_at hl 7 rfl) ?_
                    refine lv_iload hx hb dX7_plan_228 (lv_at hl 0 rfl) ?_
                    refine va_iast hx hb hK hP hD hS 8 0 rfl rfl (i := nI cv) (vp_in_nI (by omega) (by omega)) dX7_plan_230 (fun H locs hP hD hS => ?_)
                    have hP : va_P D vwCl [(m0, .inr (7, [.int (nI n), .ref g1, .ref g2, .ref g3, .int mr, .ref g4, .int (nI y), .ref g5, .int mo, .ref g6, .int ml, .ref g7, .ref g8, .ref g9, .ref g10, .ref g11, .ref g12])), (g1, .inl (cI, 9, .inl fg)), (g2, .inl (cI, 9, .inl fb)), (g3, .inl (cI, 9, .inl fp)), (g4, .inl (cZ, 20480, .inl fs)), (g12, .inl (cI, 9, .inl th)), (g8, .inl (cJ, 19683, .inr (.inl (vp_updL ub cv (((r4 * ((fp k).toInt64)) + (ub (cv + (3 ^ k)))) + (ub ((cv + (3 ^ k)) + (3 ^ k)))))))), (g9, .inl (cI, 19683, .inl (upd un cv (nI k)))), (g10, .inl (cI, 19683, .inl (upd uw (nI cv).toNatClampNeg ((fp k) + (uw ((cv + (3 ^ k)) + (3 ^ k))))))), (g11, .inl (cI, 19683, .inl ux))] H := hP
                    have hD : va_D (aA as) [(m0, .inr (7, [.int (nI n), .ref g1, .ref g2, .ref g3, .int mr, .ref g4, .int (nI y), .ref g5, .int mo, .ref g6, .int ml, .ref g7, .ref g8, .ref g9, .ref g10, .ref g11, .ref g12])), (g1, .inl (cI, 9, .inl fg)), (g2, .inl (cI, 9, .inl fb)), (g3, .inl (cI, 9, .inl fp)), (g4, .inl (cZ, 20480, .inl fs)), (g12, .inl (cI, 9, .inl th)), (g8, .inl (cJ, 19683, .inr (.inl (vp_updL ub cv (((r4 * ((fp k).toInt64)) + (ub (cv + (3 ^ k)))) + (ub ((cv + (3 ^ k)) + (3 ^ k)))))))), (g9, .inl (cI, 19683, .inl (upd un cv (nI k)))), (g10, .inl (cI, 19683, .inl (upd uw (nI cv).toNatClampNeg ((fp k) + (uw ((cv + (3 ^ k)) + (3 ^ k))))))), (g11, .inl (cI, 19683, .inl ux))] := hD
                    rw [nI_clamp (n := cv) (by omega)] at hP hD
                    refine lv_aload_n hx hb dX7_plan_231 rfl (lv_at hl 6 rfl) ?_
                    refine va_get (D := D) (ci := 7) (v := .ref g11) (C := RX7) (T := TX7) (N := 17) hx hb hts hiX7 hown hK hP 0 rfl rfl 15 (by decide) hf49 (fun _ h9 => h9) rfl dX7_plan_232 ?_
                    refine lv_iload_n hx hb dX7_plan_235 rfl (lv_at hl 7 rfl) ?_
                    refine lv_iload hx hb dX7_plan_236 (lv_at hl 4 rfl) ?_
                    refine va_iast hx hb hK hP hD hS 9 0 rfl rfl (i := nI cv) (vp_in_nI (by omega) (by omega)) dX7_plan_238 (fun H locs hP hD hS => ?_)
                    have hP : va_P D vwCl [(m0, .inr (7, [.int (nI n), .ref g1, .ref g2, .ref g3, .int mr, .ref g4, .int (nI y), .ref g5, .int mo, .ref g6, .int ml, .ref g7, .ref g8, .ref g9, .ref g10, .ref g11, .ref g12])), (g1, .inl (cI, 9, .inl fg)), (g2, .inl (cI, 9, .inl fb)), (g3, .inl (cI, 9, .inl fp)), (g4, .inl (cZ, 20480, .inl fs)), (g12, .inl (cI, 9, .inl th)), (g8, .inl (cJ, 19683, .inr (.inl (vp_updL ub cv (((r4 * ((fp k).toInt64)) + (ub (cv + (3 ^ k)))) + (ub ((cv + (3 ^ k)) + (3 ^ k)))))))), (g9, .inl (cI, 19683, .inl (upd un cv (nI k)))), (g10, .inl (cI, 19683, .inl (upd uw cv ((fp k) + (uw ((cv + (3 ^ k)) + (3 ^ k))))))), (g11, .inl (cI, 19683, .inl (upd ux (nI cv).toNatClampNeg (nI k))))] H := hP
                    have hD : va_D (aA as) [(m0, .inr (7, [.int (nI n), .ref g1, .ref g2, .ref g3, .int mr, .ref g4, .int (nI y), .ref g5, .int mo, .ref g6, .int ml, .ref g7, .ref g8, .ref g9, .ref g10, .ref g11, .ref g12])), (g1, .inl (cI, 9, .inl fg)), (g2, .inl (cI, 9, .inl fb)), (g3, .inl (cI, 9, .inl fp)), (g4, .inl (cZ, 20480, .inl fs)), (g12, .inl (cI, 9, .inl th)), (g8, .inl (cJ, 19683, .inr (.inl (vp_updL ub cv (((r4 * ((fp k).toInt64)) + (ub (cv + (3 ^ k)))) + (ub ((cv + (3 ^ k)) + (3 ^ k)))))))), (g9, .inl (cI, 19683, .inl (upd un cv (nI k)))), (g10, .inl (cI, 19683, .inl (upd uw cv ((fp k) + (uw ((cv + (3 ^ k)) + (3 ^ k))))))), (g11, .inl (cI, 19683, .inl (upd ux (nI cv).toNatClampNeg (nI k))))] := hD
                    rw [nI_clamp (n := cv) (by omega)] at hP hD
                    refine lv_iinc (v := nI (k + 1)) (lv' := [(4, .int (nI (k + 1))), (9, .int ((fp k) + (uw ((cv + (3 ^ k)) + (3 ^ k))))), (7, .long (((r4 * ((fp k).toInt64)) + (ub (cv + (3 ^ k)))) + (ub ((cv + (3 ^ k)) + (3 ^ k))))), (6, .int (nI ((cv + (3 ^ k)) + (3 ^ k)))), (5, .int (nI (cv + (3 ^ k)))), (2, .long r4), (0, .ref m0), (1, .int (nI cv))]) hx hb dX7_plan_239 hl (k := 4) rfl (nI_1 k) (by decide) rfl (fun ls hl => ?_)
                    refine lv_goto (tgt := 47) hx hb dX7_plan_242 (by decide) ?_
                    exact ih5 (k + 1) (vp_updL ub cv (((r4 * ((fp k).toInt64)) + (ub (cv + (3 ^ k)))) + (ub ((cv + (3 ^ k)) + (3 ^ k))))) (upd un cv (nI k)) (upd uw cv ((fp k) + (uw ((cv + (3 ^ k)) + (3 ^ k))))) (upd ux cv (nI k)) _ _ _ (by omega) (fun z hz => by have h7 := hsm z hz; exact ⟨by simp [upd, hz, h7.1], by simp [upd, hz, h7.2]⟩) (by first | exact hval.elim (fun h => Or.inl ⟨h.1, h.2.1, fun z hz => by rcases Nat.lt_or_ge z k with g | g; exact h.2.2 z g; exact (by have e9 : z = k := (by omega); subst e9; assumption)⟩) Or.inr | exact Or.inr ⟨by first | exact pv_set (by omega) (by omega) | exact (hval.resolve_left (fun h => absurd h.1 (by assumption))).1, by first | exact pv_set (by omega) (by omega) | exact (hval.resolve_left (fun h => absurd h.2.1 (by assumption))).2⟩) hP hD hS (lv_sub hl [0, 5, 6, 7] rfl)
                  · skip
                    refine lv_iload hx hb dX7_plan_212 (lv_at hl 0 rfl) ?_
                    refine lv_aload_n hx hb dX7_plan_214 rfl (lv_at hl 6 rfl) ?_
                    refine va_get (D := D) (ci := 7) (v := .ref g10) (C := RX7) (T := TX7) (N := 17) hx hb hts hiX7 hown hK hP 0 rfl rfl 14 (by decide) hf46 (fun _ h9 => h9) rfl dX7_plan_215 ?_
                    refine lv_iload_n hx hb dX7_plan_218 rfl (lv_at hl 7 rfl) ?_
                    refine va_iald hx hb hK hP 8 0 rfl rfl (i := nI cv) (vp_in_nI (by omega) (by omega)) dX7_plan_219 ?_
                    refine cn_i (y := uw cv) (congrArg uw (nI_clamp (by omega))) ?_
                    refine lv_icmp_ge (tgt := 239) hx hb dX7_plan_220 (by decide) (fun c12 => ?_) (fun c12 => ?_)
                    · skip
                      refine lv_iinc (v := nI (k + 1)) (lv' := [(4, .int (nI (k + 1))), (9, .int ((fp k) + (uw ((cv + (3 ^ k)) + (3 ^ k))))), (7, .long (((r4 * ((fp k).toInt64)) + (ub (cv + (3 ^ k)))) + (ub ((cv + (3 ^ k)) + (3 ^ k))))), (6, .int (nI ((cv + (3 ^ k)) + (3 ^ k)))), (5, .int (nI (cv + (3 ^ k)))), (2, .long r4), (0, .ref m0), (1, .int (nI cv))]) hx hb dX7_plan_239 hl (k := 4) rfl (nI_1 k) (by decide) rfl (fun ls hl => ?_)
                      refine lv_goto (tgt := 47) hx hb dX7_plan_242 (by decide) ?_
                      exact ih5 (k + 1) (vp_updL ub cv (((r4 * ((fp k).toInt64)) + (ub (cv + (3 ^ k)))) + (ub ((cv + (3 ^ k)) + (3 ^ k))))) (upd un cv (nI k)) uw ux _ _ _ (by omega) (fun z hz => by have h7 := hsm z hz; exact ⟨by simp [upd, hz, h7.1], by simp [upd, hz, h7.2]⟩) (by first | exact hval.elim (fun h => Or.inl ⟨h.1, h.2.1, fun z hz => by rcases Nat.lt_or_ge z k with g | g; exact h.2.2 z g; exact (by have e9 : z = k := (by omega); subst e9; assumption)⟩) Or.inr | exact Or.inr ⟨by first | exact pv_set (by omega) (by omega) | exact (hval.resolve_left (fun h => absurd h.1 (by assumption))).1, by first | exact pv_set (by omega) (by omega) | exact (hval.resolve_left (fun h => absurd h.2.1 (by assumption))).2⟩) hP hD hS (lv_sub hl [0, 5, 6, 7] rfl)
                    · skip
                      refine lv_aload_n hx hb dX7_plan_223 rfl (lv_at hl 6 rfl) ?_
                      refine va_get (D := D) (ci := 7) (v := .ref g10) (C := RX7) (T := TX7) (N := 17) hx hb hts hiX7 hown hK hP 0 rfl rfl 14 (by decide) hf46 (fun _ h9 => h9) rfl dX7_plan_224 ?_
                      refine lv_iload_n hx hb dX7_plan_227 rfl (lv_at hl 7 rfl) ?_
                      refine lv_iload hx hb dX7_plan_228 (lv_at hl 0 rfl) ?_
                      refine va_iast hx hb hK hP hD hS 8 0 rfl rfl (i := nI cv) (vp_in_nI (by omega) (by omega)) dX7_plan_230 (fun H locs hP hD hS => ?_)
                      have hP : va_P D vwCl [(m0, .inr (7, [.int (nI n), .ref g1, .ref g2, .ref g3, .int mr, .ref g4, .int (nI y), .ref g5, .int mo, .ref g6, .int ml, .ref g7, .ref g8, .ref g9, .ref g10, .ref g11, .ref g12])), (g1, .inl (cI, 9, .inl fg)), (g2, .inl (cI, 9, .inl fb)), (g3, .inl (cI, 9, .inl fp)), (g4, .inl (cZ, 20480, .inl fs)), (g12, .inl (cI, 9, .inl th)), (g8, .inl (cJ, 19683, .inr (.inl (vp_updL ub cv (((r4 * ((fp k).toInt64)) + (ub (cv + (3 ^ k)))) + (ub ((cv + (3 ^ k)) + (3 ^ k)))))))), (g9, .inl (cI, 19683, .inl (upd un cv (nI k)))), (g10, .inl (cI, 19683, .inl (upd uw (nI cv).toNatClampNeg ((fp k) + (uw ((cv + (3 ^ k)) + (3 ^ k))))))), (g11, .inl (cI, 19683, .inl ux))] H := hP
                      have hD : va_D (aA as) [(m0, .inr (7, [.int (nI n), .ref g1, .ref g2, .ref g3, .int mr, .ref g4, .int (nI y), .ref g5, .int mo, .ref g6, .int ml, .ref g7, .ref g8, .ref g9, .ref g10, .ref g11, .ref g12])), (g1, .inl (cI, 9, .inl fg)), (g2, .inl (cI, 9, .inl fb)), (g3, .inl (cI, 9, .inl fp)), (g4, .inl (cZ, 20480, .inl fs)), (g12, .inl (cI, 9, .inl th)), (g8, .inl (cJ, 19683, .inr (.inl (vp_updL ub cv (((r4 * ((fp k).toInt64)) + (ub (cv + (3 ^ k)))) + (ub ((cv + (3 ^ k)) + (3 ^ k)))))))), (g9, .inl (cI, 19683, .inl (upd un cv (nI k)))), (g10, .inl (cI, 19683, .inl (upd uw (nI cv).toNatClampNeg ((fp k) + (uw ((cv + (3 ^ k)) + (3 ^ k))))))), (g11, .inl (cI, 19683, .inl ux))] := hD
                      rw [nI_clamp (n := cv) (by omega)] at hP hD
                      refine lv_aload_n hx hb dX7_plan_231 rfl (lv_at hl 6 rfl) ?_
                      refine va_get (D := D) (ci := 7) (v := .ref g11) (C := RX7) (T := TX7) (N := 17) hx hb hts hiX7 hown hK hP 0 rfl rfl 15 (by decide) hf49 (fun _ h9 => h9) rfl dX7_plan_232 ?_
                      refine lv_iload_n hx hb dX7_plan_235 rfl (lv_at hl 7 rfl) ?_
                      refine lv_iload hx hb dX7_plan_236 (lv_at hl 4 rfl) ?_
                      refine va_iast hx hb hK hP hD hS 9 0 rfl rfl (i := nI cv) (vp_in_nI (by omega) (by omega)) dX7_plan_238 (fun H locs hP hD hS => ?_)
                      have hP : va_P D vwCl [(m0, .inr (7, [.int (nI n), .ref g1, .ref g2, .ref g3, .int mr, .ref g4, .int (nI y), .ref g5, .int mo, .ref g6, .int ml, .ref g7, .ref g8, .ref g9, .ref g10, .ref g11, .ref g12])), (g1, .inl (cI, 9, .inl fg)), (g2, .inl (cI, 9, .inl fb)), (g3, .inl (cI, 9, .inl fp)), (g4, .inl (cZ, 20480, .inl fs)), (g12, .inl (cI, 9, .inl th)), (g8, .inl (cJ, 19683, .inr (.inl (vp_updL ub cv (((r4 * ((fp k).toInt64)) + (ub (cv + (3 ^ k)))) + (ub ((cv + (3 ^ k)) + (3 ^ k)))))))), (g9, .inl (cI, 19683, .inl (upd un cv (nI k)))), (g10, .inl (cI, 19683, .inl (upd uw cv ((fp k) + (uw ((cv + (3 ^ k)) + (3 ^ k))))))), (g11, .inl (cI, 19683, .inl (upd ux (nI cv).toNatClampNeg (nI k))))] H := hP
                      have hD : va_D (aA as) [(m0, .inr (7, [.int (nI n), .ref g1, .ref g2, .ref g3, .int mr, .ref g4, .int (nI y), .ref g5, .int mo, .ref g6, .int ml, .ref g7, .ref g8, .ref g9, .ref g10, .ref g11, .ref g12])), (g1, .inl (cI, 9, .inl fg)), (g2, .inl (cI, 9, .inl fb)), (g3, .inl (cI, 9, .inl fp)), (g4, .inl (cZ, 20480, .inl fs)), (g12, .inl (cI, 9, .inl th)), (g8, .inl (cJ, 19683, .inr (.inl (vp_updL ub cv (((r4 * ((fp k).toInt64)) + (ub (cv + (3 ^ k)))) + (ub ((cv + (3 ^ k)) + (3 ^ k)))))))), (g9, .inl (cI, 19683, .inl (upd un cv (nI k)))), (g10, .inl (cI, 19683, .inl (upd uw cv ((fp k) + (uw ((cv + (3 ^ k)) + (3 ^ k))))))), (g11, .inl (cI, 19683, .inl (upd ux (nI cv).toNatClampNeg (nI k))))] := hD
                      rw [nI_clamp (n := cv) (by omega)] at hP hD
                      refine lv_iinc (v := nI (k + 1)) (lv' := [(4, .int (nI (k + 1))), (9, .int ((fp k) + (uw ((cv + (3 ^ k)) + (3 ^ k))))), (7, .long (((r4 * ((fp k).toInt64)) + (ub (cv + (3 ^ k)))) + (ub ((cv + (3 ^ k)) + (3 ^ k))))), (6, .int (nI ((cv + (3 ^ k)) + (3 ^ k)))), (5, .int (nI (cv + (3 ^ k)))), (2, .long r4), (0, .ref m0), (1, .int (nI cv))]) hx hb dX7_plan_239 hl (k := 4) rfl (nI_1 k) (by decide) rfl (fun ls hl => ?_)
                      refine lv_goto (tgt := 47) hx hb dX7_plan_242 (by decide) ?_
                      exact ih5 (k + 1) (vp_updL ub cv (((r4 * ((fp k).toInt64)) + (ub (cv + (3 ^ k)))) + (ub ((cv + (3 ^ k)) + (3 ^ k))))) (upd un cv (nI k)) (upd uw cv ((fp k) + (uw ((cv + (3 ^ k)) + (3 ^ k))))) (upd ux cv (nI k)) _ _ _ (by omega) (fun z hz => by have h7 := hsm z hz; exact ⟨by simp [upd, hz, h7.1], by simp [upd, hz, h7.2]⟩) (by first | exact hval.elim (fun h => Or.inl ⟨h.1, h.2.1, fun z hz => by rcases Nat.lt_or_ge z k with g | g; exact h.2.2 z g; exact (by have e9 : z = k := (by omega); subst e9; assumption)⟩) Or.inr | exact Or.inr ⟨by first | exact pv_set (by omega) (by omega) | exact (hval.resolve_left (fun h => absurd h.1 (by assumption))).1, by first | exact pv_set (by omega) (by omega) | exact (hval.resolve_left (fun h => absurd h.2.1 (by assumption))).2⟩) hP hD hS (lv_sub hl [0, 5, 6, 7] rfl)
                · skip
                  refine lv_aload_n hx hb dX7_plan_182 rfl (lv_at hl 5 rfl) ?_
                  refine va_get (D := D) (ci := 7) (v := .ref g10) (C := RX7) (T := TX7) (N := 17) hx hb hts hiX7 hown hK hP 0 rfl rfl 14 (by decide) hf46 (fun _ h9 => h9) rfl dX7_plan_183 ?_
                  refine lv_iload hx hb dX7_plan_186 (lv_at hl 2 rfl) ?_
                  refine va_iald hx hb hK hP 8 0 rfl rfl (i := nI (cv + (3 ^ k))) (vp_in_nI (by omega) (by omega)) dX7_plan_188 ?_
                  refine cn_i (y := uw (cv + (3 ^ k))) (congrArg uw (nI_clamp (by omega))) ?_
                  refine lv_goto (tgt := 199) hx hb dX7_plan_189 (by decide) ?_
                  refine lv_iadd hx hb dX7_plan_199 ?_
                  refine lv_istore (lv' := [(9, .int ((fp k) + (uw (cv + (3 ^ k))))), (7, .long (((r4 * ((fp k).toInt64)) + (ub (cv + (3 ^ k)))) + (ub ((cv + (3 ^ k)) + (3 ^ k))))), (6, .int (nI ((cv + (3 ^ k)) + (3 ^ k)))), (5, .int (nI (cv + (3 ^ k)))), (4, .int (nI k)), (2, .long r4), (0, .ref m0), (1, .int (nI cv))]) hx hb dX7_plan_200 hl (by decide) rfl (fun ls hl => ?_)
                  refine lv_aload_n hx hb dX7_plan_202 rfl (lv_at hl 6 rfl) ?_
                  refine va_get (D := D) (ci := 7) (v := .ref g11) (C := RX7) (T := TX7) (N := 17) hx hb hts hiX7 hown hK hP 0 rfl rfl 15 (by decide) hf49 (fun _ h9 => h9) rfl dX7_plan_203 ?_
                  refine lv_iload_n hx hb dX7_plan_206 rfl (lv_at hl 7 rfl) ?_
                  refine va_iald hx hb hK hP 9 0 rfl rfl (i := nI cv) (vp_in_nI (by omega) (by omega)) dX7_plan_207 ?_
                  refine cn_i (y := ux cv) (congrArg ux (nI_clamp (by omega))) ?_
                  refine lv_iconst (v := (-1 : Int32)) hx hb dX7_plan_208 (by decide) ?_
                  refine lv_icmp_eq (tgt := 223) hx hb dX7_plan_209 (by decide) (fun c13 => ?_) (fun c13 => ?_)
                  · skip
                    refine lv_aload_n hx hb dX7_plan_223 rfl (lv_at hl 6 rfl) ?_
                    refine va_get (D := D) (ci := 7) (v := .ref g10) (C := RX7) (T := TX7) (N := 17) hx hb hts hiX7 hown hK hP 0 rfl rfl 14 (by decide) hf46 (fun _ h9 => h9) rfl dX7_plan_224 ?_
                    refine lv_iload_n hx hb dX7_plan_227 rfl (lv_at hl 7 rfl) ?_
                    refine lv_iload hx hb dX7_plan_228 (lv_at hl 0 rfl) ?_
                    refine va_iast hx hb hK hP hD hS 8 0 rfl rfl (i := nI cv) (vp_in_nI (by omega) (by omega)) dX7_plan_230 (fun H locs hP hD hS => ?_)
                    have hP : va_P D vwCl [(m0, .inr (7, [.int (nI n), .ref g1, .ref g2, .ref g3, .int mr, .ref g4, .int (nI y), .ref g5, .int mo, .ref g6, .int ml, .ref g7, .ref g8, .ref g9, .ref g10, .ref g11, .ref g12])), (g1, .inl (cI, 9, .inl fg)), (g2, .inl (cI, 9, .inl fb)), (g3, .inl (cI, 9, .inl fp)), (g4, .inl (cZ, 20480, .inl fs)), (g12, .inl (cI, 9, .inl th)), (g8, .inl (cJ, 19683, .inr (.inl (vp_updL ub cv (((r4 * ((fp k).toInt64)) + (ub (cv + (3 ^ k)))) + (ub ((cv + (3 ^ k)) + (3 ^ k)))))))), (g9, .inl (cI, 19683, .inl (upd un cv (nI k)))), (g10, .inl (cI, 19683, .inl (upd uw (nI cv).toNatClampNeg ((fp k) + (uw (cv + (3 ^ k))))))), (g11, .inl (cI, 19683, .inl ux))] H := hP
                    have hD : va_D (aA as) [(m0, .inr (7, [.int (nI n), .ref g1, .ref g2, .ref g3, .int mr, .ref g4, .int (nI y), .ref g5, .int mo, .ref g6, .int ml, .ref g7, .ref g8, .ref g9, .ref g10, .ref g11, .ref g12])), (g1, .inl (cI, 9, .inl fg)), (g2, .inl (cI, 9, .inl fb)), (g3, .inl (cI, 9, .inl fp)), (g4, .inl (cZ, 20480, .inl fs)), (g12, .inl (cI, 9, .inl th)), (g8, .inl (cJ, 19683, .inr (.inl (vp_updL ub cv (((r4 * ((fp k).toInt64)) + (ub (cv + (3 ^ k)))) + (ub ((cv + (3 ^ k)) + (3 ^ k)))))))), (g9, .inl (cI, 19683, .inl (upd un cv (nI k)))), (g10, .inl (cI, 19683, .inl (upd uw (nI cv).toNatClampNeg ((fp k) + (uw (cv + (3 ^ k))))))), (g11, .inl (cI, 19683, .inl ux))] := hD
                    rw [nI_clamp (n := cv) (by omega)] at hP hD
                    refine lv_aload_n hx hb dX7_plan_231 rfl (lv_at hl 6 rfl) ?_
                    refine va_get (D := D) (ci := 7) (v := .ref g11) (C := RX7) (T := TX7) (N := 17) hx hb hts hiX7 hown hK hP 0 rfl rfl 15 (by decide) hf49 (fun _ h9 => h9) rfl dX7_plan_232 ?_
                    refine lv_iload_n hx hb dX7_plan_235 rfl (lv_at hl 7 rfl) ?_
                    refine lv_iload hx hb dX7_plan_236 (lv_at hl 4 rfl) ?_
                    refine va_iast hx hb hK hP hD hS 9 0 rfl rfl (i := nI cv) (vp_in_nI (by omega) (by omega)) dX7_plan_238 (fun H locs hP hD hS => ?_)
                    have hP : va_P D vwCl [(m0, .inr (7, [.int (nI n), .ref g1, .ref g2, .ref g3, .int mr, .ref g4, .int (nI y), .ref g5, .int mo, .ref g6, .int ml, .ref g7, .ref g8, .ref g9, .ref g10, .ref g11, .ref g12])), (g1, .inl (cI, 9, .inl fg)), (g2, .inl (cI, 9, .inl fb)), (g3, .inl (cI, 9, .inl fp)), (g4, .inl (cZ, 20480, .inl fs)), (g12, .inl (cI, 9, .inl th)), (g8, .inl (cJ, 19683, .inr (.inl (vp_updL ub cv (((r4 * ((fp k).toInt64)) + (ub (cv + (3 ^ k)))) + (ub ((cv + (3 ^ k)) + (3 ^ k)))))))), (g9, .inl (cI, 19683, .inl (upd un cv (nI k)))), (g10, .inl (cI, 19683, .inl (upd uw cv ((fp k) + (uw (cv + (3 ^ k))))))), (g11, .inl (cI, 19683, .inl (upd ux (nI cv).toNatClampNeg (nI k))))] H := hP
                    have hD : va_D (aA as) [(m0, .inr (7, [.int (nI n), .ref g1, .ref g2, .ref g3, .int mr, .ref g4, .int (nI y), .ref g5, .int mo, .ref g6, .int ml, .ref g7, .ref g8, .ref g9, .ref g10, .ref g11, .ref g12])), (g1, .inl (cI, 9, .inl fg)), (g2, .inl (cI, 9, .inl fb)), (g3, .inl (cI, 9, .inl fp)), (g4, .inl (cZ, 20480, .inl fs)), (g12, .inl (cI, 9, .inl th)), (g8, .inl (cJ, 19683, .inr (.inl (vp_updL ub cv (((r4 * ((fp k).toInt64)) + (ub (cv + (3 ^ k)))) + (ub ((cv + (3 ^ k)) + (3 ^ k)))))))), (g9, .inl (cI, 19683, .inl (upd un cv (nI k)))), (g10, .inl (cI, 19683, .inl (upd uw cv ((fp k) + (uw (cv + (3 ^ k))))))), (g11, .inl (cI, 19683, .inl (upd ux (nI cv).toNatClampNeg (nI k))))] := hD
                    rw [nI_clamp (n := cv) (by omega)] at hP hD
                    refine lv_iinc (v := nI (k + 1)) (lv' := [(4, .int (nI (k + 1))), (9, .int ((fp k) + (uw (cv + (3 ^ k))))), (7, .long (((r4 * ((fp k).toInt64)) + (ub (cv + (3 ^ k)))) + (ub ((cv + (3 ^ k)) + (3 ^ k))))), (6, .int (nI ((cv + (3 ^ k)) + (3 ^ k)))), (5, .int (nI (cv + (3 ^ k)))), (2, .long r4), (0, .ref m0), (1, .int (nI cv))]) hx hb dX7_plan_239 hl (k := 4) rfl (nI_1 k) (by decide) rfl (fun ls hl => ?_)
                    refine lv_goto (tgt := 47) hx hb dX7_plan_242 (by decide) ?_
                    exact ih5 (k + 1) (vp_updL ub cv (((r4 * ((fp k).toInt64)) + (ub (cv + (3 ^ k)))) + (ub ((cv + (3 ^ k)) + (3 ^ k))))) (upd un cv (nI k)) (upd uw cv ((fp k) + (uw (cv + (3 ^ k))))) (upd ux cv (nI k)) _ _ _ (by omega) (fun z hz => by have h7 := hsm z hz; exact ⟨by simp [upd, hz, h7.1], by simp [upd, hz, h7.2]⟩) (by first | exact hval.elim (fun h => Or.inl ⟨h.1, h.2.1, fun z hz => by rcases Nat.lt_or_ge z k with g | g; exact h.2.2 z g; exact (by have e9 : z = k := (by omega); subst e9; assumption)⟩) Or.inr | exact Or.inr ⟨by first | exact pv_set (by omega) (by omega) | exact (hval.resolve_left (fun h => absurd h.1 (by assumption))).1, by first | exact pv_set (by omega) (by omega) | exact (hval.resolve_left (fun h => absurd h.2.1 (by assumption))).2⟩) hP hD hS (lv_sub hl [0, 5, 6, 7] rfl)
                  · skip
                    refine lv_iload hx hb dX7_plan_212 (lv_at hl 0 rfl) ?_
                    refine lv_aload_n hx hb dX7_plan_214 rfl (lv_at hl 6 rfl) ?_
                    refine va_get (D := D) (ci := 7) (v := .ref g10) (C := RX7) (T := TX7) (N := 17) hx hb hts hiX7 hown hK hP 0 rfl rfl 14 (by decide) hf46 (fun _ h9 => h9) rfl dX7_plan_215 ?_
                    refine lv_iload_n hx hb dX7_plan_218 rfl (lv_at hl 7 rfl) ?_
                    refine va_iald hx hb hK hP 8 0 rfl rfl (i := nI cv) (vp_in_nI (by omega) (by omega)) dX7_plan_219 ?_
                    refine cn_i (y := uw cv) (congrArg uw (nI_clamp (by omega))) ?_
                    refine lv_icmp_ge (tgt := 239) hx hb dX7_plan_220 (by decide) (fun c14 => ?_) (fun c14 => ?_)
                    · skip
                      refine lv_iinc (v := nI (k + 1)) (lv' := [(4, .int (nI (k + 1))), (9, .int ((fp k) + (uw (cv + (3 ^ k))))), (7, .long (((r4 * ((fp k).toInt64)) + (ub (cv + (3 ^ k)))) + (ub ((cv + (3 ^ k)) + (3 ^ k))))), (6, .int (nI ((cv + (3 ^ k)) + (3 ^ k)))), (5, .int (nI (cv + (3 ^ k)))), (2, .long r4), (0, .ref m0), (1, .int (nI cv))]) hx hb dX7_plan_239 hl (k := 4) rfl (nI_1 k) (by decide) rfl (fun ls hl => ?_)
                      refine lv_goto (tgt := 47) hx hb dX7_plan_242 (by decide) ?_
                      exact ih5 (k + 1) (vp_updL ub cv (((r4 * ((fp k).toInt64)) + (ub (cv + (3 ^ k)))) + (ub ((cv + (3 ^ k)) + (3 ^ k))))) (upd un cv (nI k)) uw ux _ _ _ (by omega) (fun z hz => by have h7 := hsm z hz; exact ⟨by simp [upd, hz, h7.1], by simp [upd, hz, h7.2]⟩) (by first | exact hval.elim (fun h => Or.inl ⟨h.1, h.2.1, fun z hz => by rcases Nat.lt_or_ge z k with g | g; exact h.2.2 z g; exact (by have e9 : z = k := (by omega); subst e9; assumption)⟩) Or.inr | exact Or.inr ⟨by first | exact pv_set (by omega) (by omega) | exact (hval.resolve_left (fun h => absurd h.1 (by assumption))).1, by first | exact pv_set (by omega) (by omega) | exact (hval.resolve_left (fun h => absurd h.2.1 (by assumption))).2⟩) hP hD hS (lv_sub hl [0, 5, 6, 7] rfl)
                    · skip
                      refine lv_aload_n hx hb dX7_plan_223 rfl (lv_at hl 6 rfl) ?_
                      refine va_get (D := D) (ci := 7) (v := .ref g10) (C := RX7) (T := TX7) (N := 17) hx hb hts hiX7 hown hK hP 0 rfl rfl 14 (by decide) hf46 (fun _ h9 => h9) rfl dX7_plan_224 ?_
                      refine lv_iload_n hx hb dX7_plan_227 rfl (lv_at hl 7 rfl) ?_
                      refine lv_iload hx hb dX7_plan_228 (lv_at hl 0 rfl) ?_
                      refine va_iast hx hb hK hP hD hS 8 0 rfl rfl (i := nI cv) (vp_in_nI (by omega) (by omega)) dX7_plan_230 (fun H locs hP hD hS => ?_)
                      have hP : va_P D vwCl [(m0, .inr (7, [.int (nI n), .ref g1, .ref g2, .ref g3, .int mr, .ref g4, .int (nI y), .ref g5, .int mo, .ref g6, .int ml, .ref g7, .ref g8, .ref g9, .ref g10, .ref g11, .ref g12])), (g1, .inl (cI, 9, .inl fg)), (g2, .inl (cI, 9, .inl fb)), (g3, .inl (cI, 9, .inl fp)), (g4, .inl (cZ, 20480, .inl fs)), (g12, .inl (cI, 9, .inl th)), (g8, .inl (cJ, 19683, .inr (.inl (vp_updL ub cv (((r4 * ((fp k).toInt64)) + (ub (cv + (3 ^ k)))) + (ub ((cv + (3 ^ k)) + (3 ^ k)))))))), (g9, .inl (cI, 19683, .inl (upd un cv (nI k)))), (g10, .inl (cI, 19683, .inl (upd uw (nI cv).toNatClampNeg ((fp k) + (uw (cv + (3 ^ k))))))), (g11, .inl (cI, 19683, .inl ux))] H := hP
                      have hD : va_D (aA as) [(m0, .inr (7, [.int (nI n), .ref g1, .ref g2, .ref g3, .int mr, .ref g4, .int (nI y), .ref g5, .int mo, .ref g6, .int ml, .ref g7, .ref g8, .ref g9, .ref g10, .ref g11, .ref g12])), (g1, .inl (cI, 9, .inl fg)), (g2, .inl (cI, 9, .inl fb)), (g3, .inl (cI, 9, .inl fp)), (g4, .inl (cZ, 20480, .inl fs)), (g12, .inl (cI, 9, .inl th)), (g8, .inl (cJ, 19683, .inr (.inl (vp_updL ub cv (((r4 * ((fp k).toInt64)) + (ub (cv + (3 ^ k)))) + (ub ((cv + (3 ^ k)) + (3 ^ k)))))))), (g9, .inl (cI, 19683, .inl (upd un cv (nI k)))), (g10, .inl (cI, 19683, .inl (upd uw (nI cv).toNatClampNeg ((fp k) + (uw (cv + (3 ^ k))))))), (g11, .inl (cI, 19683, .inl ux))] := hD
                      rw [nI_clamp (n := cv) (by omega)] at hP hD
                      refine lv_aload_n hx hb dX7_plan_231 rfl (lv_at hl 6 rfl) ?_
                      refine va_get (D := D) (ci := 7) (v := .ref g11) (C := RX7) (T := TX7) (N := 17) hx hb hts hiX7 hown hK hP 0 rfl rfl 15 (by decide) hf49 (fun _ h9 => h9) rfl dX7_plan_232 ?_
                      refine lv_iload_n hx hb dX7_plan_235 rfl (lv_at hl 7 rfl) ?_
                      refine lv_iload hx hb dX7_plan_236 (lv_at hl 4 rfl) ?_
                      refine va_iast hx hb hK hP hD hS 9 0 rfl rfl (i := nI cv) (vp_in_nI (by omega) (by omega)) dX7_plan_238 (fun H locs hP hD hS => ?_)
                      have hP : va_P D vwCl [(m0, .inr (7, [.int (nI n), .ref g1, .ref g2, .ref g3, .int mr, .ref g4, .int (nI y), .ref g5, .int mo, .ref g6, .int ml, .ref g7, .ref g8, .ref g9, .ref g10, .ref g11, .ref g12])), (g1, .inl (cI, 9, .inl fg)), (g2, .inl (cI, 9, .inl fb)), (g3, .inl (cI, 9, .inl fp)), (g4, .inl (cZ, 20480, .inl fs)), (g12, .inl (cI, 9, .inl th)), (g8, .inl (cJ, 19683, .inr (.inl (vp_updL ub cv (((r4 * ((fp k).toInt64)) + (ub (cv + (3 ^ k)))) + (ub ((cv + (3 ^ k)) + (3 ^ k)))))))), (g9, .inl (cI, 19683, .inl (upd un cv (nI k)))), (g10, .inl (cI, 19683, .inl (upd uw cv ((fp k) + (uw (cv + (3 ^ k))))))), (g11, .inl (cI, 19683, .inl (upd ux (nI cv).toNatClampNeg (nI k))))] H := hP
                      have hD : va_D (aA as) [(m0, .inr (7, [.int (nI n), .ref g1, .ref g2, .ref g3, .int mr, .ref g4, .int (nI y), .ref g5, .int mo, .ref g6, .int ml, .ref g7, .ref g8, .ref g9, .ref g10, .ref g11, .ref g12])), (g1, .inl (cI, 9, .inl fg)), (g2, .inl (cI, 9, .inl fb)), (g3, .inl (cI, 9, .inl fp)), (g4, .inl (cZ, 20480, .inl fs)), (g12, .inl (cI, 9, .inl th)), (g8, .inl (cJ, 19683, .inr (.inl (vp_updL ub cv (((r4 * ((fp k).toInt64)) + (ub (cv + (3 ^ k)))) + (ub ((cv + (3 ^ k)) + (3 ^ k)))))))), (g9, .inl (cI, 19683, .inl (upd un cv (nI k)))), (g10, .inl (cI, 19683, .inl (upd uw cv ((fp k) + (uw (cv + (3 ^ k))))))), (g11, .inl (cI, 19683, .inl (upd ux (nI cv).toNatClampNeg (nI k))))] := hD
                      rw [nI_clamp (n := cv) (by omega)] at hP hD
                      refine lv_iinc (v := nI (k + 1)) (lv' := [(4, .int (nI (k + 1))), (9, .int ((fp k) + (uw (cv + (3 ^ k))))), (7, .long (((r4 * ((fp k).toInt64)) + (ub (cv + (3 ^ k)))) + (ub ((cv + (3 ^ k)) + (3 ^ k))))), (6, .int (nI ((cv + (3 ^ k)) + (3 ^ k)))), (5, .int (nI (cv + (3 ^ k)))), (2, .long r4), (0, .ref m0), (1, .int (nI cv))]) hx hb dX7_plan_239 hl (k := 4) rfl (nI_1 k) (by decide) rfl (fun ls hl => ?_)
                      refine lv_goto (tgt := 47) hx hb dX7_plan_242 (by decide) ?_
                      exact ih5 (k + 1) (vp_updL ub cv (((r4 * ((fp k).toInt64)) + (ub (cv + (3 ^ k)))) + (ub ((cv + (3 ^ k)) + (3 ^ k))))) (upd un cv (nI k)) (upd uw cv ((fp k) + (uw (cv + (3 ^ k))))) (upd ux cv (nI k)) _ _ _ (by omega) (fun z hz => by have h7 := hsm z hz; exact ⟨by simp [upd, hz, h7.1], by simp [upd, hz, h7.2]⟩) (by first | exact hval.elim (fun h => Or.inl ⟨h.1, h.2.1, fun z hz => by rcases Nat.lt_or_ge z k with g | g; exact h.2.2 z g; exact (by have e9 : z = k := (by omega); subst e9; assumption)⟩) Or.inr | exact Or.inr ⟨by first | exact pv_set (by omega) (by omega) | exact (hval.resolve_left (fun h => absurd h.1 (by assumption))).1, by first | exact pv_set (by omega) (by omega) | exact (hval.resolve_left (fun h => absurd h.2.1 (by assumption))).2⟩) hP hD hS (lv_sub hl [0, 5, 6, 7] rfl)
              · skip
                refine lv_lload hx hb dX7_plan_130 (lv_at hl 0 rfl) ?_
                refine lv_aload_n hx hb dX7_plan_132 rfl (lv_at hl 5 rfl) ?_
                refine va_get (D := D) (ci := 7) (v := .ref g8) (C := RX7) (T := TX7) (N := 17) hx hb hts hiX7 hown hK hP 0 rfl rfl 12 (by decide) hf39 (fun _ h9 => h9) rfl dX7_plan_133 ?_
                refine lv_iload_n hx hb dX7_plan_136 rfl (lv_at hl 6 rfl) ?_
                refine va_lald hx hb hK hP 6 1 rfl rfl (i := nI cv) (vp_in_nI (by omega) (by omega)) dX7_plan_137 ?_
                refine cn_l (y := ub cv) (congrArg ub (nI_clamp (by omega))) ?_
                refine W.lcmp hx hb dX7_plan_138 ?_
                refine lv_if_ge (tgt := 158) hx hb dX7_plan_139 (by decide) (fun c15 => ?_) (fun c15 => ?_)
                · skip
                  refine lv_aload_n hx hb dX7_plan_158 rfl (lv_at hl 5 rfl) ?_
                  refine va_get (D := D) (ci := 7) (v := .ref g3) (C := RX7) (T := TX7) (N := 17) hx hb hts hiX7 hown hK hP 0 rfl rfl 3 (by decide) hf20 (fun _ h9 => h9) rfl dX7_plan_159 ?_
                  refine lv_iload hx hb dX7_plan_162 (lv_at hl 3 rfl) ?_
                  refine va_iald hx hb hK hP 3 0 rfl rfl (i := nI k) (vp_in_nI (by omega) (by omega)) dX7_plan_164 ?_
                  refine cn_i (y := fp k) (congrArg fp (nI_clamp (by omega))) ?_
                  refine lv_aload_n hx hb dX7_plan_165 rfl (lv_at hl 5 rfl) ?_
                  refine va_get (D := D) (ci := 7) (v := .ref g10) (C := RX7) (T := TX7) (N := 17) hx hb hts hiX7 hown hK hP 0 rfl rfl 14 (by decide) hf46 (fun _ h9 => h9) rfl dX7_plan_166 ?_
                  refine lv_iload hx hb dX7_plan_169 (lv_at hl 2 rfl) ?_
                  refine va_iald hx hb hK hP 8 0 rfl rfl (i := nI (cv + (3 ^ k))) (vp_in_nI (by omega) (by omega)) dX7_plan_171 ?_
                  refine cn_i (y := uw (cv + (3 ^ k))) (congrArg uw (nI_clamp (by omega))) ?_
                  refine lv_aload_n hx hb dX7_plan_172 rfl (lv_at hl 5 rfl) ?_
                  refine va_get (D := D) (ci := 7) (v := .ref g10) (C := RX7) (T := TX7) (N := 17) hx hb hts hiX7 hown hK hP 0 rfl rfl 14 (by decide) hf46 (fun _ h9 => h9) rfl dX7_plan_173 ?_
                  refine lv_iload hx hb dX7_plan_176 (lv_at hl 1 rfl) ?_
                  refine va_iald hx hb hK hP 8 0 rfl rfl (i := nI ((cv + (3 ^ k)) + (3 ^ k))) (vp_in_nI (by omega) (by omega)) dX7_plan_178 ?_
                  refine cn_i (y := uw ((cv + (3 ^ k)) + (3 ^ k))) (congrArg uw (nI_clamp (by omega))) ?_
                  refine lv_icmp_le (tgt := 192) hx hb dX7_plan_179 (by decide) (fun c16 => ?_) (fun c16 => ?_)
                  · skip
                    refine lv_aload_n hx hb dX7_plan_192 rfl (lv_at hl 5 rfl) ?_
                    refine va_get (D := D) (ci := 7) (v := .ref g10) (C := RX7) (T := TX7) (N := 17) hx hb hts hiX7 hown hK hP 0 rfl rfl 14 (by decide) hf46 (fun _ h9 => h9) rfl dX7_plan_193 ?_
                    refine lv_iload hx hb dX7_plan_196 (lv_at hl 1 rfl) ?_
                    refine va_iald hx hb hK hP 8 0 rfl rfl (i := nI ((cv + (3 ^ k)) + (3 ^ k))) (vp_in_nI (by omega) (by omega)) dX7_plan_198 ?_
                    refine cn_i (y := uw ((cv + (3 ^ k)) + (3 ^ k))) (congrArg uw (nI_clamp (by omega))) ?_
                    refine lv_iadd hx hb dX7_plan_199 ?_
                    refine lv_istore (lv' := [(9, .int ((fp k) + (uw ((cv + (3 ^ k)) + (3 ^ k))))), (7, .long (((r4 * ((fp k).toInt64)) + (ub (cv + (3 ^ k)))) + (ub ((cv + (3 ^ k)) + (3 ^ k))))), (6, .int (nI ((cv + (3 ^ k)) + (3 ^ k)))), (5, .int (nI (cv + (3 ^ k)))), (4, .int (nI k)), (2, .long r4), (0, .ref m0), (1, .int (nI cv))]) hx hb dX7_plan_200 hl (by decide) rfl (fun ls hl => ?_)
                    refine lv_aload_n hx hb dX7_plan_202 rfl (lv_at hl 6 rfl) ?_
                    refine va_get (D := D) (ci := 7) (v := .ref g11) (C := RX7) (T := TX7) (N := 17) hx hb hts hiX7 hown hK hP 0 rfl rfl 15 (by decide) hf49 (fun _ h9 => h9) rfl dX7_plan_203 ?_
                    refine lv_iload_n hx hb dX7_plan_206 rfl (lv_at hl 7 rfl) ?_
                    refine va_iald hx hb hK hP 9 0 rfl rfl (i := nI cv) (vp_in_nI (by omega) (by omega)) dX7_plan_207 ?_
                    refine cn_i (y := ux cv) (congrArg ux (nI_clamp (by omega))) ?_
                    refine lv_iconst (v := (-1 : Int32)) hx hb dX7_plan_208 (by decide) ?_
                    refine lv_icmp_eq (tgt := 223) hx hb dX7_plan_209 (by decide) (fun c17 => ?_) (fun c17 => ?_)
                    · skip
                      refine lv_aload_n hx hb dX7_plan_223 rfl (lv_at hl 6 rfl) ?_
                      refine va_get (D := D) (ci := 7) (v := .ref g10) (C := RX7) (T := TX7) (N := 17) hx hb hts hiX7 hown hK hP 0 rfl rfl 14 (by decide) hf46 (fun _ h9 => h9) rfl dX7_plan_224 ?_
                      refine lv_iload_n hx hb dX7_plan_227 rfl (lv_at hl 7 rfl) ?_
                      refine lv_iload hx hb dX7_plan_228 (lv_at hl 0 rfl) ?_
                      refine va_iast hx hb hK hP hD hS 8 0 rfl rfl (i := nI cv) (vp_in_nI (by omega) (by omega)) dX7_plan_230 (fun H locs hP hD hS => ?_)
                      have hP : va_P D vwCl [(m0, .inr (7, [.int (nI n), .ref g1, .ref g2, .ref g3, .int mr, .ref g4, .int (nI y), .ref g5, .int mo, .ref g6, .int ml, .ref g7, .ref g8, .ref g9, .ref g10, .ref g11, .ref g12])), (g1, .inl (cI, 9, .inl fg)), (g2, .inl (cI, 9, .inl fb)), (g3, .inl (cI, 9, .inl fp)), (g4, .inl (cZ, 20480, .inl fs)), (g12, .inl (cI, 9, .inl th)), (g8, .inl (cJ, 19683, .inr (.inl ub))), (g9, .inl (cI, 19683, .inl un)), (g10, .inl (cI, 19683, .inl (upd uw (nI cv).toNatClampNeg ((fp k) + (uw ((cv + (3 ^ k)) + (3 ^ k))))))), (g11, .inl (cI, 19683, .inl ux))] H := hP
                      have hD : va_D (aA as) [(m0, .inr (7, [.int (nI n), .ref g1, .ref g2, .ref g3, .int mr, .ref g4, .int (nI y), .ref g5, .int mo, .ref g6, .int ml, .ref g7, .ref g8, .ref g9, .ref g10, .ref g11, .ref g12])), (g1, .inl (cI, 9, .inl fg)), (g2, .inl (cI, 9, .inl fb)), (g3, .inl (cI, 9, .inl fp)), (g4, .inl (cZ, 20480, .inl fs)), (g12, .inl (cI, 9, .inl th)), (g8, .inl (cJ, 19683, .inr (.inl ub))), (g9, .inl (cI, 19683, .inl un)), (g10, .inl (cI, 19683, .inl (upd uw (nI cv).toNatClampNeg ((fp k) + (uw ((cv + (3 ^ k)) + (3 ^ k))))))), (g11, .inl (cI, 19683, .inl ux))] := hD
                      rw [nI_clamp (n := cv) (by omega)] at hP hD
                      refine lv_aload_n hx hb dX7_plan_231 rfl (lv_at hl 6 rfl) ?_
                      refine va_get (D := D) (ci := 7) (v := .ref g11) (C := RX7) (T := TX7) (N := 17) hx hb hts hiX7 hown hK hP 0 rfl rfl 15 (by decide) hf49 (fun _ h9 => h9) rfl dX7_plan_232 ?_
                      refine lv_iload_n hx hb dX7_plan_235 rfl (lv_at hl 7 rfl) ?_
                      refine lv_iload hx hb dX7_plan_236 (lv_at hl 4 rfl) ?_
                      refine va_iast hx hb hK hP hD hS 9 0 rfl rfl (i := nI cv) (vp_in_nI (by omega) (by omega)) dX7_plan_238 (fun H locs hP hD hS => ?_)
                      have hP : va_P D vwCl [(m0, .inr (7, [.int (nI n), .ref g1, .ref g2, .ref g3, .int mr, .ref g4, .int (nI y), .ref g5, .int mo, .ref g6, .int ml, .ref g7, .ref g8, .ref g9, .ref g10, .ref g11, .ref g12])), (g1, .inl (cI, 9, .inl fg)), (g2, .inl (cI, 9, .inl fb)), (g3, .inl (cI, 9, .inl fp)), (g4, .inl (cZ, 20480, .inl fs)), (g12, .inl (cI, 9, .inl th)), (g8, .inl (cJ, 19683, .inr (.inl ub))), (g9, .inl (cI, 19683, .inl un)), (g10, .inl (cI, 19683, .inl (upd uw cv ((fp k) + (uw ((cv + (3 ^ k)) + (3 ^ k))))))), (g11, .inl (cI, 19683, .inl (upd ux (nI cv).toNatClampNeg (nI k))))] H := hP
                      have hD : va_D (aA as) [(m0, .inr (7, [.int (nI n), .ref g1, .ref g2, .ref g3, .int mr, .ref g4, .int (nI y), .ref g5, .int mo, .ref g6, .int ml, .ref g7, .ref g8, .ref g9, .ref g10, .ref g11, .ref g12])), (g1, .inl (cI, 9, .inl fg)), (g2, .inl (cI, 9, .inl fb)), (g3, .inl (cI, 9, .inl fp)), (g4, .inl (cZ, 20480, .inl fs)), (g12, .inl (cI, 9, .inl th)), (g8, .inl (cJ, 19683, .inr (.inl ub))), (g9, .inl (cI, 19683, .inl un)), (g10, .inl (cI, 19683, .inl (upd uw cv ((fp k) + (uw ((cv + (3 ^ k)) + (3 ^ k))))))), (g11, .inl (cI, 19683, .inl (upd ux (nI cv).toNatClampNeg (nI k))))] := hD
                      rw [nI_clamp (n := cv) (by omega)] at hP hD
                      refine lv_iinc (v := nI (k + 1)) (lv' := [(4, .int (nI (k + 1))), (9, .int ((fp k) + (uw ((cv + (3 ^ k)) + (3 ^ k))))), (7, .long (((r4 * ((fp k).toInt64)) + (ub (cv + (3 ^ k)))) + (ub ((cv + (3 ^ k)) + (3 ^ k))))), (6, .int (nI ((cv + (3 ^ k)) + (3 ^ k)))), (5, .int (nI (cv + (3 ^ k)))), (2, .long r4), (0, .ref m0), (1, .int (nI cv))]) hx hb dX7_plan_239 hl (k := 4) rfl (nI_1 k) (by decide) rfl (fun ls hl => ?_)
                      refine lv_goto (tgt := 47) hx hb dX7_plan_242 (by decide) ?_
                      exact ih5 (k + 1) ub un (upd uw cv ((fp k) + (uw ((cv + (3 ^ k)) + (3 ^ k))))) (upd ux cv (nI k)) _ _ _ (by omega) (fun z hz => by have h7 := hsm z hz; exact ⟨by simp [upd, hz, h7.1], by simp [upd, hz, h7.2]⟩) (by first | exact hval.elim (fun h => Or.inl ⟨h.1, h.2.1, fun z hz => by rcases Nat.lt_or_ge z k with g | g; exact h.2.2 z g; exact (by have e9 : z = k := (by omega); subst e9; assumption)⟩) Or.inr | exact Or.inr ⟨by first | exact pv_set (by omega) (by omega) | exact (hval.resolve_left (fun h => absurd h.1 (by assumption))).1, by first | exact pv_set (by omega) (by omega) | exact (hval.resolve_left (fun h => absurd h.2.1 (by assumption))).2⟩) hP hD hS (lv_sub hl [0, 5, 6, 7] rfl)
                    · skip
                      refine lv_iload hx hb dX7_plan_212 (lv_at hl 0 rfl) ?_
                      refine lv_aload_n hx hb dX7_plan_214 rfl (lv_at hl 6 rfl) ?_
                      refine va_get (D := D) (ci := 7) (v := .ref g10) (C := RX7) (T := TX7) (N := 17) hx hb hts hiX7 hown hK hP 0 rfl rfl 14 (by decide) hf46 (fun _ h9 => h9) rfl dX7_plan_215 ?_
                      refine lv_iload_n hx hb dX7_plan_218 rfl (lv_at hl 7 rfl) ?_
                      refine va_iald hx hb hK hP 8 0 rfl rfl (i := nI cv) (vp_in_nI (by omega) (by omega)) dX7_plan_219 ?_
                      refine cn_i (y := uw cv) (congrArg uw (nI_clamp (by omega))) ?_
                      refine lv_icmp_ge (tgt := 239) hx hb dX7_plan_220 (by decide) (fun c18 => ?_) (fun c18 => ?_)
                      · skip
                        refine lv_iinc (v := nI (k + 1)) (lv' := [(4, .int (nI (k + 1))), (9, .int ((fp k) + (uw ((cv + (3 ^ k)) + (3 ^ k))))), (7, .long (((r4 * ((fp k).toInt64)) + (ub (cv + (3 ^ k)))) + (ub ((cv + (3 ^ k)) + (3 ^ k))))), (6, .int (nI ((cv + (3 ^ k)) + (3 ^ k)))), (5, .int (nI (cv + (3 ^ k)))), (2, .long r4), (0, .ref m0), (1, .int (nI cv))]) hx hb dX7_plan_239 hl (k := 4) rfl (nI_1 k) (by decide) rfl (fun ls hl => ?_)
                        refine lv_goto (tgt := 47) hx hb dX7_plan_242 (by decide) ?_
                        exact ih5 (k + 1) ub un uw ux _ _ _ (by omega) (fun z hz => by have h7 := hsm z hz; exact ⟨by simp [upd, hz, h7.1], by simp [upd, hz, h7.2]⟩) (by first | exact hval.elim (fun h => Or.inl ⟨h.1, h.2.1, fun z hz => by rcases Nat.lt_or_ge z k with g | g; exact h.2.2 z g; exact (by have e9 : z = k := (by omega); subst e9; assumption)⟩) Or.inr | exact Or.inr ⟨by first | exact pv_set (by omega) (by omega) | exact (hval.resolve_left (fun h => absurd h.1 (by assumption))).1, by first | exact pv_set (by omega) (by omega) | exact (hval.resolve_left (fun h => absurd h.2.1 (by assumption))).2⟩) hP hD hS (lv_sub hl [0, 5, 6, 7] rfl)
                      · skip
                        refine lv_aload_n hx hb dX7_plan_223 rfl (lv_at hl 6 rfl) ?_
                        refine va_get (D := D) (ci := 7) (v := .ref g10) (C := RX7) (T := TX7) (N := 17) hx hb hts hiX7 hown hK hP 0 rfl rfl 14 (by decide) hf46 (fun _ h9 => h9) rfl dX7_plan_224 ?_
                        refine lv_iload_n hx hb dX7_plan_227 rfl (lv_at hl 7 rfl) ?_
                        refine lv_iload hx hb dX7_plan_228 (lv_at hl 0 rfl) ?_
                        refine va_iast hx hb hK hP hD hS 8 0 rfl rfl (i := nI cv) (vp_in_nI (by omega) (by omega)) dX7_plan_230 (fun H locs hP hD hS => ?_)
                        have hP : va_P D vwCl [(m0, .inr (7, [.int (nI n), .ref g1, .ref g2, .ref g3, .int mr, .ref g4, .int (nI y), .ref g5, .int mo, .ref g6, .int ml, .ref g7, .ref g8, .ref g9, .ref g10, .ref g11, .ref g12])), (g1, .inl (cI, 9, .inl fg)), (g2, .inl (cI, 9, .inl fb)), (g3, .inl (cI, 9, .inl fp)), (g4, .inl (cZ, 20480, .inl fs)), (g12, .inl (cI, 9, .inl th)), (g8, .inl (cJ, 19683, .inr (.inl ub))), (g9, .inl (cI, 19683, .inl un)), (g10, .inl (cI, 19683, .inl (upd uw (nI cv).toNatClampNeg ((fp k) + (uw ((cv + (3 ^ k)) + (3 ^ k))))))), (g11, .inl (cI, 19683, .inl ux))] H := hP
                        have hD : va_D (aA as) [(m0, .inr (7, [.int (nI n), .ref g1, .ref g2, .ref g3, .int mr, .ref g4, .int (nI y), .ref g5, .int mo, .ref g6, .int ml, .ref g7, .ref g8, .ref g9, .ref g10, .ref g11, .ref g12])), (g1, .inl (cI, 9, .inl fg)), (g2, .inl (cI, 9, .inl fb)), (g3, .inl (cI, 9, .inl fp)), (g4, .inl (cZ, 20480, .inl fs)), (g12, .inl (cI, 9, .inl th)), (g8, .inl (cJ, 19683, .inr (.inl ub))), (g9, .inl (cI, 19683, .inl un)), (g10, .inl (cI, 19683, .inl (upd uw (nI cv).toNatClampNeg ((fp k) + (uw ((cv + (3 ^ k)) + (3 ^ k))))))), (g11, .inl (cI, 19683, .inl ux))] := hD
                        rw [nI_clamp (n := cv) (by omega)] at hP hD
                        refine lv_aload_n hx hb dX7_plan_231 rfl (lv_at hl 6 rfl) ?_
                        refine va_get (D := D) (ci := 7) (v := .ref g11) (C := RX7) (T := TX7) (N := 17) hx hb hts hiX7 hown hK hP 0 rfl rfl 15 (by decide) hf49 (fun _ h9 => h9) rfl dX7_plan_232 ?_
                        refine lv_iload_n hx hb dX7_plan_235 rfl (lv_at hl 7 rfl) ?_
                        refine lv_iload hx hb dX7_plan_236 (lv_at hl 4 rfl) ?_
                        refine va_iast hx hb hK hP hD hS 9 0 rfl rfl (i := nI cv) (vp_in_nI (by omega) (by omega)) dX7_plan_238 (fun H locs hP hD hS => ?_)
                        have hP : va_P D vwCl [(m0, .inr (7, [.int (nI n), .ref g1, .ref g2, .ref g3, .int mr, .ref g4, .int (nI y), .ref g5, .int mo, .ref g6, .int ml, .ref g7, .ref g8, .ref g9, .ref g10, .ref g11, .ref g12])), (g1, .inl (cI, 9, .inl fg)), (g2, .inl (cI, 9, .inl fb)), (g3, .inl (cI, 9, .inl fp)), (g4, .inl (cZ, 20480, .inl fs)), (g12, .inl (cI, 9, .inl th)), (g8, .inl (cJ, 19683, .inr (.inl ub))), (g9, .inl (cI, 19683, .inl un)), (g10, .inl (cI, 19683, .inl (upd uw cv ((fp k) + (uw ((cv + (3 ^ k)) + (3 ^ k))))))), (g11, .inl (cI, 19683, .inl (upd ux (nI cv).toNatClampNeg (nI k))))] H := hP
                        have hD : va_D (aA as) [(m0, .inr (7, [.int (nI n), .ref g1, .ref g2, .ref g3, .int mr, .ref g4, .int (nI y), .ref g5, .int mo, .ref g6, .int ml, .ref g7, .ref g8, .ref g9, .ref g10, .ref g11, .ref g12])), (g1, .inl (cI, 9, .inl fg)), (g2, .inl (cI, 9, .inl fb)), (g3, .inl (cI, 9, .inl fp)), (g4, .inl (cZ, 20480, .inl fs)), (g12, .inl (cI, 9, .inl th)), (g8, .inl (cJ, 19683, .inr (.inl ub))), (g9, .inl (cI, 19683, .inl un)), (g10, .inl (cI, 19683, .inl (upd uw cv ((fp k) + (uw ((cv + (3 ^ k)) + (3 ^ k))))))), (g11, .inl (cI, 19683, .inl (upd ux (nI cv).toNatClampNeg (nI k))))] := hD
                        rw [nI_clamp (n := cv) (by omega)] at hP hD
                        refine lv_iinc (v := nI (k + 1)) (lv' := [(4, .int (nI (k + 1))), (9, .int ((fp k) + (uw ((cv + (3 ^ k)) + (3 ^ k))))), (7, .long (((r4 * ((fp k).toInt64)) + (ub (cv + (3 ^ k)))) + (ub ((cv + (3 ^ k)) + (3 ^ k))))), (6, .int (nI ((cv + (3 ^ k)) + (3 ^ k)))), (5, .int (nI (cv + (3 ^ k)))), (2, .long r4), (0, .ref m0), (1, .int (nI cv))]) hx hb dX7_plan_239 hl (k := 4) rfl (nI_1 k) (by decide) rfl (fun ls hl => ?_)
                        refine lv_goto (tgt := 47) hx hb dX7_plan_242 (by decide) ?_
                        exact ih5 (k + 1) ub un (upd uw cv ((fp k) + (uw ((cv + (3 ^ k)) + (3 ^ k))))) (upd ux cv (nI k)) _ _ _ (by omega) (fun z hz => by have h7 := hsm z hz; exact ⟨by simp [upd, hz, h7.1], by simp [upd, hz, h7.2]⟩) (by first | exact hval.elim (fun h => Or.inl ⟨h.1, h.2.1, fun z hz => by rcases Nat.lt_or_ge z k with g | g; exact h.2.2 z g; exact (by have e9 : z = k := (by omega); subst e9; assumption)⟩) Or.inr | exact Or.inr ⟨by first | exact pv_set (by omega) (by omega) | exact (hval.resolve_left (fun h => absurd h.1 (by assumption))).1, by first | exact pv_set (by omega) (by omega) | exact (hval.resolve_left (fun h => absurd h.2.1 (by assumption))).2⟩) hP hD hS (lv_sub hl [0, 5, 6, 7] rfl)
                  · skip
                    refine lv_aload_n hx hb dX7_plan_182 rfl (lv_at hl 5 rfl) ?_
                    refine va_get (D := D) (ci := 7) (v := .ref g10) (C := RX7) (T := TX7) (N := 17) hx hb hts hiX7 hown hK hP 0 rfl rfl 14 (by decide) hf46 (fun _ h9 => h9) rfl dX7_plan_183 ?_
                    refine lv_iload hx hb dX7_plan_186 (lv_at hl 2 rfl) ?_
                    refine va_iald hx hb hK hP 8 0 rfl rfl (i := nI (cv + (3 ^ k))) (vp_in_nI (by omega) (by omega)) dX7_plan_188 ?_
                    refine cn_i (y := uw (cv + (3 ^ k))) (congrArg uw (nI_clamp (by omega))) ?_
                    refine lv_goto (tgt := 199) hx hb dX7_plan_189 (by decide) ?_
                    refine lv_iadd hx hb dX7_plan_199 ?_
                    refine lv_istore (lv' := [(9, .int ((fp k) + (uw (cv + (3 ^ k))))), (7, .long (((r4 * ((fp k).toInt64)) + (ub (cv + (3 ^ k)))) + (ub ((cv + (3 ^ k)) + (3 ^ k))))), (6, .int (nI ((cv + (3 ^ k)) + (3 ^ k)))), (5, .int (nI (cv + (3 ^ k)))), (4, .int (nI k)), (2, .long r4), (0, .ref m0), (1, .int (nI cv))]) hx hb dX7_plan_200 hl (by decide) rfl (fun ls hl => ?_)
                    refine lv_aload_n hx hb dX7_plan_202 rfl (lv_at hl 6 rfl) ?_
                    refine va_get (D := D) (ci := 7) (v := .ref g11) (C := RX7) (T := TX7) (N := 17) hx hb hts hiX7 hown hK hP 0 rfl rfl 15 (by decide) hf49 (fun _ h9 => h9) rfl dX7_plan_203 ?_
                    refine lv_iload_n hx hb dX7_plan_206 rfl (lv_at hl 7 rfl) ?_
                    refine va_iald hx hb hK hP 9 0 rfl rfl (i := nI cv) (vp_in_nI (by omega) (by omega)) dX7_plan_207 ?_
                    refine cn_i (y := ux cv) (congrArg ux (nI_clamp (by omega))) ?_
                    refine lv_iconst (v := (-1 : Int32)) hx hb dX7_plan_208 (by decide) ?_
                    refine lv_icmp_eq (tgt := 223) hx hb dX7_plan_209 (by decide) (fun c19 => ?_) (fun c19 => ?_)
                    · skip
                      refine lv_aload_n hx hb dX7_plan_223 rfl (lv_at hl 6 rfl) ?_
                      refine va_get (D := D) (ci := 7) (v := .ref g10) (C := RX7) (T := TX7) (N := 17) hx hb hts hiX7 hown hK hP 0 rfl rfl 14 (by decide) hf46 (fun _ h9 => h9) rfl dX7_plan_224 ?_
                      refine lv_iload_n hx hb dX7_plan_227 rfl (lv_at hl 7 rfl) ?_
                      refine lv_iload hx hb dX7_plan_228 (lv_at hl 0 rfl) ?_
                      refine va_iast hx hb hK hP hD hS 8 0 rfl rfl (i := nI cv) (vp_in_nI (by omega) (by omega)) dX7_plan_230 (fun H locs hP hD hS => ?_)
                      have hP : va_P D vwCl [(m0, .inr (7, [.int (nI n), .ref g1, .ref g2, .ref g3, .int mr, .ref g4, .int (nI y), .ref g5, .int mo, .ref g6, .int ml, .ref g7, .ref g8, .ref g9, .ref g10, .ref g11, .ref g12])), (g1, .inl (cI, 9, .inl fg)), (g2, .inl (cI, 9, .inl fb)), (g3, .inl (cI, 9, .inl fp)), (g4, .inl (cZ, 20480, .inl fs)), (g12, .inl (cI, 9, .inl th)), (g8, .inl (cJ, 19683, .inr (.inl ub))), (g9, .inl (cI, 19683, .inl un)), (g10, .inl (cI, 19683, .inl (upd uw (nI cv).toNatClampNeg ((fp k) + (uw (cv + (3 ^ k))))))), (g11, .inl (cI, 19683, .inl ux))] H := hP
                      have hD : va_D (aA as) [(m0, .inr (7, [.int (nI n), .ref g1, .ref g2, .ref g3, .int mr, .ref g4, .int (nI y), .ref g5, .int mo, .ref g6, .int ml, .ref g7, .ref g8, .ref g9, .ref g10, .ref g11, .ref g12])), (g1, .inl (cI, 9, .inl fg)), (g2, .inl (cI, 9, .inl fb)), (g3, .inl (cI, 9, .inl fp)), (g4, .inl (cZ, 20480, .inl fs)), (g12, .inl (cI, 9, .inl th)), (g8, .inl (cJ, 19683, .inr (.inl ub))), (g9, .inl (cI, 19683, .inl un)), (g10, .inl (cI, 19683, .inl (upd uw (nI cv).toNatClampNeg ((fp k) + (uw (cv + (3 ^ k))))))), (g11, .inl (cI, 19683, .inl ux))] := hD
                      rw [nI_clamp (n := cv) (by omega)] at hP hD
                      refine lv_aload_n hx hb dX7_plan_231 rfl (lv_at hl 6 rfl) ?_
                      refine va_get (D := D) (ci := 7) (v := .ref g11) (C := RX7) (T := TX7) (N := 17) hx hb hts hiX7 hown hK hP 0 rfl rfl 15 (by decide) hf49 (fun _ h9 => h9) rfl dX7_plan_232 ?_
                      refine lv_iload_n hx hb dX7_plan_235 rfl (lv_at hl 7 rfl) ?_
                      refine lv_iload hx hb dX7_plan_236 (lv_at hl 4 rfl) ?_
                      refine va_iast hx hb hK hP hD hS 9 0 rfl rfl (i := nI cv) (vp_in_nI (by omega) (by omega)) dX7_plan_238 (fun H locs hP hD hS => ?_)
                      have hP : va_P D vwCl [(m0, .inr (7, [.int (nI n), .ref g1, .ref g2, .ref g3, .int mr, .ref g4, .int (nI y), .ref g5, .int mo, .ref g6, .int ml, .ref g7, .ref g8, .ref g9, .ref g10, .ref g11, .ref g12])), (g1, .inl (cI, 9, .inl fg)), (g2, .inl (cI, 9, .inl fb)), (g3, .inl (cI, 9, .inl fp)), (g4, .inl (cZ, 20480, .inl fs)), (g12, .inl (cI, 9, .inl th)), (g8, .inl (cJ, 19683, .inr (.inl ub))), (g9, .inl (cI, 19683, .inl un)), (g10, .inl (cI, 19683, .inl (upd uw cv ((fp k) + (uw (cv + (3 ^ k))))))), (g11, .inl (cI, 19683, .inl (upd ux (nI cv).toNatClampNeg (nI k))))] H := hP
                      have hD : va_D (aA as) [(m0, .inr (7, [.int (nI n), .ref g1, .ref g2, .ref g3, .int mr, .ref g4, .int (nI y), .ref g5, .int mo, .ref g6, .int ml, .ref g7, .ref g8, .ref g9, .ref g10, .ref g11, .ref g12])), (g1, .inl (cI, 9, .inl fg)), (g2, .inl (cI, 9, .inl fb)), (g3, .inl (cI, 9, .inl fp)), (g4, .inl (cZ, 20480, .inl fs)), (g12, .inl (cI, 9, .inl th)), (g8, .inl (cJ, 19683, .inr (.inl ub))), (g9, .inl (cI, 19683, .inl un)), (g10, .inl (cI, 19683, .inl (upd uw cv ((fp k) + (uw (cv + (3 ^ k))))))), (g11, .inl (cI, 19683, .inl (upd ux (nI cv).toNatClampNeg (nI k))))] := hD
                      rw [nI_clamp (n := cv) (by omega)] at hP hD
                      refine lv_iinc (v := nI (k + 1)) (lv' := [(4, .int (nI (k + 1))), (9, .int ((fp k) + (uw (cv + (3 ^ k))))), (7, .long (((r4 * ((fp k).toInt64)) + (ub (cv + (3 ^ k)))) + (ub ((cv + (3 ^ k)) + (3 ^ k))))), (6, .int (nI ((cv + (3 ^ k)) + (3 ^ k)))), (5, .int (nI (cv + (3 ^ k)))), (2, .long r4), (0, .ref m0), (1, .int (nI cv))]) hx hb dX7_plan_239 hl (k := 4) rfl (nI_1 k) (by decide) rfl (fun ls hl => ?_)
                      refine lv_goto (tgt := 47) hx hb dX7_plan_242 (by decide) ?_
                      exact ih5 (k + 1) ub un (upd uw cv ((fp k) + (uw (cv + (3 ^ k))))) (upd ux cv (nI k)) _ _ _ (by omega) (fun z hz => by have h7 := hsm z hz; exact ⟨by simp [upd, hz, h7.1], by simp [upd, hz, h7.2]⟩) (by first | exact hval.elim (fun h => Or.inl ⟨h.1, h.2.1, fun z hz => by rcases Nat.lt_or_ge z k with g | g; exact h.2.2 z g; exact (by have e9 : z = k := (by omega); subst e9; assumption)⟩) Or.inr | exact Or.inr ⟨by first | exact pv_set (by omega) (by omega) | exact (hval.resolve_left (fun h => absurd h.1 (by assumption))).1, by first | exact pv_set (by omega) (by omega) | exact (hval.resolve_left (fun h => absurd h.2.1 (by assumption))).2⟩) hP hD hS (lv_sub hl [0, 5, 6, 7] rfl)
                    · skip
                      refine lv_iload hx hb dX7_plan_212 (lv_at hl 0 rfl) ?_
                      refine lv_aload_n hx hb dX7_plan_214 rfl (lv_at hl 6 rfl) ?_
                      refine va_get (D := D) (ci := 7) (v := .ref g10) (C := RX7) (T := TX7) (N := 17) hx hb hts hiX7 hown hK hP 0 rfl rfl 14 (by decide) hf46 (fun _ h9 => h9) rfl dX7_plan_215 ?_
                      refine lv_iload_n hx hb dX7_plan_218 rfl (lv_at hl 7 rfl) ?_
                      refine va_iald hx hb hK hP 8 0 rfl rfl (i := nI cv) (vp_in_nI (by omega) (by omega)) dX7_plan_219 ?_
                      refine cn_i (y := uw cv) (congrArg uw (nI_clamp (by omega))) ?_
                      refine lv_icmp_ge (tgt := 239) hx hb dX7_plan_220 (by decide) (fun c20 => ?_) (fun c20 => ?_)
                      · skip
                        refine lv_iinc (v := nI (k + 1)) (lv' := [(4, .int (nI (k + 1))), (9, .int ((fp k) + (uw (cv + (3 ^ k))))), (7, .long (((r4 * ((fp k).toInt64)) + (ub (cv + (3 ^ k)))) + (ub ((cv + (3 ^ k)) + (3 ^ k))))), (6, .int (nI ((cv + (3 ^ k)) + (3 ^ k)))), (5, .int (nI (cv + (3 ^ k)))), (2, .long r4), (0, .ref m0), (1, .int (nI cv))]) hx hb dX7_plan_239 hl (k := 4) rfl (nI_1 k) (by decide) rfl (fun ls hl => ?_)
                        refine lv_goto (tgt := 47) hx hb dX7_plan_242 (by decide) ?_
                        exact ih5 (k + 1) ub un uw ux _ _ _ (by omega) (fun z hz => by have h7 := hsm z hz; exact ⟨by simp [upd, hz, h7.1], by simp [upd, hz, h7.2]⟩) (by first | exact hval.elim (fun h => Or.inl ⟨h.1, h.2.1, fun z hz => by rcases Nat.lt_or_ge z k with g | g; exact h.2.2 z g; exact (by have e9 : z = k := (by omega); subst e9; assumption)⟩) Or.inr | exact Or.inr ⟨by first | exact pv_set (by omega) (by omega) | exact (hval.resolve_left (fun h => absurd h.1 (by assumption))).1, by first | exact pv_set (by omega) (by omega) | exact (hval.resolve_left (fun h => absurd h.2.1 (by assumption))).2⟩) hP hD hS (lv_sub hl [0, 5, 6, 7] rfl)
                      · skip
                        refine lv_aload_n hx hb dX7_plan_223 rfl (lv_at hl 6 rfl) ?_
                        refine va_get (D := D) (ci := 7) (v := .ref g10) (C := RX7) (T := TX7) (N := 17) hx hb hts hiX7 hown hK hP 0 rfl rfl 14 (by decide) hf46 (fun _ h9 => h9) rfl dX7_plan_224 ?_
                        refine lv_iload_n hx hb dX7_plan_227 rfl (lv_at hl 7 rfl) ?_
                        refine lv_iload hx hb dX7_plan_228 (lv_at hl 0 rfl) ?_
                        refine va_iast hx hb hK hP hD hS 8 0 rfl rfl (i := nI cv) (vp_in_nI (by omega) (by omega)) dX7_plan_230 (fun H locs hP hD hS => ?_)
                        have hP : va_P D vwCl [(m0, .inr (7, [.int (nI n), .ref g1, .ref g2, .ref g3, .int mr, .ref g4, .int (nI y), .ref g5, .int mo, .ref g6, .int ml, .ref g7, .ref g8, .ref g9, .ref g10, .ref g11, .ref g12])), (g1, .inl (cI, 9, .inl fg)), (g2, .inl (cI, 9, .inl fb)), (g3, .inl (cI, 9, .inl fp)), (g4, .inl (cZ, 20480, .inl fs)), (g12, .inl (cI, 9, .inl th)), (g8, .inl (cJ, 19683, .inr (.inl ub))), (g9, .inl (cI, 19683, .inl un)), (g10, .inl (cI, 19683, .inl (upd uw (nI cv).toNatClampNeg ((fp k) + (uw (cv + (3 ^ k))))))), (g11, .inl (cI, 19683, .inl ux))] H := hP
                        have hD : va_D (aA as) [(m0, .inr (7, [.int (nI n), .ref g1, .ref g2, .ref g3, .int mr, .ref g4, .int (nI y), .ref g5, .int mo, .ref g6, .int ml, .ref g7, .ref g8, .ref g9, .ref g10, .ref g11, .ref g12])), (g1, .inl (cI, 9, .inl fg)), (g2, .inl (cI, 9, .inl fb)), (g3, .inl (cI, 9, .inl fp)), (g4, .inl (cZ, 20480, .inl fs)), (g12, .inl (cI, 9, .inl th)), (g8, .inl (cJ, 19683, .inr (.inl ub))), (g9, .inl (cI, 19683, .inl un)), (g10, .inl (cI, 19683, .inl (upd uw (nI cv).toNatClampNeg ((fp k) + (uw (cv + (3 ^ k))))))), (g11, .inl (cI, 19683, .inl ux))] := hD
                        rw [nI_clamp (n := cv) (by omega)] at hP hD
                        refine lv_aload_n hx hb dX7_plan_231 rfl (lv_at hl 6 rfl) ?_
                        refine va_get (D := D) (ci := 7) (v := .ref g11) (C := RX7) (T := TX7) (N := 17) hx hb hts hiX7 hown hK hP 0 rfl rfl 15 (by decide) hf49 (fun _ h9 => h9) rfl dX7_plan_232 ?_
                        refine lv_iload_n hx hb dX7_plan_235 rfl (lv_at hl 7 rfl) ?_
                        refine lv_iload hx hb dX7_plan_236 (lv_at hl 4 rfl) ?_
                        refine va_iast hx hb hK hP hD hS 9 0 rfl rfl (i := nI cv) (vp_in_nI (by omega) (by omega)) dX7_plan_238 (fun H locs hP hD hS => ?_)
                        have hP : va_P D vwCl [(m0, .inr (7, [.int (nI n), .ref g1, .ref g2, .ref g3, .int mr, .ref g4, .int (nI y), .ref g5, .int mo, .ref g6, .int ml, .ref g7, .ref g8, .ref g9, .ref g10, .ref g11, .ref g12])), (g1, .inl (cI, 9, .inl fg)), (g2, .inl (cI, 9, .inl fb)), (g3, .inl (cI, 9, .inl fp)), (g4, .inl (cZ, 20480, .inl fs)), (g12, .inl (cI, 9, .inl th)), (g8, .inl (cJ, 19683, .inr (.inl ub))), (g9, .inl (cI, 19683, .inl un)), (g10, .inl (cI, 19683, .inl (upd uw cv ((fp k) + (uw (cv + (3 ^ k))))))), (g11, .inl (cI, 19683, .inl (upd ux (nI cv).toNatClampNeg (nI k))))] H := hP
                        have hD : va_D (aA as) [(m0, .inr (7, [.int (nI n), .ref g1, .ref g2, .ref g3, .int mr, .ref g4, .int (nI y), .ref g5, .int mo, .ref g6, .int ml, .ref g7, .ref g8, .ref g9, .ref g10, .ref g11, .ref g12])), (g1, .inl (cI, 9, .inl fg)), (g2, .inl (cI, 9, .inl fb)), (g3, .inl (cI, 9, .inl fp)), (g4, .inl (cZ, 20480, .inl fs)), (g12, .inl (cI, 9, .inl th)), (g8, .inl (cJ, 19683, .inr (.inl ub))), (g9, .inl (cI, 19683, .inl un)), (g10, .inl (cI, 19683, .inl (upd uw cv ((fp k) + (uw (cv + (3 ^ k))))))), (g11, .inl (cI, 19683, .inl (upd ux (nI cv).toNatClampNeg (nI k))))] := hD
                        rw [nI_clamp (n := cv) (by omega)] at hP hD
                        refine lv_iinc (v := nI (k + 1)) (lv' := [(4, .int (nI (k + 1))), (9, .int ((fp k) + (uw (cv + (3 ^ k))))), (7, .long (((r4 * ((fp k).toInt64)) + (ub (cv + (3 ^ k)))) + (ub ((cv + (3 ^ k)) + (3 ^ k))))), (6, .int (nI ((cv + (3 ^ k)) + (3 ^ k)))), (5, .int (nI (cv + (3 ^ k)))), (2, .long r4), (0, .ref m0), (1, .int (nI cv))]) hx hb dX7_plan_239 hl (k := 4) rfl (nI_1 k) (by decide) rfl (fun ls hl => ?_)
                        refine lv_goto (tgt := 47) hx hb dX7_plan_242 (by decide) ?_
                        exact ih5 (k + 1) ub un (upd uw cv ((fp k) + (uw (cv + (3 ^ k))))) (upd ux cv (nI k)) _ _ _ (by omega) (fun z hz => by have h7 := hsm z hz; exact ⟨by simp [upd, hz, h7.1], by simp [upd, hz, h7.2]⟩) (by first | exact hval.elim (fun h => Or.inl ⟨h.1, h.2.1, fun z hz => by rcases Nat.lt_or_ge z k with g | g; exact h.2.2 z g; exact (by have e9 : z = k := (by omega); subst e9; assumption)⟩) Or.inr | exact Or.inr ⟨by first | exact pv_set (by omega) (by omega) | exact (hval.resolve_left (fun h => absurd h.1 (by assumption))).1, by first | exact pv_set (by omega) (by omega) | exact (hval.resolve_left (fun h => absurd h.2.1 (by assumption))).2⟩) hP hD hS (lv_sub hl [0, 5, 6, 7] rfl)
                · skip
                  refine lv_aload_n hx hb dX7_plan_142 rfl (lv_at hl 5 rfl) ?_
                  refine va_get (D := D) (ci := 7) (v := .ref g8) (C := RX7) (T := TX7) (N := 17) hx hb hts hiX7 hown hK hP 0 rfl rfl 12 (by decide) hf39 (fun _ h9 => h9) rfl dX7_plan_143 ?_
                  refine lv_iload_n hx hb dX7_plan_146 rfl (lv_at hl 6 rfl) ?_
                  refine lv_lload hx hb dX7_plan_147 (lv_at hl 0 rfl) ?_
                  refine va_last hx hb hK hP hD hS 6 1 rfl rfl (i := nI cv) (vp_in_nI (by omega) (by omega)) dX7_plan_149 (fun H locs hP hD hS => ?_)
                  have hP : va_P D vwCl [(m0, .inr (7, [.int (nI n), .ref g1, .ref g2, .ref g3, .int mr, .ref g4, .int (nI y), .ref g5, .int mo, .ref g6, .int ml, .ref g7, .ref g8, .ref g9, .ref g10, .ref g11, .ref g12])), (g1, .inl (cI, 9, .inl fg)), (g2, .inl (cI, 9, .inl fb)), (g3, .inl (cI, 9, .inl fp)), (g4, .inl (cZ, 20480, .inl fs)), (g12, .inl (cI, 9, .inl th)), (g8, .inl (cJ, 19683, .inr (.inl (vp_updL ub (nI cv).toNatClampNeg (((r4 * ((fp k).toInt64)) + (ub (cv + (3 ^ k)))) + (ub ((cv + (3 ^ k)) + (3 ^ k)))))))), (g9, .inl (cI, 19683, .inl un)), (g10, .inl (cI, 19683, .inl uw)), (g11, .inl (cI, 19683, .inl ux))] H := hP
                  have hD : va_D (aA as) [(m0, .inr (7, [.int (nI n), .ref g1, .ref g2, .ref g3, .int mr, .ref g4, .int (nI y), .ref g5, .int mo, .ref g6, .int ml, .ref g7, .ref g8, .ref g9, .ref g10, .ref g11, .ref g12])), (g1, .inl (cI, 9, .inl fg)), (g2, .inl (cI, 9, .inl fb)), (g3, .inl (cI, 9, .inl fp)), (g4, .inl (cZ, 20480, .inl fs)), (g12, .inl (cI, 9, .inl th)), (g8, .inl (cJ, 19683, .inr (.inl (vp_updL ub (nI cv).toNatClampNeg (((r4 * ((fp k).toInt64)) + (ub (cv + (3 ^ k)))) + (ub ((cv + (3 ^ k)) + (3 ^ k)))))))), (g9, .inl (cI, 19683, .inl un)), (g10, .inl (cI, 19683, .inl uw)), (g11, .inl (cI, 19683, .inl ux))] := hD
                  rw [nI_clamp (n := cv) (by omega)] at hP hD
                  refine lv_aload_n hx hb dX7_plan_150 rfl (lv_at hl 5 rfl) ?_
                  refine va_get (D := D) (ci := 7) (v := .ref g9) (C := RX7) (T := TX7) (N := 17) hx hb hts hiX7 hown hK hP 0 rfl rfl 13 (by decide) hf43 (fun _ h9 => h9) rfl dX7_plan_151 ?_
                  refine lv_iload_n hx hb dX7_plan_154 rfl (lv_at hl 6 rfl) ?_
                  refine lv_iload hx hb dX7_plan_155 (lv_at hl 3 rfl) ?_
                  refine va_iast hx hb hK hP hD hS 7 0 rfl rfl (i := nI cv) (vp_in_nI (by omega) (by omega)) dX7_plan_157 (fun H locs hP hD hS => ?_)
                  have hP : va_P D vwCl [(m0, .inr (7, [.int (nI n), .ref g1, .ref g2, .ref g3, .int mr, .ref g4, .int (nI y), .ref g5, .int mo, .ref g6, .int ml, .ref g7, .ref g8, .ref g9, .ref g10, .ref g11, .ref g12])), (g1, .inl (cI, 9, .inl fg)), (g2, .inl (cI, 9, .inl fb)), (g3, .inl (cI, 9, .inl fp)), (g4, .inl (cZ, 20480, .inl fs)), (g12, .inl (cI, 9, .inl th)), (g8, .inl (cJ, 19683, .inr (.inl (vp_updL ub cv (((r4 * ((fp k).toInt64)) + (ub (cv + (3 ^ k)))) + (ub ((cv + (3 ^ k)) + (3 ^ k)))))))), (g9, .inl (cI, 19683, .inl (upd un (nI cv).toNatClampNeg (nI k)))), (g10, .inl (cI, 19683, .inl uw)), (g11, .inl (cI, 19683, .inl ux))] H := hP
                  have hD : va_D (aA as) [(m0, .inr (7, [.int (nI n), .ref g1, .ref g2, .ref g3, .int mr, .ref g4, .int (nI y), .ref g5, .int mo, .ref g6, .int ml, .ref g7, .ref g8, .ref g9, .ref g10, .ref g11, .ref g12])), (g1, .inl (cI, 9, .inl fg)), (g2, .inl (cI, 9, .inl fb)), (g3, .inl (cI, 9, .inl fp)), (g4, .inl (cZ, 20480, .inl fs)), (g12, .inl (cI, 9, .inl th)), (g8, .inl (cJ, 19683, .inr (.inl (vp_updL ub cv (((r4 * ((fp k).toInt64)) + (ub (cv + (3 ^ k)))) + (ub ((cv + (3 ^ k)) + (3 ^ k)))))))), (g9, .inl (cI, 19683, .inl (upd un (nI cv).toNatClampNeg (nI k)))), (g10, .inl (cI, 19683, .inl uw)), (g11, .inl (cI, 19683, .inl ux))] := hD
                  rw [nI_clamp (n := cv) (by omega)] at hP hD
                  refine lv_aload_n hx hb dX7_plan_158 rfl (lv_at hl 5 rfl) ?_
                  refine va_get (D := D) (ci := 7) (v := .ref g3) (C := RX7) (T := TX7) (N := 17) hx hb hts hiX7 hown hK hP 0 rfl rfl 3 (by decide) hf20 (fun _ h9 => h9) rfl dX7_plan_159 ?_
                  refine lv_iload hx hb dX7_plan_162 (lv_at hl 3 rfl) ?_
                  refine va_iald hx hb hK hP 3 0 rfl rfl (i := nI k) (vp_in_nI (by omega) (by omega)) dX7_plan_164 ?_
                  refine cn_i (y := fp k) (congrArg fp (nI_clamp (by omega))) ?_
                  refine lv_aload_n hx hb dX7_plan_165 rfl (lv_at hl 5 rfl) ?_
                  refine va_get (D := D) (ci := 7) (v := .ref g10) (C := RX7) (T := TX7) (N := 17) hx hb hts hiX7 hown hK hP 0 rfl rfl 14 (by decide) hf46 (fun _ h9 => h9) rfl dX7_plan_166 ?_
                  refine lv_iload hx hb dX7_plan_169 (lv_at hl 2 rfl) ?_
                  refine va_iald hx hb hK hP 8 0 rfl rfl (i := nI (cv + (3 ^ k))) (vp_in_nI (by omega) (by omega)) dX7_plan_171 ?_
                  refine cn_i (y := uw (cv + (3 ^ k))) (congrArg uw (nI_clamp (by omega))) ?_
                  refine lv_aload_n hx hb dX7_plan_172 rfl (lv_at hl 5 rfl) ?_
                  refine va_get (D := D) (ci := 7) (v := .ref g10) (C := RX7) (T := TX7) (N := 17) hx hb hts hiX7 hown hK hP 0 rfl rfl 14 (by decide) hf46 (fun _ h9 => h9) rfl dX7_plan_173 ?_
                  refine lv_iload hx hb dX7_plan_176 (lv_at hl 1 rfl) ?_
                  refine va_iald hx hb hK hP 8 0 rfl rfl (i := nI ((cv + (3 ^ k)) + (3 ^ k))) (vp_in_nI (by omega) (by omega)) dX7_plan_178 ?_
                  refine cn_i (y := uw ((cv + (3 ^ k)) + (3 ^ k))) (congrArg uw (nI_clamp (by omega))) ?_
                  refine lv_icmp_le (tgt := 192) hx hb dX7_plan_179 (by decide) (fun c21 => ?_) (fun c21 => ?_)
                  · skip
                    refine lv_aload_n hx hb dX7_plan_192 rfl (lv_at hl 5 rfl) ?_
                    refine va_get (D := D) (ci := 7) (v := .ref g10) (C := RX7) (T := TX7) (N := 17) hx hb hts hiX7 hown hK hP 0 rfl rfl 14 (by decide) hf46 (fun _ h9 => h9) rfl dX7_plan_193 ?_
                    refine lv_iload hx hb dX7_plan_196 (lv_at hl 1 rfl) ?_
                    refine va_iald hx hb hK hP 8 0 rfl rfl (i := nI ((cv + (3 ^ k)) + (3 ^ k))) (vp_in_nI (by omega) (by omega)) dX7_plan_198 ?_
                    refine cn_i (y := uw ((cv + (3 ^ k)) + (3 ^ k))) (congrArg uw (nI_clamp (by omega))) ?_
                    refine lv_iadd hx hb dX7_plan_199 ?_
                    refine lv_istore (lv' := [(9, .int ((fp k) + (uw ((cv + (3 ^ k)) + (3 ^ k))))), (7, .long (((r4 * ((fp k).toInt64)) + (ub (cv + (3 ^ k)))) + (ub ((cv + (3 ^ k)) + (3 ^ k))))), (6, .int (nI ((cv + (3 ^ k)) + (3 ^ k)))), (5, .int (nI (cv + (3 ^ k)))), (4, .int (nI k)), (2, .long r4), (0, .ref m0), (1, .int (nI cv))]) hx hb dX7_plan_200 hl (by decide) rfl (fun ls hl => ?_)
                    refine lv_aload_n hx hb dX7_plan_202 rfl (lv_at hl 6 rfl) ?_
                    refine va_get (D := D) (ci := 7) (v := .ref g11) (C := RX7) (T := TX7) (N := 17) hx hb hts hiX7 hown hK hP 0 rfl rfl 15 (by decide) hf49 (fun _ h9 => h9) rfl dX7_plan_203 ?_
                    refine lv_iload_n hx hb dX7_plan_206 rfl (lv_at hl 7 rfl) ?_
                    refine va_iald hx hb hK hP 9 0 rfl rfl (i := nI cv) (vp_in_nI (by omega) (by omega)) dX7_plan_207 ?_
                    refine cn_i (y := ux cv) (congrArg ux (nI_clamp (by omega))) ?_
                    refine lv_iconst (v := (-1 : Int32)) hx hb dX7_plan_208 (by decide) ?_
                    refine lv_icmp_eq (tgt := 223) hx hb dX7_plan_209 (by decide) (fun c22 => ?_) (fun c22 => ?_)
                    · skip
                      refine lv_aload_n hx hb dX7_plan_223 rfl (lv_at hl 6 rfl) ?_
                      refine va_get (D := D) (ci := 7) (v := .ref g10) (C := RX7) (T := TX7) (N := 17) hx hb hts hiX7 hown hK hP 0 rfl rfl 14 (by decide) hf46 (fun _ h9 => h9) rfl dX7_plan_224 ?_
                      refine lv_iload_n hx hb dX7_plan_227 rfl (lv_at hl 7 rfl) ?_
                      refine lv_iload hx hb dX7_plan_228 (lv_at hl 0 rfl) ?_
                      refine va_iast hx hb hK hP hD hS 8 0 rfl rfl (i := nI cv) (vp_in_nI (by omega) (by omega)) dX7_plan_230 (fun H locs hP hD hS => ?_)
                      have hP : va_P D vwCl [(m0, .inr (7, [.int (nI n), .ref g1, .ref g2, .ref g3, .int mr, .ref g4, .int (nI y), .ref g5, .int mo, .ref g6, .int ml, .ref g7, .ref g8, .ref g9, .ref g10, .ref g11, .ref g12])), (g1, .inl (cI, 9, .inl fg)), (g2, .inl (cI, 9, .inl fb)), (g3, .inl (cI, 9, .inl fp)), (g4, .inl (cZ, 20480, .inl fs)), (g12, .inl (cI, 9, .inl th)), (g8, .inl (cJ, 19683, .inr (.inl (vp_updL ub cv (((r4 * ((fp k).toInt64)) + (ub (cv + (3 ^ k)))) + (ub ((cv + (3 ^ k)) + (3 ^ k)))))))), (g9, .inl (cI, 19683, .inl (upd un cv (nI k)))), (g10, .inl (cI, 19683, .inl (upd uw (nI cv).toNatClampNeg ((fp k) + (uw ((cv + (3 ^ k)) + (3 ^ k))))))), (g11, .inl (cI, 19683, .inl ux))] H := hP
                      have hD : va_D (aA as) [(m0, .inr (7, [.int (nI n), .ref g1, .ref g2, .ref g3, .int mr, .ref g4, .int (nI y), .ref g5, .int mo, .ref g6, .int ml, .ref g7, .ref g8, .ref g9, .ref g10, .ref g11, .ref g12])), (g1, .inl (cI, 9, .inl fg)), (g2, .inl (cI, 9, .inl fb)), (g3, .inl (cI, 9, .inl fp)), (g4, .inl (cZ, 20480, .inl fs)), (g12, .inl (cI, 9, .inl th)), (g8, .inl (cJ, 19683, .inr (.inl (vp_updL ub cv (((r4 * ((fp k).toInt64)) + (ub (cv + (3 ^ k)))) + (ub ((cv + (3 ^ k)) + (3 ^ k)))))))), (g9, .inl (cI, 19683, .inl (upd un cv (nI k)))), (g10, .inl (cI, 19683, .inl (upd uw (nI cv).toNatClampNeg ((fp k) + (uw ((cv + (3 ^ k)) + (3 ^ k))))))), (g11, .inl (cI, 19683, .inl ux))] := hD
                      rw [nI_clamp (n := cv) (by omega)] at hP hD
                      refine lv_aload_n hx hb dX7_plan_231 rfl (lv_at hl 6 rfl) ?_
                      refine va_get (D := D) (ci := 7) (v := .ref g11) (C := RX7) (T := TX7) (N := 17) hx hb hts hiX7 hown hK hP 0 rfl rfl 15 (by decide) hf49 (fun _ h9 => h9) rfl dX7_plan_232 ?_
                      refine lv_iload_n hx hb dX7_plan_235 rfl (lv_at hl 7 rfl) ?_
                      refine lv_iload hx hb dX7_plan_236 (lv_at hl 4 rfl) ?_
                      refine va_iast hx hb hK hP hD hS 9 0 rfl rfl (i := nI cv) (vp_in_nI (by omega) (by omega)) dX7_plan_238 (fun H locs hP hD hS => ?_)
                      have hP : va_P D vwCl [(m0, .inr (7, [.int (nI n), .ref g1, .ref g2, .ref g3, .int mr, .ref g4, .int (nI y), .ref g5, .int mo, .ref g6, .int ml, .ref g7, .ref g8, .ref g9, .ref g10, .ref g11, .ref g12])), (g1, .inl (cI, 9, .inl fg)), (g2, .inl (cI, 9, .inl fb)), (g3, .inl (cI, 9, .inl fp)), (g4, .inl (cZ, 20480, .inl fs)), (g12, .inl (cI, 9, .inl th)), (g8, .inl (cJ, 19683, .inr (.inl (vp_updL ub cv (((r4 * ((fp k).toInt64)) + (ub (cv + (3 ^ k)))) + (ub ((cv + (3 ^ k)) + (3 ^ k)))))))), (g9, .inl (cI, 19683, .inl (upd un cv (nI k)))), (g10, .inl (cI, 19683, .inl (upd uw cv ((fp k) + (uw ((cv + (3 ^ k)) + (3 ^ k))))))), (g11, .inl (cI, 19683, .inl (upd ux (nI cv).toNatClampNeg (nI k))))] H := hP
                      have hD : va_D (aA as) [(m0, .inr (7, [.int (nI n), .ref g1, .ref g2, .ref g3, .int mr, .ref g4, .int (nI y), .ref g5, .int mo, .ref g6, .int ml, .ref g7, .ref g8, .ref g9, .ref g10, .ref g11, .ref g12])), (g1, .inl (cI, 9, .inl fg)), (g2, .inl (cI, 9, .inl fb)), (g3, .inl (cI, 9, .inl fp)), (g4, .inl (cZ, 20480, .inl fs)), (g12, .inl (cI, 9, .inl th)), (g8, .inl (cJ, 19683, .inr (.inl (vp_updL ub cv (((r4 * ((fp k).toInt64)) + (ub (cv + (3 ^ k)))) + (ub ((cv + (3 ^ k)) + (3 ^ k)))))))), (g9, .inl (cI, 19683, .inl (upd un cv (nI k)))), (g10, .inl (cI, 19683, .inl (upd uw cv ((fp k) + (uw ((cv + (3 ^ k)) + (3 ^ k))))))), (g11, .inl (cI, 19683, .inl (upd ux (nI cv).toNatClampNeg (nI k))))] := hD
                      rw [nI_clamp (n := cv) (by omega)] at hP hD
                      refine lv_iinc (v := nI (k + 1)) (lv' := [(4, .int (nI (k + 1))), (9, .int ((fp k) + (uw ((cv + (3 ^ k)) + (3 ^ k))))), (7, .long (((r4 * ((fp k).toInt64)) + (ub (cv + (3 ^ k)))) + (ub ((cv + (3 ^ k)) + (3 ^ k))))), (6, .int (nI ((cv + (3 ^ k)) + (3 ^ k)))), (5, .int (nI (cv + (3 ^ k)))), (2, .long r4), (0, .ref m0), (1, .int (nI cv))]) hx hb dX7_plan_239 hl (k := 4) rfl (nI_1 k) (by decide) rfl (fun ls hl => ?_)
                      refine lv_goto (tgt := 47) hx hb dX7_plan_242 (by decide) ?_
                      exact ih5 (k + 1) (vp_updL ub cv (((r4 * ((fp k).toInt64)) + (ub (cv + (3 ^ k)))) + (ub ((cv + (3 ^ k)) + (3 ^ k))))) (upd un cv (nI k)) (upd uw cv ((fp k) + (uw ((cv + (3 ^ k)) + (3 ^ k))))) (upd ux cv (nI k)) _ _ _ (by omega) (fun z hz => by have h7 := hsm z hz; exact ⟨by simp [upd, hz, h7.1], by simp [upd, hz, h7.2]⟩) (by first | exact hval.elim (fun h => Or.inl ⟨h.1, h.2.1, fun z hz => by rcases Nat.lt_or_ge z k with g | g; exact h.2.2 z g; exact (by have e9 : z = k := (by omega); subst e9; assumption)⟩) Or.inr | exact Or.inr ⟨by first | exact pv_set (by omega) (by omega) | exact (hval.resolve_left (fun h => absurd h.1 (by assumption))).1, by first | exact pv_set (by omega) (by omega) | exact (hval.resolve_left (fun h => absurd h.2.1 (by assumption))).2⟩) hP hD hS (lv_sub hl [0, 5, 6, 7] rfl)
                    · skip
                      refine lv_iload hx hb dX7_plan_212 (lv_at hl 0 rfl) ?_
                      refine lv_aload_n hx hb dX7_plan_214 rfl (lv_at hl 6 rfl) ?_
                      refine va_get (D := D) (ci := 7) (v := .ref g10) (C := RX7) (T := TX7) (N := 17) hx hb hts hiX7 hown hK hP 0 rfl rfl 14 (by decide) hf46 (fun _ h9 => h9) rfl dX7_plan_215 ?_
                      refine lv_iload_n hx hb dX7_plan_218 rfl (lv_at hl 7 rfl) ?_
                      refine va_iald hx hb hK hP 8 0 rfl rfl (i := nI cv) (vp_in_nI (by omega) (by omega)) dX7_plan_219 ?_
                      refine cn_i (y := uw cv) (congrArg uw (nI_clamp (by omega))) ?_
                      refine lv_icmp_ge (tgt := 239) hx hb dX7_plan_220 (by decide) (fun c23 => ?_) (fun c23 => ?_)
                      · skip
                        refine lv_iinc (v := nI (k + 1)) (lv' := [(4, .int (nI (k + 1))), (9, .int ((fp k) + (uw ((cv + (3 ^ k)) + (3 ^ k))))), (7, .long (((r4 * ((fp k).toInt64)) + (ub (cv + (3 ^ k)))) + (ub ((cv + (3 ^ k)) + (3 ^ k))))), (6, .int (nI ((cv + (3 ^ k)) + (3 ^ k)))), (5, .int (nI (cv + (3 ^ k)))), (2, .long r4), (0, .ref m0), (1, .int (nI cv))]) hx hb dX7_plan_239 hl (k := 4) rfl (nI_1 k) (by decide) rfl (fun ls hl => ?_)
                        refine lv_goto (tgt := 47) hx hb dX7_plan_242 (by decide) ?_
                        exact ih5 (k + 1) (vp_updL ub cv (((r4 * ((fp k).toInt64)) + (ub (cv + (3 ^ k)))) + (ub ((cv + (3 ^ k)) + (3 ^ k))))) (upd un cv (nI k)) uw ux _ _ _ (by omega) (fun z hz => by have h7 := hsm z hz; exact ⟨by simp [upd, hz, h7.1], by simp [upd, hz, h7.2]⟩) (by first | exact hval.elim (fun h => Or.inl ⟨h.1, h.2.1, fun z hz => by rcases Nat.lt_or_ge z k with g | g; exact h.2.2 z g; exact (by have e9 : z = k := (by omega); subst e9; assumption)⟩) Or.inr | exact Or.inr ⟨by first | exact pv_set (by omega) (by omega) | exact (hval.resolve_left (fun h => absurd h.1 (by assumption))).1, by first | exact pv_set (by omega) (by omega) | exact (hval.resolve_left (fun h => absurd h.2.1 (by assumption))).2⟩) hP hD hS (lv_sub hl [0, 5, 6, 7] rfl)
                      · skip
                        refine lv_aload_n hx hb dX7_plan_223 rfl (lv_at hl 6 rfl) ?_
                        refine va_get (D := D) (ci := 7) (v := .ref g10) (C := RX7) (T := TX7) (N := 17) hx hb hts hiX7 hown hK hP 0 rfl rfl 14 (by decide) hf46 (fun _ h9 => h9) rfl dX7_plan_224 ?_
                        refine lv_iload_n hx hb dX7_plan_227 rfl (lv_at hl 7 rfl) ?_
                        refine lv_iload hx hb dX7_plan_228 (lv_at hl 0 rfl) ?_
                        refine va_iast hx hb hK hP hD hS 8 0 rfl rfl (i := nI cv) (vp_in_nI (by omega) (by omega)) dX7_plan_230 (fun H locs hP hD hS => ?_)
                        have hP : va_P D vwCl [(m0, .inr (7, [.int (nI n), .ref g1, .ref g2, .ref g3, .int mr, .ref g4, .int (nI y), .ref g5, .int mo, .ref g6, .int ml, .ref g7, .ref g8, .ref g9, .ref g10, .ref g11, .ref g12])), (g1, .inl (cI, 9, .inl fg)), (g2, .inl (cI, 9, .inl fb)), (g3, .inl (cI, 9, .inl fp)), (g4, .inl (cZ, 20480, .inl fs)), (g12, .inl (cI, 9, .inl th)), (g8, .inl (cJ, 19683, .inr (.inl (vp_updL ub cv (((r4 * ((fp k).toInt64)) + (ub (cv + (3 ^ k)))) + (ub ((cv + (3 ^ k)) + (3 ^ k)))))))), (g9, .inl (cI, 19683, .inl (upd un cv (nI k)))), (g10, .inl (cI, 19683, .inl (upd uw (nI cv).toNatClampNeg ((fp k) + (uw ((cv + (3 ^ k)) + (3 ^ k))))))), (g11, .inl (cI, 19683, .inl ux))] H := hP
                        have hD : va_D (aA as) [(m0, .inr (7, [.int (nI n), .ref g1, .ref g2, .ref g3, .int mr, .ref g4, .int (nI y), .ref g5, .int mo, .ref g6, .int ml, .ref g7, .ref g8, .ref g9, .ref g10, .ref g11, .ref g12])), (g1, .inl (cI, 9, .inl fg)), (g2, .inl (cI, 9, .inl fb)), (g3, .inl (cI, 9, .inl fp)), (g4, .inl (cZ, 20480, .inl fs)), (g12, .inl (cI, 9, .inl th)), (g8, .inl (cJ, 19683, .inr (.inl (vp_updL ub cv (((r4 * ((fp k).toInt64)) + (ub (cv + (3 ^ k)))) + (ub ((cv + (3 ^ k)) + (3 ^ k)))))))), (g9, .inl (cI, 19683, .inl (upd un cv (nI k)))), (g10, .inl (cI, 19683, .inl (upd uw (nI cv).toNatClampNeg ((fp k) + (uw ((cv + (3 ^ k)) + (3 ^ k))))))), (g11, .inl (cI, 19683, .inl ux))] := hD
                        rw [nI_clamp (n := cv) (by omega)] at hP hD
                        refine lv_aload_n hx hb dX7_plan_231 rfl (lv_at hl 6 rfl) ?_
                        refine va_get (D := D) (ci := 7) (v := .ref g11) (C := RX7) (T := TX7) (N := 17) hx hb hts hiX7 hown hK hP 0 rfl rfl 15 (by decide) hf49 (fun _ h9 => h9) rfl dX7_plan_232 ?_
                        refine lv_iload_n hx hb dX7_plan_235 rfl (lv_at hl 7 rfl) ?_
                        refine lv_iload hx hb dX7_plan_236 (lv_at hl 4 rfl) ?_
                        refine va_iast hx hb hK hP hD hS 9 0 rfl rfl (i := nI cv) (vp_in_nI (by omega) (by omega)) dX7_plan_238 (fun H locs hP hD hS => ?_)
                        have hP : va_P D vwCl [(m0, .inr (7, [.int (nI n), .ref g1, .ref g2, .ref g3, .int mr, .ref g4, .int (nI y), .ref g5, .int mo, .ref g6, .int ml, .ref g7, .ref g8, .ref g9, .ref g10, .ref g11, .ref g12])), (g1, .inl (cI, 9, .inl fg)), (g2, .inl (cI, 9, .inl fb)), (g3, .inl (cI, 9, .inl fp)), (g4, .inl (cZ, 20480, .inl fs)), (g12, .inl (cI, 9, .inl th)), (g8, .inl (cJ, 19683, .inr (.inl (vp_updL ub cv (((r4 * ((fp k).toInt64)) + (ub (cv + (3 ^ k)))) + (ub ((cv + (3 ^ k)) + (3 ^ k)))))))), (g9, .inl (cI, 19683, .inl (upd un cv (nI k)))), (g10, .inl (cI, 19683, .inl (upd uw cv ((fp k) + (uw ((cv + (3 ^ k)) + (3 ^ k))))))), (g11, .inl (cI, 19683, .inl (upd ux (nI cv).toNatClampNeg (nI k))))] H := hP
                        have hD : va_D (aA as) [(m0, .inr (7, [.int (nI n), .ref g1, .ref g2, .ref g3, .int mr, .ref g4, .int (nI y), .ref g5, .int mo, .ref g6, .int ml, .ref g7, .ref g8, .ref g9, .ref g10, .ref g11, .ref g12])), (g1, .inl (cI, 9, .inl fg)), (g2, .inl (cI, 9, .inl fb)), (g3, .inl (cI, 9, .inl fp)), (g4, .inl (cZ, 20480, .inl fs)), (g12, .inl (cI, 9, .inl th)), (g8, .inl (cJ, 19683, .inr (.inl (vp_updL ub cv (((r4 * ((fp k).toInt64)) + (ub (cv + (3 ^ k)))) + (ub ((cv + (3 ^ k)) + (3 ^ k)))))))), (g9, .inl (cI, 19683, .inl (upd un cv (nI k)))), (g10, .inl (cI, 19683, .inl (upd uw cv ((fp k) + (uw ((cv + (3 ^ k)) + (3 ^ k))))))), (g11, .inl (cI, 19683, .inl (upd ux (nI cv).toNatClampNeg (nI k))))] := hD
                        rw [nI_clamp (n := cv) (by omega)] at hP hD
                        refine lv_iinc (v := nI (k + 1)) (lv' := [(4, .int (nI (k + 1))), (9, .int ((fp k) + (uw ((cv + (3 ^ k)) + (3 ^ k))))), (7, .long (((r4 * ((fp k).toInt64)) + (ub (cv + (3 ^ k)))) + (ub ((cv + (3 ^ k)) + (3 ^ k))))), (6, .int (nI ((cv + (3 ^ k)) + (3 ^ k)))), (5, .int (nI (cv + (3 ^ k)))), (2, .long r4), (0, .ref m0), (1, .int (nI cv))]) hx hb dX7_plan_239 hl (k := 4) rfl (nI_1 k) (by decide) rfl (fun ls hl => ?_)
                        refine lv_goto (tgt := 47) hx hb dX7_plan_242 (by decide) ?_
                        exact ih5 (k + 1) (vp_updL ub cv (((r4 * ((fp k).toInt64)) + (ub (cv + (3 ^ k)))) + (ub ((cv + (3 ^ k)) + (3 ^ k))))) (upd un cv (nI k)) (upd uw cv ((fp k) + (uw ((cv + (3 ^ k)) + (3 ^ k))))) (upd ux cv (nI k)) _ _ _ (by omega) (fun z hz => by have h7 := hsm z hz; exact ⟨by simp [upd, hz, h7.1], by simp [upd, hz, h7.2]⟩) (by first | exact hval.elim (fun h => Or.inl ⟨h.1, h.2.1, fun z hz => by rcases Nat.lt_or_ge z k with g | g; exact h.2.2 z g; exact (by have e9 : z = k := (by omega); subst e9; assumption)⟩) Or.inr | exact Or.inr ⟨by first | exact pv_set (by omega) (by omega) | exact (hval.resolve_left (fun h => absurd h.1 (by assumption))).1, by first | exact pv_set (by omega) (by omega) | exact (hval.resolve_left (fun h => absurd h.2.1 (by assumption))).2⟩) hP hD hS (lv_sub hl [0, 5, 6, 7] rfl)
                  · skip
                    refine lv_aload_n hx hb dX7_plan_182 rfl (lv_at hl 5 rfl) ?_
                    refine va_get (D := D) (ci := 7) (v := .ref g10) (C := RX7) (T := TX7) (N := 17) hx hb hts hiX7 hown hK hP 0 rfl rfl 14 (by decide) hf46 (fun _ h9 => h9) rfl dX7_plan_183 ?_
                    refine lv_iload hx hb dX7_plan_186 (lv_at hl 2 rfl) ?_
                    refine va_iald hx hb hK hP 8 0 rfl rfl (i := nI (cv + (3 ^ k))) (vp_in_nI (by omega) (by omega)) dX7_plan_188 ?_
                    refine cn_i (y := uw (cv + (3 ^ k))) (congrArg uw (nI_clamp (by omega))) ?_
                    refine lv_goto (tgt := 199) hx hb dX7_plan_189 (by decide) ?_
                    refine lv_iadd hx hb dX7_plan_199 ?_
                    refine lv_istore (lv' := [(9, .int ((fp k) + (uw (cv + (3 ^ k))))), (7, .long (((r4 * ((fp k).toInt64)) + (ub (cv + (3 ^ k)))) + (ub ((cv + (3 ^ k)) + (3 ^ k))))), (6, .int (nI ((cv + (3 ^ k)) + (3 ^ k)))), (5, .int (nI (cv + (3 ^ k)))), (4, .int (nI k)), (2, .long r4), (0, .ref m0), (1, .int (nI cv))]) hx hb dX7_plan_200 hl (by decide) rfl (fun ls hl => ?_)
                    refine lv_aload_n hx hb dX7_plan_202 rfl (lv_at hl 6 rfl) ?_
                    refine va_get (D := D) (ci := 7) (v := .ref g11) (C := RX7) (T := TX7) (N := 17) hx hb hts hiX7 hown hK hP 0 rfl rfl 15 (by decide) hf49 (fun _ h9 => h9) rfl dX7_plan_203 ?_
                    refine lv_iload_n hx hb dX7_plan_206 rfl (lv_at hl 7 rfl) ?_
                    refine va_iald hx hb hK hP 9 0 rfl rfl (i := nI cv) (vp_in_nI (by omega) (by omega)) dX7_plan_207 ?_
                    refine cn_i (y := ux cv) (congrArg ux (nI_clamp (by omega))) ?_
                    refine lv_iconst (v := (-1 : Int32)) hx hb dX7_plan_208 (by decide) ?_
                    refine lv_icmp_eq (tgt := 223) hx hb dX7_plan_209 (by decide) (fun c24 => ?_) (fun c24 => ?_)
                    · skip
                      refine lv_aload_n hx hb dX7_plan_223 rfl (lv_at hl 6 rfl) ?_
                      refine va_get (D := D) (ci := 7) (v := .ref g10) (C := RX7) (T := TX7) (N := 17) hx hb hts hiX7 hown hK hP 0 rfl rfl 14 (by decide) hf46 (fun _ h9 => h9) rfl dX7_plan_224 ?_
                      refine lv_iload_n hx hb dX7_plan_227 rfl (lv_at hl 7 rfl) ?_
                      refine lv_iload hx hb dX7_plan_228 (lv_at hl 0 rfl) ?_
                      refine va_iast hx hb hK hP hD hS 8 0 rfl rfl (i := nI cv) (vp_in_nI (by omega) (by omega)) dX7_plan_230 (fun H locs hP hD hS => ?_)
                      have hP : va_P D vwCl [(m0, .inr (7, [.int (nI n), .ref g1, .ref g2, .ref g3, .int mr, .ref g4, .int (nI y), .ref g5, .int mo, .ref g6, .int ml, .ref g7, .ref g8, .ref g9, .ref g10, .ref g11, .ref g12])), (g1, .inl (cI, 9, .inl fg)), (g2, .inl (cI, 9, .inl fb)), (g3, .inl (cI, 9, .inl fp)), (g4, .inl (cZ, 20480, .inl fs)), (g12, .inl (cI, 9, .inl th)), (g8, .inl (cJ, 19683, .inr (.inl (vp_updL ub cv (((r4 * ((fp k).toInt64)) + (ub (cv + (3 ^ k)))) + (ub ((cv + (3 ^ k)) + (3 ^ k)))))))), (g9, .inl (cI, 19683, .inl (upd un cv (nI k)))), (g10, .inl (cI, 19683, .inl (upd uw (nI cv).toNatClampNeg ((fp k) + (uw (cv + (3 ^ k))))))), (g11, .inl (cI, 19683, .inl ux))] H := hP
                      have hD : va_D (aA as) [(m0, .inr (7, [.int (nI n), .ref g1, .ref g2, .ref g3, .int mr, .ref g4, .int (nI y), .ref g5, .int mo, .ref g6, .int ml, .ref g7, .ref g8, .ref g9, .ref g10, .ref g11, .ref g12])), (g1, .inl (cI, 9, .inl fg)), (g2, .inl (cI, 9, .inl fb)), (g3, .inl (cI, 9, .inl fp)), (g4, .inl (cZ, 20480, .inl fs)), (g12, .inl (cI, 9, .inl th)), (g8, .inl (cJ, 19683, .inr (.inl (vp_updL ub cv (((r4 * ((fp k).toInt64)) + (ub (cv + (3 ^ k)))) + (ub ((cv + (3 ^ k)) + (3 ^ k)))))))), (g9, .inl (cI, 19683, .inl (upd un cv (nI k)))), (g10, .inl (cI, 19683, .inl (upd uw (nI cv).toNatClampNeg ((fp k) + (uw (cv + (3 ^ k))))))), (g11, .inl (cI, 19683, .inl ux))] := hD
                      rw [nI_clamp (n := cv) (by omega)] at hP hD
                      refine lv_aload_n hx hb dX7_plan_231 rfl (lv_at hl 6 rfl) ?_
                      refine va_get (D := D) (ci := 7) (v := .ref g11) (C := RX7) (T := TX7) (N := 17) hx hb hts hiX7 hown hK hP 0 rfl rfl 15 (by decide) hf49 (fun _ h9 => h9) rfl dX7_plan_232 ?_
                      refine lv_iload_n hx hb dX7_plan_235 rfl (lv_at hl 7 rfl) ?_
                      refine lv_iload hx hb dX7_plan_236 (lv_at hl 4 rfl) ?_
                      refine va_iast hx hb hK hP hD hS 9 0 rfl rfl (i := nI cv) (vp_in_nI (by omega) (by omega)) dX7_plan_238 (fun H locs hP hD hS => ?_)
                      have hP : va_P D vwCl [(m0, .inr (7, [.int (nI n), .ref g1, .ref g2, .ref g3, .int mr, .ref g4, .int (nI y), .ref g5, .int mo, .ref g6, .int ml, .ref g7, .ref g8, .ref g9, .ref g10, .ref g11, .ref g12])), (g1, .inl (cI, 9, .inl fg)), (g2, .inl (cI, 9, .inl fb)), (g3, .inl (cI, 9, .inl fp)), (g4, .inl (cZ, 20480, .inl fs)), (g12, .inl (cI, 9, .inl th)), (g8, .inl (cJ, 19683, .inr (.inl (vp_updL ub cv (((r4 * ((fp k).toInt64)) + (ub (cv + (3 ^ k)))) + (ub ((cv + (3 ^ k)) + (3 ^ k)))))))), (g9, .inl (cI, 19683, .inl (upd un cv (nI k)))), (g10, .inl (cI, 19683, .inl (upd uw cv ((fp k) + (uw (cv + (3 ^ k))))))), (g11, .inl (cI, 19683, .inl (upd ux (nI cv).toNatClampNeg (nI k))))] H := hP
                      have hD : va_D (aA as) [(m0, .inr (7, [.int (nI n), .ref g1, .ref g2, .ref g3, .int mr, .ref g4, .int (nI y), .ref g5, .int mo, .ref g6, .int ml, .ref g7, .ref g8, .ref g9, .ref g10, .ref g11, .ref g12])), (g1, .inl (cI, 9, .inl fg)), (g2, .inl (cI, 9, .inl fb)), (g3, .inl (cI, 9, .inl fp)), (g4, .inl (cZ, 20480, .inl fs)), (g12, .inl (cI, 9, .inl th)), (g8, .inl (cJ, 19683, .inr (.inl (vp_updL ub cv (((r4 * ((fp k).toInt64)) + (ub (cv + (3 ^ k)))) + (ub ((cv + (3 ^ k)) + (3 ^ k)))))))), (g9, .inl (cI, 19683, .inl (upd un cv (nI k)))), (g10, .inl (cI, 19683, .inl (upd uw cv ((fp k) + (uw (cv + (3 ^ k))))))), (g11, .inl (cI, 19683, .inl (upd ux (nI cv).toNatClampNeg (nI k))))] := hD
                      rw [nI_clamp (n := cv) (by omega)] at hP hD
                      refine lv_iinc (v := nI (k + 1)) (lv' := [(4, .int (nI (k + 1))), (9, .int ((fp k) + (uw (cv + (3 ^ k))))), (7, .long (((r4 * ((fp k).toInt64)) + (ub (cv + (3 ^ k)))) + (ub ((cv + (3 ^ k)) + (3 ^ k))))), (6, .int (nI ((cv + (3 ^ k)) + (3 ^ k)))), (5, .int (nI (cv + (3 ^ k)))), (2, .long r4), (0, .ref m0), (1, .int (nI cv))]) hx hb dX7_plan_239 hl (k := 4) rfl (nI_1 k) (by decide) rfl (fun ls hl => ?_)
                      refine lv_goto (tgt := 47) hx hb dX7_plan_242 (by decide) ?_
                      exact ih5 (k + 1) (vp_updL ub cv (((r4 * ((fp k).toInt64)) + (ub (cv + (3 ^ k)))) + (ub ((cv + (3 ^ k)) + (3 ^ k))))) (upd un cv (nI k)) (upd uw cv ((fp k) + (uw (cv + (3 ^ k))))) (upd ux cv (nI k)) _ _ _ (by omega) (fun z hz => by have h7 := hsm z hz; exact ⟨by simp [upd, hz, h7.1], by simp [upd, hz, h7.2]⟩) (by first | exact hval.elim (fun h => Or.inl ⟨h.1, h.2.1, fun z hz => by rcases Nat.lt_or_ge z k with g | g; exact h.2.2 z g; exact (by have e9 : z = k := (by omega); subst e9; assumption)⟩) Or.inr | exact Or.inr ⟨by first | exact pv_set (by omega) (by omega) | exact (hval.resolve_left (fun h => absurd h.1 (by assumption))).1, by first | exact pv_set (by omega) (by omega) | exact (hval.resolve_left (fun h => absurd h.2.1 (by assumption))).2⟩) hP hD hS (lv_sub hl [0, 5, 6, 7] rfl)
                    · skip
                      refine lv_iload hx hb dX7_plan_212 (lv_at hl 0 rfl) ?_
                      refine lv_aload_n hx hb dX7_plan_214 rfl (lv_at hl 6 rfl) ?_
                      refine va_get (D := D) (ci := 7) (v := .ref g10) (C := RX7) (T := TX7) (N := 17) hx hb hts hiX7 hown hK hP 0 rfl rfl 14 (by decide) hf46 (fun _ h9 => h9) rfl dX7_plan_215 ?_
                      refine lv_iload_n hx hb dX7_plan_218 rfl (lv_at hl 7 rfl) ?_
                      refine va_iald hx hb hK hP 8 0 rfl rfl (i := nI cv) (vp_in_nI (by omega) (by omega)) dX7_plan_219 ?_
                      refine cn_i (y := uw cv) (congrArg uw (nI_clamp (by omega))) ?_
                      refine lv_icmp_ge (tgt := 239) hx hb dX7_plan_220 (by decide) (fun c25 => ?_) (fun c25 => ?_)
                      · skip
                        refine lv_iinc (v := nI (k + 1)) (lv' := [(4, .int (nI (k + 1))), (9, .int ((fp k) + (uw (cv + (3 ^ k))))), (7, .long (((r4 * ((fp k).toInt64)) + (ub (cv + (3 ^ k)))) + (ub ((cv + (3 ^ k)) + (3 ^ k))))), (6, .int (nI ((cv + (3 ^ k)) + (3 ^ k)))), (5, .int (nI (cv + (3 ^ k)))), (2, .long r4), (0, .ref m0), (1, .int (nI cv))]) hx hb dX7_plan_239 hl (k := 4) rfl (nI_1 k) (by decide) rfl (fun ls hl => ?_)
                        refine lv_goto (tgt := 47) hx hb dX7_plan_242 (by decide) ?_
                        exact ih5 (k + 1) (vp_updL ub cv (((r4 * ((fp k).toInt64)) + (ub (cv + (3 ^ k)))) + (ub ((cv + (3 ^ k)) + (3 ^ k))))) (upd un cv (nI k)) uw ux _ _ _ (by omega) (fun z hz => by have h7 := hsm z hz; exact ⟨by simp [upd, hz, h7.1], by simp [upd, hz, h7.2]⟩) (by first | exact hval.elim (fun h => Or.inl ⟨h.1, h.2.1, fun z hz => by rcases Nat.lt_or_ge z k with g | g; exact h.2.2 z g; exact (by have e9 : z = k := (by omega); subst e9; assumption)⟩) Or.inr | exact Or.inr ⟨by first | exact pv_set (by omega) (by omega) | exact (hval.resolve_left (fun h => absurd h.1 (by assumption))).1, by first | exact pv_set (by omega) (by omega) | exact (hval.resolve_left (fun h => absurd h.2.1 (by assumption))).2⟩) hP hD hS (lv_sub hl [0, 5, 6, 7] rfl)
                      · skip
                        refine lv_aload_n hx hb dX7_plan_223 rfl (lv_at hl 6 rfl) ?_
                        refine va_get (D := D) (ci := 7) (v := .ref g10) (C := RX7) (T := TX7) (N := 17) hx hb hts hiX7 hown hK hP 0 rfl rfl 14 (by decide) hf46 (fun _ h9 => h9) rfl dX7_plan_224 ?_
                        refine lv_iload_n hx hb dX7_plan_227 rfl (lv_at hl 7 rfl) ?_
                        refine lv_iload hx hb dX7_plan_228 (lv_at hl 0 rfl) ?_
                        refine va_iast hx hb hK hP hD hS 8 0 rfl rfl (i := nI cv) (vp_in_nI (by omega) (by omega)) dX7_plan_230 (fun H locs hP hD hS => ?_)
                        have hP : va_P D vwCl [(m0, .inr (7, [.int (nI n), .ref g1, .ref g2, .ref g3, .int mr, .ref g4, .int (nI y), .ref g5, .int mo, .ref g6, .int ml, .ref g7, .ref g8, .ref g9, .ref g10, .ref g11, .ref g12])), (g1, .inl (cI, 9, .inl fg)), (g2, .inl (cI, 9, .inl fb)), (g3, .inl (cI, 9, .inl fp)), (g4, .inl (cZ, 20480, .inl fs)), (g12, .inl (cI, 9, .inl th)), (g8, .inl (cJ, 19683, .inr (.inl (vp_updL ub cv (((r4 * ((fp k).toInt64)) + (ub (cv + (3 ^ k)))) + (ub ((cv + (3 ^ k)) + (3 ^ k)))))))), (g9, .inl (cI, 19683, .inl (upd un cv (nI k)))), (g10, .inl (cI, 19683, .inl (upd uw (nI cv).toNatClampNeg ((fp k) + (uw (cv + (3 ^ k))))))), (g11, .inl (cI, 19683, .inl ux))] H := hP
                        have hD : va_D (aA as) [(m0, .inr (7, [.int (nI n), .ref g1, .ref g2, .ref g3, .int mr, .ref g4, .int (nI y), .ref g5, .int mo, .ref g6, .int ml, .ref g7, .ref g8, .ref g9, .ref g10, .ref g11, .ref g12])), (g1, .inl (cI, 9, .inl fg)), (g2, .inl (cI, 9, .inl fb)), (g3, .inl (cI, 9, .inl fp)), (g4, .inl (cZ, 20480, .inl fs)), (g12, .inl (cI, 9, .inl th)), (g8, .inl (cJ, 19683, .inr (.inl (vp_updL ub cv (((r4 * ((fp k).toInt64)) + (ub (cv + (3 ^ k)))) + (ub ((cv + (3 ^ k)) + (3 ^ k)))))))), (g9, .inl (cI, 19683, .inl (upd un cv (nI k)))), (g10, .inl (cI, 19683, .inl (upd uw (nI cv).toNatClampNeg ((fp k) + (uw (cv + (3 ^ k))))))), (g11, .inl (cI, 19683, .inl ux))] := hD
                        rw [nI_clamp (n := cv) (by omega)] at hP hD
                        refine lv_aload_n hx hb dX7_plan_231 rfl (lv_at hl 6 rfl) ?_
                        refine va_get (D := D) (ci := 7) (v := .ref g11) (C := RX7) (T := TX7) (N := 17) hx hb hts hiX7 hown hK hP 0 rfl rfl 15 (by decide) hf49 (fun _ h9 => h9) rfl dX7_plan_232 ?_
                        refine lv_iload_n hx hb dX7_plan_235 rfl (lv_at hl 7 rfl) ?_
                        refine lv_iload hx hb dX7_plan_236 (lv_at hl 4 rfl) ?_
                        refine va_iast hx hb hK hP hD hS 9 0 rfl rfl (i := nI cv) (vp_in_nI (by omega) (by omega)) dX7_plan_238 (fun H locs hP hD hS => ?_)
                        have hP : va_P D vwCl [(m0, .inr (7, [.int (nI n), .ref g1, .ref g2, .ref g3, .int mr, .ref g4, .int (nI y), .ref g5, .int mo, .ref g6, .int ml, .ref g7, .ref g8, .ref g9, .ref g10, .ref g11, .ref g12])), (g1, .inl (cI, 9, .inl fg)), (g2, .inl (cI, 9, .inl fb)), (g3, .inl (cI, 9, .inl fp)), (g4, .inl (cZ, 20480, .inl fs)), (g12, .inl (cI, 9, .inl th)), (g8, .inl (cJ, 19683, .inr (.inl (vp_updL ub cv (((r4 * ((fp k).toInt64)) + (ub (cv + (3 ^ k)))) + (ub ((cv + (3 ^ k)) + (3 ^ k)))))))), (g9, .inl (cI, 19683, .inl (upd un cv (nI k)))), (g10, .inl (cI, 19683, .inl (upd uw cv ((fp k) + (uw (cv + (3 ^ k))))))), (g11, .inl (cI, 19683, .inl (upd ux (nI cv).toNatClampNeg (nI k))))] H := hP
                        have hD : va_D (aA as) [(m0, .inr (7, [.int (nI n), .ref g1, .ref g2, .ref g3, .int mr, .ref g4, .int (nI y), .ref g5, .int mo, .ref g6, .int ml, .ref g7, .ref g8, .ref g9, .ref g10, .ref g11, .ref g12])), (g1, .inl (cI, 9, .inl fg)), (g2, .inl (cI, 9, .inl fb)), (g3, .inl (cI, 9, .inl fp)), (g4, .inl (cZ, 20480, .inl fs)), (g12, .inl (cI, 9, .inl th)), (g8, .inl (cJ, 19683, .inr (.inl (vp_updL ub cv (((r4 * ((fp k).toInt64)) + (ub (cv + (3 ^ k)))) + (ub ((cv + (3 ^ k)) + (3 ^ k)))))))), (g9, .inl (cI, 19683, .inl (upd un cv (nI k)))), (g10, .inl (cI, 19683, .inl (upd uw cv ((fp k) + (uw (cv + (3 ^ k))))))), (g11, .inl (cI, 19683, .inl (upd ux (nI cv).toNatClampNeg (nI k))))] := hD
                        rw [nI_clamp (n := cv) (by omega)] at hP hD
                        refine lv_iinc (v := nI (k + 1)) (lv' := [(4, .int (nI (k + 1))), (9, .int ((fp k) + (uw (cv + (3 ^ k))))), (7, .long (((r4 * ((fp k).toInt64)) + (ub (cv + (3 ^ k)))) + (ub ((cv + (3 ^ k)) + (3 ^ k))))), (6, .int (nI ((cv + (3 ^ k)) + (3 ^ k)))), (5, .int (nI (cv + (3 ^ k)))), (2, .long r4), (0, .ref m0), (1, .int (nI cv))]) hx hb dX7_plan_239 hl (k := 4) rfl (nI_1 k) (by decide) rfl (fun ls hl => ?_)
                        refine lv_goto (tgt := 47) hx hb dX7_plan_242 (by decide) ?_
                        exact ih5 (k + 1) (vp_updL ub cv (((r4 * ((fp k).toInt64)) + (ub (cv + (3 ^ k)))) + (ub ((cv + (3 ^ k)) + (3 ^ k))))) (upd un cv (nI k)) (upd uw cv ((fp k) + (uw (cv + (3 ^ k))))) (upd ux cv (nI k)) _ _ _ (by omega) (fun z hz => by have h7 := hsm z hz; exact ⟨by simp [upd, hz, h7.1], by simp [upd, hz, h7.2]⟩) (by first | exact hval.elim (fun h => Or.inl ⟨h.1, h.2.1, fun z hz => by rcases Nat.lt_or_ge z k with g | g; exact h.2.2 z g; exact (by have e9 : z = k := (by omega); subst e9; assumption)⟩) Or.inr | exact Or.inr ⟨by first | exact pv_set (by omega) (by omega) | exact (hval.resolve_left (fun h => absurd h.1 (by assumption))).1, by first | exact pv_set (by omega) (by omega) | exact (hval.resolve_left (fun h => absurd h.2.1 (by assumption))).2⟩) hP hD hS (lv_sub hl [0, 5, 6, 7] rfl)
            · skip
              have d8 := c8
              rw [nz_eq (by omega)] at d8
              refine lv_goto (tgt := 239) hx hb dX7_plan_66 (by decide) ?_
              refine lv_iinc (v := nI (k + 1)) (lv' := [(4, .int (nI (k + 1))), (2, .long r4), (0, .ref m0), (1, .int (nI cv))]) hx hb dX7_plan_239 hl (k := 0) rfl (nI_1 k) (by decide) rfl (fun ls hl => ?_)
              refine lv_goto (tgt := 47) hx hb dX7_plan_242 (by decide) ?_
              exact ih5 (k + 1) ub un uw ux _ _ _ (by omega) (fun z hz => by have h7 := hsm z hz; exact ⟨by simp [upd, hz, h7.1], by simp [upd, hz, h7.2]⟩) (by first | exact hval.elim (fun h => Or.inl ⟨h.1, h.2.1, fun z hz => by rcases Nat.lt_or_ge z k with g | g; exact h.2.2 z g; exact (by have e9 : z = k := (by omega); subst e9; assumption)⟩) Or.inr | exact Or.inr ⟨by first | exact pv_set (by omega) (by omega) | exact (hval.resolve_left (fun h => absurd h.1 (by assumption))).1, by first | exact pv_set (by omega) (by omega) | exact (hval.resolve_left (fun h => absurd h.2.1 (by assumption))).2⟩) hP hD hS (lv_sub hl [0, 1, 2, 3] rfl)
      exact loop5 (n + 1) 0 (vp_updL eb cv (lN 0)) (upd en cv (-1 : Int32)) (upd ew cv (nI 0)) (upd ex cv (-1 : Int32)) _ _ _ (by omega) (fun z hz => ⟨by simp [upd, hz], by simp [upd, hz]⟩) (Or.inl ⟨by simp [upd], by simp [upd], fun z hz => absurd hz (by omega)⟩) hP hD hS (lv_sub hl [0, 1, 2, 3] rfl)
    · exact absurd c3 (by first | decide | exact nz_lt (by omega) | exact fun h => h (nz_ge (by omega)))
  · skip
    refine lv_iconst (v := (-1 : Int32)) hx hb dX7_plan_33 (by decide) ?_
    refine lv_icmp_eq (tgt := 38) hx hb dX7_plan_34 (by decide) (fun c26 => ?_) (fun c26 => ?_)
    · exact absurd c26 (by first | decide | exact nz_lt (by omega) | exact fun h => h (nz_ge (by omega)))
    · skip
      rw [← hQ]
      exact W.vret hx hb hr (fun tS htS hWS => ⟨⟨(vp_updL eb cv (lN 0), upd en cv (-1 : Int32), upd ew cv (nI 0), upd ex cv (-1 : Int32)), rfl, ⟨fun z hz => ⟨by simp [upd, hz], by simp [upd, hz]⟩, fun h => by first | exact absurd w1 h.1 | exact absurd h.2 w1.2⟩, m_at htS hP⟩, by rw [← has]; exact hS.F htS⟩) (by rw [← has]; exact hS.2.2) dX7_plan_37
