
theorem dig_up {cv x d : Nat} (hd : cv / 3 ^ x % 3 = 0) (h2 : d ≤ 2) (z : Nat) : (cv + 3 ^ x * d) / 3 ^ z % 3 = if z = x then d else cv / 3 ^ z % 3 := by
  have hP := m_p3p x
  have e0 : (cv + 3 ^ x * d) / 3 ^ x = cv / 3 ^ x + d := Nat.add_mul_div_left cv d hP
  by_cases hz : z = x
  · subst hz
    rw [if_pos rfl, e0]
    generalize cv / 3 ^ z = u at hd ⊢
    omega
  · rw [if_neg hz]
    rcases Nat.lt_or_ge z x with h | h
    · have e : 3 ^ x = 3 ^ z * (3 * 3 ^ (x - z - 1)) := by
        rw [← Nat.pow_succ', ← Nat.pow_add]
        congr 1
        omega
      rw [e, Nat.mul_assoc, Nat.add_mul_div_left cv _ (m_p3p z), Nat.mul_assoc, Nat.add_mul_mod_self_left]
    · have e : 3 ^ z = 3 ^ x * 3 * 3 ^ (z - x - 1) := by
        rw [← Nat.pow_succ, ← Nat.pow_add]
        congr 1
        omega
      rw [e, ← Nat.div_div_eq_div_mul, ← Nat.div_div_eq_div_mul, ← Nat.div_div_eq_div_mul, ← Nat.div_div_eq_div_mul, e0]
      congr 2
      generalize cv / 3 ^ x = u at hd ⊢
      omega
def seenN (cv : Nat) : Nat → Nat
  | 0 => 0
  | k + 1 => seenN cv k + (if cv / 3 ^ k % 3 = 0 then 0 else 1)
theorem seenN_le (cv : Nat) : ∀ k, seenN cv k ≤ k
  | 0 => Nat.le_refl 0
  | k + 1 => by
    have g := seenN_le cv k
    show seenN cv k + (if cv / 3 ^ k % 3 = 0 then 0 else 1) ≤ k + 1
    split <;> omega
theorem seenN_up {cv x d : Nat} (hd : cv / 3 ^ x % 3 = 0) (h1 : 1 ≤ d) (h2 : d ≤ 2) : ∀ k, seenN (cv + 3 ^ x * d) k = seenN cv k + (if x < k then 1 else 0)
  | 0 => by rw [if_neg (by omega)]; rfl
  | k + 1 => by
    show seenN (cv + 3 ^ x * d) k + (if (cv + 3 ^ x * d) / 3 ^ k % 3 = 0 then 0 else 1) = seenN cv k + (if cv / 3 ^ k % 3 = 0 then 0 else 1) + _
    rw [seenN_up hd h1 h2 k, dig_up hd h2 k]
    by_cases e : k = x
    · subst e
      rw [if_pos rfl, hd, if_neg (by omega), if_neg (by omega), if_pos rfl, if_pos (by omega)]
    · rw [if_neg e]
      generalize (if cv / 3 ^ k % 3 = 0 then 0 else 1) = w
      by_cases g : x < k
      · have a1 : (if x < k then 1 else 0) = 1 := if_pos g
        have a2 : (if x < k + 1 then 1 else 0) = 1 := if_pos (by omega)
        rw [a1, a2]; omega
      · have a1 : (if x < k then 1 else 0) = 0 := if_neg g
        have a2 : (if x < k + 1 then 1 else 0) = 0 := if_neg (by omega)
        rw [a1, a2]; omega
/-- where the state is unsure, both next parts may be looked at -/
def VV (fs : Nat → Int32) (y n : Nat) (un ux : Nat → Int32) (cv : Nat) : Prop := (¬ Sg fs y (setN cv 1 n) ∧ Sg fs y (2 ^ n - 1 - setN cv 2 n)) → PV n cv un ∧ PV n cv ux
theorem vv_keep {fs un ux vn vx : Nat → Int32} {y n c k : Nat} (h : ∀ z, ¬ z = k → vn z = un z ∧ vx z = ux z) (hc : ¬ c = k) (g : VV fs y n un ux c) : VV fs y n vn vx c := by
  intro hu
  obtain ⟨⟨a, a1, a2, a3⟩, ⟨b, b1, b2, b3⟩⟩ := g hu
  have hk := h c hc
  exact ⟨⟨a, a1, hk.1.trans a2, a3⟩, ⟨b, b1, hk.2.trans b2, b3⟩⟩
def rm_c_X7_seenIn_h : Room := { frames := 1, cells := 0, slots := 0, locals := 22 }
set_option maxHeartbeats 400000 in
set_option maxRecDepth 100000 in
theorem c_X7_seenIn_h (l : Launch) (D : va_G) (cI cJ cZ : ClassId) (m0 : Nat) (g1 : Nat) (g2 : Nat) (g3 : Nat) (g4 : Nat) (g5 : Nat) (g6 : Nat) (g7 : Nat) (g8 : Nat) (g9 : Nat) (g10 : Nat) (g11 : Nat) (g12 : Nat) (n : Nat) (cv : Nat) (mr : Int32) (my : Int32) (mo : Int32) (ml : Int32) (th : Nat → Int32) (hn : n ≤ 9) (hcv : cv < 3 ^ n) (hth : ∀ z, z < 9 → th z = nI (3 ^ z)) : Met l yX7_seenIn wsX7_seenIn rm_c_X7_seenIn_h (pc_ D cI cJ cZ [.ref m0, .int (nI cv)] [(m0, .inr (7, [.int (nI n), .ref g1, .ref g2, .ref g3, .int mr, .ref g4, .int my, .ref g5, .int mo, .ref g6, .int ml, .ref g7, .ref g8, .ref g9, .ref g10, .ref g11, .ref g12])), (g12, .inl (cI, 9, .inl th))]) (va_Qi (fun (r : Int32) (_ : Unit) => r = nI (seenN cv n)) (fun _ _ => True) aN) 0 0 aN := by
  refine Met.ofW (cc := cX7_seenIn) (maxL := 4) (ret := (some .int)) (by decide) rfl ?_
  intro p e s m args below meth c s₁ B hml hv
  obtain ⟨rfl, hP, hKN⟩ := hv
  have hK := hKN.1
  have hx := B.exec
  have hb := B.bytes
  have hr := B.returns
  have hts := atoms_spec (ws := wsX7_seenIn) B.pre
  have hown : s.vm.findClass RX7 = some m.cls := findClass_of_methodNamed B.named
  have hlocks := B.notSynchronized
  have hiX7 : ∀ w ∈ wsX70, w ∈ wsX7_seenIn := by decide +kernel
  have hf7 := hts (.fieldLink RX7 7 "LookBenchModel" "parts" "I") (by decide +kernel)
  have hS : va_S aN s.heap s.heap [] := va_S.rf
  have hl := lv_entry ([.ref m0, .int (nI cv)]) (n := 4) (Nat.le_of_ble_eq_true rfl)
  rw [lg_entry_eq]
  generalize (lg_sl ([.ref m0, .int (nI cv)]) ++ List.replicate (4 - (lg_sl ([.ref m0, .int (nI cv)])).length) Slot.unset).toArray = ls at hl ⊢
  have hl : lv_has ls 4 [(0, .ref m0), (1, .int (nI cv))] := hl
  generalize hQ : MQ below _ _ s _ _ _ = Q
  obtain ⟨H, hH⟩ : ∃ z, z = s.heap := ⟨_, rfl⟩
  have hP : va_P D vwCl [(m0, .inr (7, [.int (nI n), .ref g1, .ref g2, .ref g3, .int mr, .ref g4, .int my, .ref g5, .int mo, .ref g6, .int ml, .ref g7, .ref g8, .ref g9, .ref g10, .ref g11, .ref g12])), (g12, .inl (cI, 9, .inl th))] H := by rw [hH]; exact hP
  have hS : va_S aN s.heap H [] := by rw [hH]; exact hS
  refine m_heap hH ?_
  clear hH
  have h3n := m_p3 hn
  refine lv_iconst (v := nI 0) hx hb dX7_seenIn_0 (by decide) ?_
  refine lv_istore_n (lv' := [(2, .int (nI 0)), (0, .ref m0), (1, .int (nI cv))]) hx hb dX7_seenIn_1 rfl hl (by decide) rfl (fun ls hl => ?_)
  refine lv_iconst (v := nI 0) hx hb dX7_seenIn_2 (by decide) ?_
  refine lv_istore_n (lv' := [(3, .int (nI 0)), (2, .int (nI 0)), (0, .ref m0), (1, .int (nI cv))]) hx hb dX7_seenIn_3 rfl hl (by decide) rfl (fun ls hl => ?_)
  have loop1 : ∀ (fu : Nat) (k : Nat) (v : Nat) (H : Heap) (locs : List Loc) (ls : Array Slot), (k ≤ n ∧ n < k + fu) → (v = seenN cv k) → va_P D vwCl [(m0, .inr (7, [.int (nI n), .ref g1, .ref g2, .ref g3, .int mr, .ref g4, .int my, .ref g5, .int mo, .ref g6, .int ml, .ref g7, .ref g8, .ref g9, .ref g10, .ref g11, .ref g12])), (g12, .inl (cI, 9, .inl th))] H → va_S aN s.heap H locs → lv_has ls 4 [(3, .int (nI k)), (2, .int (nI v)), (0, .ref m0), (1, .int (nI cv))] → W p l e (headSpec wsX7_seenIn rm_c_X7_seenIn_h).room s m ([.ref m0, .int (nI cv)] : List Value).toArray below meth c H locs 0 0 Q (F0 m 4 ls []) := by
    intro fu
    induction fu with
    | zero => intro k v H locs ls hk hv; exact absurd hk (by omega)
    | succ fu ih1 =>
      intro k v H locs ls hk hv hP hS hl
      refine lv_iload_n hx hb dX7_seenIn_4 rfl (lv_at hl 0 rfl) ?_
      refine lv_aload_n hx hb dX7_seenIn_5 rfl (lv_at hl 2 rfl) ?_
      refine va_get (D := D) (ci := 7) (v := .int (nI n)) (C := RX7) (T := TX7) (N := 17) hx hb hts hiX7 hown hK hP 0 rfl rfl 0 (by decide) hf7 (fun _ h9 => h9) rfl dX7_seenIn_6 ?_
      refine lv_icmp_ge (tgt := 35) hx hb dX7_seenIn_9 (by decide) (fun c2 => ?_) (fun c2 => ?_)
      · skip
        have d2 := c2
        rw [nI_leI (by omega) (by omega)] at d2
        refine lv_iload_n hx hb dX7_seenIn_35 rfl (lv_at hl 1 rfl) ?_
        rw [← hQ]
        exact W.iret (v := nI v) hx hb hr (fun tS htS hWS => ⟨⟨(nI v), (), rfl, by rw [hv, show k = n by omega], trivial⟩, hS.F htS⟩) hS.2.2 dX7_seenIn_36
      · skip
        have d2 := c2
        rw [nI_leI (by omega) (by omega)] at d2
        refine lv_iload_n hx hb dX7_seenIn_12 rfl (lv_at hl 1 rfl) ?_
        refine lv_aload_n hx hb dX7_seenIn_13 rfl (lv_at hl 2 rfl) ?_
        refine lv_iload_n hx hb dX7_seenIn_14 rfl (lv_at hl 3 rfl) ?_
        refine lv_iload_n hx hb dX7_seenIn_15 rfl (lv_at hl 0 rfl) ?_
        refine pu_i (va_runV (As := [.int (nI cv), .int (nI k)]) (rest := [.int (nI v)]) ⟨hx, hb, hml, hown, hts⟩ (c_X7_digit_g l D cI cJ cZ m0 g1 g2 g3 g4 g5 g6 g7 g8 g9 g10 g11 g12 k cv (nI n) mr my mo ml th (by first | assumption | omega) (by first | assumption | omega) (by first | assumption | omega)) (cwV 2 hts gX7_seenIn_X7_digit rfl rfl rfl (by decide +kernel) ⟨Nat.le_of_ble_eq_true rfl, Nat.le_of_ble_eq_true rfl⟩) ⟨pc_blind, va_recv hK hP (ci := 7) (q0 := 0) rfl rfl, fun U hU hW => ⟨rfl, by rw [hU]; exact hP.sub (ws' := [(m0, .inr (7, [.int (nI n), .ref g1, .ref g2, .ref g3, .int mr, .ref g4, .int my, .ref g5, .int mo, .ref g6, .int ml, .ref g7, .ref g8, .ref g9, .ref g10, .ref g11, .ref g12])), (g12, .inl (cI, 9, .inl th))]) [0, 1] rfl, hKN.warm hW⟩⟩ rfl rfl hl.1 rfl (lv_room (Nat.le_of_ble_eq_true rfl)) dX7_seenIn_16 ⟨Nat.le_of_ble_eq_true rfl, Nat.le_of_ble_eq_true rfl⟩) hS hP (fun r3 H locs w3r hP hS => ?_)
        have w3 : r3 = nI (cv / 3 ^ k % 3) := w3r
        clear w3r
        obtain rfl : r3 = nI (cv / 3 ^ k % 3) := w3
        refine lv_if_ne (tgt := 26) hx hb dX7_seenIn_19 (by decide) (fun c4 => ?_) (fun c4 => ?_)
        · skip
          have d4 := c4
          rw [nz_eq (by omega)] at d4
          refine lv_iconst (v := nI 1) hx hb dX7_seenIn_26 (by decide) ?_
          refine lv_iadd hx hb dX7_seenIn_27 ?_
          refine cn_i (y := nI (v + 1)) (nI_add v 1) ?_
          refine lv_istore_n (lv' := [(2, .int (nI (v + 1))), (3, .int (nI k)), (0, .ref m0), (1, .int (nI cv))]) hx hb dX7_seenIn_28 rfl hl (by decide) rfl (fun ls hl => ?_)
          refine lv_iinc (v := nI (k + 1)) (lv' := [(3, .int (nI (k + 1))), (2, .int (nI (v + 1))), (0, .ref m0), (1, .int (nI cv))]) hx hb dX7_seenIn_29 hl (k := 1) rfl (nI_1 k) (by decide) rfl (fun ls hl => ?_)
          refine lv_goto (tgt := 4) hx hb dX7_seenIn_32 (by decide) ?_
          exact ih1 (k + 1) (v + 1) _ _ _ (by omega) (by rw [hv]; simp only [seenN]; first | rw [if_pos (by omega)] | rw [if_neg (by omega)]) hP hS (lv_sub hl [0, 1, 2, 3] rfl)
        · skip
          have d4 := c4
          rw [nz_eq (by omega)] at d4
          refine lv_iconst (v := nI 0) hx hb dX7_seenIn_22 (by decide) ?_
          refine lv_goto (tgt := 27) hx hb dX7_seenIn_23 (by decide) ?_
          refine lv_iadd hx hb dX7_seenIn_27 ?_
          refine cn_i (y := nI (v + 0)) (nI_add v 0) ?_
          refine lv_istore_n (lv' := [(2, .int (nI (v + 0))), (3, .int (nI k)), (0, .ref m0), (1, .int (nI cv))]) hx hb dX7_seenIn_28 rfl hl (by decide) rfl (fun ls hl => ?_)
          refine lv_iinc (v := nI (k + 1)) (lv' := [(3, .int (nI (k + 1))), (2, .int (nI (v + 0))), (0, .ref m0), (1, .int (nI cv))]) hx hb dX7_seenIn_29 hl (k := 1) rfl (nI_1 k) (by decide) rfl (fun ls hl => ?_)
          refine lv_goto (tgt := 4) hx hb dX7_seenIn_32 (by decide) ?_
          exact ih1 (k + 1) (v + 0) _ _ _ (by omega) (by rw [hv]; simp only [seenN]; first | rw [if_pos (by omega)] | rw [if_neg (by omega)]) hP hS (lv_sub hl [0, 1, 2, 3] rfl)
  exact loop1 (n + 1) 0 0 _ _ _ (by omega) rfl hP hS (lv_sub hl [0, 1, 2, 3] rfl)
def rm_c_X7_plans : Room := { frames := 4, cells := 0, slots := 0, locals := 96 }
set_option maxHeartbeats 400000 in
set_option maxRecDepth 100000 in
theorem c_X7_plans (l : Launch) (D : va_G) (cI cJ cZ : ClassId) (m0 : Nat) (g1 : Nat) (g2 : Nat) (g3 : Nat) (g4 : Nat) (g5 : Nat) (g6 : Nat) (g7 : Nat) (g8 : Nat) (g9 : Nat) (g10 : Nat) (g11 : Nat) (g12 : Nat) (n : Nat) (y : Nat) (mr : Int32) (mo : Int32) (ml : Int32) (fg : Nat → Int32) (fb : Nat → Int32) (fp : Nat → Int32) (fs : Nat → Int32) (th : Nat → Int32) (eb : Nat → Int64) (en : Nat → Int32) (ew : Nat → Int32) (ex : Nat → Int32) (hn : n ≤ 9) (h1n : 1 ≤ n) (hy : y < 40) (hth : ∀ z, z < 9 → th z = nI (3 ^ z)) (h01 : T01 fs) : Met l yX7_plans wsX7_plans rm_c_X7_plans (pm_ D cI cJ cZ [.ref m0] [(m0, .inr (7, [.int (nI n), .ref g1, .ref g2, .ref g3, .int mr, .ref g4, .int (nI y), .ref g5, .int mo, .ref g6, .int ml, .ref g7, .ref g8, .ref g9, .ref g10, .ref g11, .ref g12])), (g1, .inl (cI, 9, .inl fg)), (g2, .inl (cI, 9, .inl fb)), (g3, .inl (cI, 9, .inl fp)), (g4, .inl (cZ, 20480, .inl fs)), (g12, .inl (cI, 9, .inl th)), (g8, .inl (cJ, 19683, .inr (.inl eb))), (g9, .inl (cI, 19683, .inl en)), (g10, .inl (cI, 19683, .inl ew)), (g11, .inl (cI, 19683, .inl ex))]) (va_Qv (fun (u : (Nat → Int64) × (Nat → Int32) × (Nat → Int32) × (Nat → Int32)) => ∀ z, z < 3 ^ n → VV fs y n u.2.1 u.2.2.2 z) (fun (u : (Nat → Int64) × (Nat → Int32) × (Nat → Int32) × (Nat → Int32)) tS => va_P D vwCl [(m0, .inr (7, [.int (nI n), .ref g1, .ref g2, .ref g3, .int mr, .ref g4, .int (nI y), .ref g5, .int mo, .ref g6, .int ml, .ref g7, .ref g8, .ref g9, .ref g10, .ref g11, .ref g12])), (g1, .inl (cI, 9, .inl fg)), (g2, .inl (cI, 9, .inl fb)), (g3, .inl (cI, 9, .inl fp)), (g4, .inl (cZ, 20480, .inl fs)), (g12, .inl (cI, 9, .inl th)), (g8, .inl (cJ, 19683, .inr (.inl u.1))), (g9, .inl (cI, 19683, .inl u.2.1)), (g10, .inl (cI, 19683, .inl u.2.2.1)), (g11, .inl (cI, 19683, .inl u.2.2.2))] tS.heap) (aA [m0, g1, g2, g3, g4, g12, g8, g9, g10, g11])) 0 0 (aA [m0, g1, g2, g3, g4, g12, g8, g9, g10, g11]) := by
  refine Met.ofW (cc := cX7_plans) (maxL := 4) (ret := none) (by decide) rfl ?_
  intro p e s m args below meth c s₁ B hml hv
  obtain ⟨rfl, hP, hKN, hD0⟩ := hv
  have hK := hKN.1
  have hx := B.exec
  have hb := B.bytes
  have hr := B.returns
  have hts := atoms_spec (ws := wsX7_plans) B.pre
  have hown : s.vm.findClass RX7 = some m.cls := findClass_of_methodNamed B.named
  have hlocks := B.notSynchronized
  have hiX7 : ∀ w ∈ wsX70, w ∈ wsX7_plans := by decide +kernel
  have hf7 := hts (.fieldLink RX7 7 "LookBenchModel" "parts" "I") (by decide +kernel)
  have hf52 := hts (.fieldLink RX7 52 "LookBenchModel" "three" "[I") (by decide +kernel)
  obtain ⟨as, has⟩ : ∃ z : List Nat, z = [m0, g1, g2, g3, g4, g12, g8, g9, g10, g11] := ⟨_, rfl⟩
  have hD := hD0.addr (as := as) (by rw [has]; rfl)
  have hS : va_S (aA as) s.heap s.heap [] := va_S.rf
  have hl := lv_entry ([.ref m0]) (n := 4) (Nat.le_of_ble_eq_true rfl)
  rw [lg_entry_eq]
  generalize (lg_sl ([.ref m0]) ++ List.replicate (4 - (lg_sl ([.ref m0])).length) Slot.unset).toArray = ls at hl ⊢
  have hl : lv_has ls 4 [(0, .ref m0)] := hl
  generalize hQ : MQ below _ _ s _ _ _ = Q
  obtain ⟨H, hH⟩ : ∃ z, z = s.heap := ⟨_, rfl⟩
  have hP : va_P D vwCl [(m0, .inr (7, [.int (nI n), .ref g1, .ref g2, .ref g3, .int mr, .ref g4, .int (nI y), .ref g5, .int mo, .ref g6, .int ml, .ref g7, .ref g8, .ref g9, .ref g10, .ref g11, .ref g12])), (g1, .inl (cI, 9, .inl fg)), (g2, .inl (cI, 9, .inl fb)), (g3, .inl (cI, 9, .inl fp)), (g4, .inl (cZ, 20480, .inl fs)), (g12, .inl (cI, 9, .inl th)), (g8, .inl (cJ, 19683, .inr (.inl eb))), (g9, .inl (cI, 19683, .inl en)), (g10, .inl (cI, 19683, .inl ew)), (g11, .inl (cI, 19683, .inl ex))] H := by rw [hH]; exact hP
  have hS : va_S (aA as) s.heap H [] := by rw [hH]; exact hS
  refine m_heap hH ?_
  clear hH
  have h3n := m_p3 hn
  refine lv_aload_n hx hb dX7_plans_0 rfl (lv_at hl 0 rfl) ?_
  refine va_get (D := D) (ci := 7) (v := .int (nI n)) (C := RX7) (T := TX7) (N := 17) hx hb hts hiX7 hown hK hP 0 rfl rfl 0 (by decide) hf7 (fun _ h9 => h9) rfl dX7_plans_1 ?_
  refine lv_bipush (v := nI 9) hx hb dX7_plans_4 (by decide) ?_
  refine lv_icmp_ne (tgt := 15) hx hb dX7_plans_6 (by decide) (fun c1 => ?_) (fun c1 => ?_)
  · skip
    have d1 := c1
    rw [nI_eq (by omega) (by omega)] at d1
    refine lv_aload_n hx hb dX7_plans_15 rfl (lv_at hl 0 rfl) ?_
    refine va_get (D := D) (ci := 7) (v := .ref g12) (C := RX7) (T := TX7) (N := 17) hx hb hts hiX7 hown hK hP 0 rfl rfl 16 (by decide) hf52 (fun _ h9 => h9) rfl dX7_plans_16 ?_
    refine lv_aload_n hx hb dX7_plans_19 rfl (lv_at hl 0 rfl) ?_
    refine va_get (D := D) (ci := 7) (v := .int (nI n)) (C := RX7) (T := TX7) (N := 17) hx hb hts hiX7 hown hK hP 0 rfl rfl 0 (by decide) hf7 (fun _ h9 => h9) rfl dX7_plans_20 ?_
    refine va_iald hx hb hK hP 5 0 rfl rfl (i := nI n) (vp_in_nI (by omega) (by omega)) dX7_plans_23 ?_
    refine cn_i (y := nI (3 ^ n)) ((congrArg th (nI_clamp (by omega))).trans (hth n (by omega))) ?_
    refine lv_istore_n (lv' := [(1, .int (nI (3 ^ n))), (0, .ref m0)]) hx hb dX7_plans_24 rfl hl (by decide) rfl (fun ls hl => ?_)
    refine lv_aload_n hx hb dX7_plans_25 rfl (lv_at hl 1 rfl) ?_
    refine va_get (D := D) (ci := 7) (v := .int (nI n)) (C := RX7) (T := TX7) (N := 17) hx hb hts hiX7 hown hK hP 0 rfl rfl 0 (by decide) hf7 (fun _ h9 => h9) rfl dX7_plans_26 ?_
    refine lv_istore_n (lv' := [(2, .int (nI n)), (1, .int (nI (3 ^ n))), (0, .ref m0)]) hx hb dX7_plans_29 rfl hl (by decide) rfl (fun ls hl => ?_)
    have loop2 : ∀ (fu : Nat) (lv : Int32) (al : Nat) (ub : Nat → Int64) (un : Nat → Int32) (uw : Nat → Int32) (ux : Nat → Int32) (H : Heap) (locs : List Loc) (ls : Array Slot), (lv.toInt + 2 ≤ fu ∧ -1 ≤ lv.toInt) → (al = 3 ^ n) → ((∃ M, lv = nI M ∧ M ≤ n ∧ ∀ z, z < 3 ^ n → M < seenN z n → VV fs y n un ux z) ∨ (lv = -1 ∧ ∀ z, z < 3 ^ n → VV fs y n un ux z)) → va_P D vwCl [(m0, .inr (7, [.int (nI n), .ref g1, .ref g2, .ref g3, .int mr, .ref g4, .int (nI y), .ref g5, .int mo, .ref g6, .int ml, .ref g7, .ref g8, .ref g9, .ref g10, .ref g11, .ref g12])), (g1, .inl (cI, 9, .inl fg)), (g2, .inl (cI, 9, .inl fb)), (g3, .inl (cI, 9, .inl fp)), (g4, .inl (cZ, 20480, .inl fs)), (g12, .inl (cI, 9, .inl th)), (g8, .inl (cJ, 19683, .inr (.inl ub))), (g9, .inl (cI, 19683, .inl un)), (g10, .inl (cI, 19683, .inl uw)), (g11, .inl (cI, 19683, .inl ux))] H → va_D (aA as) [(m0, .inr (7, [.int (nI n), .ref g1, .ref g2, .ref g3, .int mr, .ref g4, .int (nI y), .ref g5, .int mo, .ref g6, .int ml, .ref g7, .ref g8, .ref g9, .ref g10, .ref g11, .ref g12])), (g1, .inl (cI, 9, .inl fg)), (g2, .inl (cI, 9, .inl fb)), (g3, .inl (cI, 9, .inl fp)), (g4, .inl (cZ, 20480, .inl fs)), (g12, .inl (cI, 9, .inl th)), (g8, .inl (cJ, 19683, .inr (.inl ub))), (g9, .inl (cI, 19683, .inl un)), (g10, .inl (cI, 19683, .inl uw)), (g11, .inl (cI, 19683, .inl ux))] → va_S (aA as) s.heap H locs → lv_has ls 4 [(2, .int lv), (1, .int (nI al)), (0, .ref m0)] → W p l e (headSpec wsX7_plans rm_c_X7_plans).room s m ([.ref m0] : List Value).toArray below meth c H locs 0 0 Q (F0 m 30 ls []) := by
      intro fu
      induction fu with
      | zero => intro lv al ub un uw ux H locs ls hm0 hal hm; exact absurd hm0 (by omega)
      | succ fu ih2 =>
        intro lv al ub un uw ux H locs ls hm0 hal hm hP hD hS hl
        rcases hm with ⟨M, rfl, hM, hdn⟩ | ⟨rfl, hdn⟩
        · skip
          refine lv_iload_n hx hb dX7_plans_30 rfl (lv_at hl 0 rfl) ?_
          refine lv_if_lt (tgt := 67) hx hb dX7_plans_31 (by decide) (fun c3 => ?_) (fun c3 => ?_)
          · exact absurd c3 (by first | decide | exact nz_lt (by omega) | exact fun h => h (nz_ge (by omega)))
          · skip
            refine lv_iconst (v := nI 0) hx hb dX7_plans_34 (by decide) ?_
            refine lv_istore_n (lv' := [(3, .int (nI 0)), (2, .int (nI M)), (1, .int (nI al)), (0, .ref m0)]) hx hb dX7_plans_35 rfl hl (by decide) rfl (fun ls hl => ?_)
            have loop4 : ∀ (fu : Nat) (k : Nat) (vb : Nat → Int64) (vn : Nat → Int32) (vw : Nat → Int32) (vx : Nat → Int32) (H : Heap) (locs : List Loc) (ls : Array Slot), (k ≤ al ∧ al < k + fu) → (∀ z, z < 3 ^ n → (M < seenN z n ∨ (seenN z n = M ∧ z < k)) → VV fs y n vn vx z) → va_P D vwCl [(m0, .inr (7, [.int (nI n), .ref g1, .ref g2, .ref g3, .int mr, .ref g4, .int (nI y), .ref g5, .int mo, .ref g6, .int ml, .ref g7, .ref g8, .ref g9, .ref g10, .ref g11, .ref g12])), (g1, .inl (cI, 9, .inl fg)), (g2, .inl (cI, 9, .inl fb)), (g3, .inl (cI, 9, .inl fp)), (g4, .inl (cZ, 20480, .inl fs)), (g12, .inl (cI, 9, .inl th)), (g8, .inl (cJ, 19683, .inr (.inl vb))), (g9, .inl (cI, 19683, .inl vn)), (g10, .inl (cI, 19683, .inl vw)), (g11, .inl (cI, 19683, .inl vx))] H → va_D (aA as) [(m0, .inr (7, [.int (nI n), .ref g1, .ref g2, .ref g3, .int mr, .ref g4, .int (nI y), .ref g5, .int mo, .ref g6, .int ml, .ref g7, .ref g8, .ref g9, .ref g10, .ref g11, .ref g12])), (g1, .inl (cI, 9, .inl fg)), (g2, .inl (cI, 9, .inl fb)), (g3, .inl (cI, 9, .inl fp)), (g4, .inl (cZ, 20480, .inl fs)), (g12, .inl (cI, 9, .inl th)), (g8, .inl (cJ, 19683, .inr (.inl vb))), (g9, .inl (cI, 19683, .inl vn)), (g10, .inl (cI, 19683, .inl vw)), (g11, .inl (cI, 19683, .inl vx))] → va_S (aA as) s.heap H locs → lv_has ls 4 [(3, .int (nI k)), (2, .int (nI M)), (1, .int (nI al)), (0, .ref m0)] → W p l e (headSpec wsX7_plans rm_c_X7_plans).room s m ([.ref m0] : List Value).toArray below meth c H locs 0 0 Q (F0 m 36 ls []) := by
              intro fu
              induction fu with
              | zero => intro k vb vn vw vx H locs ls hk hd; exact absurd hk (by omega)
              | succ fu ih4 =>
                intro k vb vn vw vx H locs ls hk hd hP hD hS hl
                refine lv_iload_n hx hb dX7_plans_36 rfl (lv_at hl 0 rfl) ?_
                refine lv_iload_n hx hb dX7_plans_37 rfl (lv_at hl 2 rfl) ?_
                refine lv_icmp_ge (tgt := 61) hx hb dX7_plans_38 (by decide) (fun c5 => ?_) (fun c5 => ?_)
                · skip
                  have d5 := c5
                  rw [nI_leI (by omega) (by omega)] at d5
                  have hdn2 : ∀ z, z < 3 ^ n → M ≤ seenN z n → VV fs y n vn vx z := fun z hz h9 => hd z hz (by omega)
                  rcases Nat.eq_zero_or_pos M with rfl | hM0
                  · skip
                    refine lv_iinc (v := (-1 : Int32)) (lv' := [(2, .int (-1 : Int32)), (3, .int (nI k)), (1, .int (nI al)), (0, .ref m0)]) hx hb dX7_plans_61 hl (k := 1) rfl (by decide) (by decide) rfl (fun ls hl => ?_)
                    refine lv_goto (tgt := 30) hx hb dX7_plans_64 (by decide) ?_
                    exact ih2 (-1 : Int32) al vb vn vw vx _ _ _ (by first | (rw [nI_toInt (by omega)] at hm0; rw [nI_toInt (by omega)]; omega) | (rw [nI_toInt (by omega)] at hm0; rw [show ((-1 : Int32)).toInt = -1 by decide]; omega)) hal (by first | exact Or.inl ⟨0 - 1, rfl, by omega, fun z hz h9 => hdn2 z hz (by have := seenN_le z n; omega)⟩ | exact Or.inr ⟨rfl, fun z hz => hdn2 z hz (by omega)⟩) hP hD hS (lv_sub hl [0, 2, 3] rfl)
                  · skip
                    refine lv_iinc (v := nI (M - 1)) (lv' := [(2, .int (nI (M - 1))), (3, .int (nI k)), (1, .int (nI al)), (0, .ref m0)]) hx hb dX7_plans_61 hl (k := 1) rfl (sb_m1 (by omega)) (by decide) rfl (fun ls hl => ?_)
                    refine lv_goto (tgt := 30) hx hb dX7_plans_64 (by decide) ?_
                    exact ih2 (nI (M - 1)) al vb vn vw vx _ _ _ (by first | (rw [nI_toInt (by omega)] at hm0; rw [nI_toInt (by omega)]; omega) | (rw [nI_toInt (by omega)] at hm0; rw [show ((-1 : Int32)).toInt = -1 by decide]; omega)) hal (by first | exact Or.inl ⟨M - 1, rfl, by omega, fun z hz h9 => hdn2 z hz (by have := seenN_le z n; omega)⟩ | exact Or.inr ⟨rfl, fun z hz => hdn2 z hz (by omega)⟩) hP hD hS (lv_sub hl [0, 2, 3] rfl)
                · skip
                  have d5 := c5
                  rw [nI_leI (by omega) (by omega)] at d5
                  refine lv_aload_n hx hb dX7_plans_41 rfl (lv_at hl 3 rfl) ?_
                  have hsl := seenN_le k n
                  refine lv_iload_n hx hb dX7_plans_42 rfl (lv_at hl 0 rfl) ?_
                  refine pu_i (va_runV (As := [.int (nI k)]) (rest := []) ⟨hx, hb, hml, hown, hts⟩ (c_X7_seenIn_h l D cI cJ cZ m0 g1 g2 g3 g4 g5 g6 g7 g8 g9 g10 g11 g12 n k mr (nI y) mo ml th (by first | assumption | omega) (by first | assumption | omega) (by first | assumption | omega)) (cwV 1 hts gX7_plans_X7_seenIn rfl rfl rfl (by decide +kernel) ⟨Nat.le_of_ble_eq_true rfl, Nat.le_of_ble_eq_true rfl⟩) ⟨pc_blind, va_recv hK hP (ci := 7) (q0 := 0) rfl rfl, fun U hU hW => ⟨rfl, by rw [hU]; exact hP.sub (ws' := [(m0, .inr (7, [.int (nI n), .ref g1, .ref g2, .ref g3, .int mr, .ref g4, .int (nI y), .ref g5, .int mo, .ref g6, .int ml, .ref g7, .ref g8, .ref g9, .ref g10, .ref g11, .ref g12])), (g12, .inl (cI, 9, .inl th))]) [0, 5] rfl, hKN.warm hW⟩⟩ rfl rfl hl.1 rfl (lv_room (Nat.le_of_ble_eq_true rfl)) dX7_plans_43 ⟨Nat.le_of_ble_eq_true rfl, Nat.le_of_ble_eq_true rfl⟩) hS hP (fun r6 H locs w6r hP hS => ?_)
                  have w6 : r6 = nI (seenN k n) := w6r
                  clear w6r
                  obtain rfl : r6 = nI (seenN k n) := w6
                  refine lv_iload_n hx hb dX7_plans_46 rfl (lv_at hl 1 rfl) ?_
                  refine lv_icmp_ne (tgt := 55) hx hb dX7_plans_47 (by decide) (fun c7 => ?_) (fun c7 => ?_)
                  · skip
                    have d7 := c7
                    rw [nI_eq (by omega) (by omega)] at d7
                    refine lv_iinc (v := nI (k + 1)) (lv' := [(3, .int (nI (k + 1))), (2, .int (nI M)), (1, .int (nI al)), (0, .ref m0)]) hx hb dX7_plans_55 hl (k := 0) rfl (nI_1 k) (by decide) rfl (fun ls hl => ?_)
                    refine lv_goto (tgt := 36) hx hb dX7_plans_58 (by decide) ?_
                    exact ih4 (k + 1) vb vn vw vx _ _ _ (by omega) (fun z hz h9 => by first | (by_cases e9 : z = k; exact (by subst e9; exact w6.2); exact vv_keep w6.1 e9 (hd z hz (by omega))) | (by_cases e9 : z = k; exact (by subst e9; exact hd z hz (by omega)); exact hd z hz (by omega))) hP hD hS (lv_sub hl [0, 1, 2, 3] rfl)
                  · skip
                    have d7 := c7
                    rw [nI_eq (by omega) (by omega)] at d7
                    refine lv_aload_n hx hb dX7_plans_50 rfl (lv_at hl 3 rfl) ?_
                    refine lv_iload_n hx hb dX7_plans_51 rfl (lv_at hl 0 rfl) ?_
                    refine mu2_v (n := 10) (wc := [(m0, .inr (7, [.int (nI n), .ref g1, .ref g2, .ref g3, .int mr, .ref g4, .int (nI y), .ref g5, .int mo, .ref g6, .int ml, .ref g7, .ref g8, .ref g9, .ref g10, .ref g11, .ref g12])), (g1, .inl (cI, 9, .inl fg)), (g2, .inl (cI, 9, .inl fb)), (g3, .inl (cI, 9, .inl fp)), (g4, .inl (cZ, 20480, .inl fs)), (g12, .inl (cI, 9, .inl th)), (g8, .inl (cJ, 19683, .inr (.inl vb))), (g9, .inl (cI, 19683, .inl vn)), (g10, .inl (cI, 19683, .inl vw)), (g11, .inl (cI, 19683, .inl vx))]) (wr := []) (as0 := [m0, g1, g2, g3, g4, g12, g8, g9, g10, g11]) (va_runV (As := [.int (nI k)]) (rest := []) ⟨hx, hb, hml, hown, hts⟩ (c_X7_plan l D cI cJ cZ m0 g1 g2 g3 g4 g5 g6 g7 g8 g9 g10 g11 g12 n k y mr mo ml fg fb fp fs th vb vn vw vx (by first | assumption | omega) (by first | assumption | omega) (by first | assumption | omega) (by first | assumption | omega) (by first | assumption | omega)) (cwV 1 hts gX7_plans_X7_plan rfl rfl rfl (by decide +kernel) ⟨Nat.le_of_ble_eq_true rfl, Nat.le_of_ble_eq_true rfl⟩) ⟨pm_blind, va_recv hK hP (ci := 7) (q0 := 0) rfl rfl, fun U hU hW => ⟨rfl, by rw [hU]; exact hP.sub (ws' := [(m0, .inr (7, [.int (nI n), .ref g1, .ref g2, .ref g3, .int mr, .ref g4, .int (nI y), .ref g5, .int mo, .ref g6, .int ml, .ref g7, .ref g8, .ref g9, .ref g10, .ref g11, .ref g12])), (g1, .inl (cI, 9, .inl fg)), (g2, .inl (cI, 9, .inl fb)), (g3, .inl (cI, 9, .inl fp)), (g4, .inl (cZ, 20480, .inl fs)), (g12, .inl (cI, 9, .inl th)), (g8, .inl (cJ, 19683, .inr (.inl vb))), (g9, .inl (cI, 19683, .inl vn)), (g10, .inl (cI, 19683, .inl vw)), (g11, .inl (cI, 19683, .inl vx))]) [0, 1, 2, 3, 4, 5, 6, 7, 8, 9] rfl, hKN.warm hW, (hD.sub (ws' := [(m0, .inr (7, [.int (nI n), .ref g1, .ref g2, .ref g3, .int mr, .ref g4, .int (nI y), .ref g5, .int mo, .ref g6, .int ml, .ref g7, .ref g8, .ref g9, .ref g10, .ref g11, .ref g12])), (g1, .inl (cI, 9, .inl fg)), (g2, .inl (cI, 9, .inl fb)), (g3, .inl (cI, 9, .inl fp)), (g4, .inl (cZ, 20480, .inl fs)), (g12, .inl (cI, 9, .inl th)), (g8, .inl (cJ, 19683, .inr (.inl vb))), (g9, .inl (cI, 19683, .inl vn)), (g10, .inl (cI, 19683, .inl vw)), (g11, .inl (cI, 19683, .inl vx))]) [0, 1, 2, 3, 4, 5, 6, 7, 8, 9] (by decide) rfl).weaken (fun _ _ _ _ => trivial)⟩⟩ rfl rfl hl.1 rfl (lv_room (Nat.le_of_ble_eq_true rfl)) dX7_plans_52 ⟨Nat.le_of_ble_eq_true rfl, Nat.le_of_ble_eq_true rfl⟩) hS hP hD (fun (u : (Nat → Int64) × (Nat → Int32) × (Nat → Int32) × (Nat → Int32)) => [(m0, .inr (7, [.int (nI n), .ref g1, .ref g2, .ref g3, .int mr, .ref g4, .int (nI y), .ref g5, .int mo, .ref g6, .int ml, .ref g7, .ref g8, .ref g9, .ref g10, .ref g11, .ref g12])), (g1, .inl (cI, 9, .inl fg)), (g2, .inl (cI, 9, .inl fb)), (g3, .inl (cI, 9, .inl fp)), (g4, .inl (cZ, 20480, .inl fs)), (g12, .inl (cI, 9, .inl th)), (g8, .inl (cJ, 19683, .inr (.inl u.1))), (g9, .inl (cI, 19683, .inl u.2.1)), (g10, .inl (cI, 19683, .inl u.2.2.1)), (g11, .inl (cI, 19683, .inl u.2.2.2))]) [0, 1, 2, 3, 4, 5, 6, 7, 8, 9] [] rfl rfl rfl (fun _ => rfl) (fun _ => rfl) rfl (fun _ => rfl) (fun _ => rfl) (m_cov rfl) (m_dis rfl) (fun u8 H locs w8r hP hD hS => ?_)
                    obtain ⟨u8_ub, u8_un, u8_uw, u8_ux⟩ := u8
                    have hP : va_P D vwCl [(m0, .inr (7, [.int (nI n), .ref g1, .ref g2, .ref g3, .int mr, .ref g4, .int (nI y), .ref g5, .int mo, .ref g6, .int ml, .ref g7, .ref g8, .ref g9, .ref g10, .ref g11, .ref g12])), (g1, .inl (cI, 9, .inl fg)), (g2, .inl (cI, 9, .inl fb)), (g3, .inl (cI, 9, .inl fp)), (g4, .inl (cZ, 20480, .inl fs)), (g12, .inl (cI, 9, .inl th)), (g8, .inl (cJ, 19683, .inr (.inl u8_ub))), (g9, .inl (cI, 19683, .inl u8_un)), (g10, .inl (cI, 19683, .inl u8_uw)), (g11, .inl (cI, 19683, .inl u8_ux))] H := hP
                    have hD : va_D (aA as) [(m0, .inr (7, [.int (nI n), .ref g1, .ref g2, .ref g3, .int mr, .ref g4, .int (nI y), .ref g5, .int mo, .ref g6, .int ml, .ref g7, .ref g8, .ref g9, .ref g10, .ref g11, .ref g12])), (g1, .inl (cI, 9, .inl fg)), (g2, .inl (cI, 9, .inl fb)), (g3, .inl (cI, 9, .inl fp)), (g4, .inl (cZ, 20480, .inl fs)), (g12, .inl (cI, 9, .inl th)), (g8, .inl (cJ, 19683, .inr (.inl u8_ub))), (g9, .inl (cI, 19683, .inl u8_un)), (g10, .inl (cI, 19683, .inl u8_uw)), (g11, .inl (cI, 19683, .inl u8_ux))] := hD
                    have w8 : (∀ z, ¬ z = k → u8_un z = vn z ∧ u8_ux z = vx z) ∧ ((¬ Sg fs y (setN k 1 n) ∧ Sg fs y (2 ^ n - 1 - setN k 2 n)) → PV n k u8_un ∧ PV n k u8_ux) := w8r
                    clear w8r
                    refine lv_iinc (v := nI (k + 1)) (lv' := [(3, .int (nI (k + 1))), (2, .int (nI M)), (1, .int (nI al)), (0, .ref m0)]) hx hb dX7_plans_55 hl (k := 0) rfl (nI_1 k) (by decide) rfl (fun ls hl => ?_)
                    refine lv_goto (tgt := 36) hx hb dX7_plans_58 (by decide) ?_
                    exact ih4 (k + 1) u8_ub u8_un u8_uw u8_ux _ _ _ (by omega) (fun z hz h9 => by first | (by_cases e9 : z = k; exact (by subst e9; exact w8.2); exact vv_keep w8.1 e9 (hd z hz (by omega))) | (by_cases e9 : z = k; exact (by subst e9; exact hd z hz (by omega)); exact hd z hz (by omega))) hP hD hS (lv_sub hl [0, 1, 2, 3] rfl)
            exact loop4 (al + 1) 0 ub un uw ux _ _ _ (by omega) (fun z hz h9 => hdn z hz (by omega)) hP hD hS (lv_sub hl [0, 1, 2, 3] rfl)
        · skip
          refine lv_iload_n hx hb dX7_plans_30 rfl (lv_at hl 0 rfl) ?_
          refine lv_if_lt (tgt := 67) hx hb dX7_plans_31 (by decide) (fun c9 => ?_) (fun c9 => ?_)
          · skip
            rw [← hQ]
            exact W.vret hx hb hr (fun tS htS hWS => ⟨⟨(ub, un, uw, ux), rfl, by assumption, m_at htS hP⟩, by rw [← has]; exact hS.F htS⟩) (by rw [← has]; exact hS.2.2) dX7_plans_67
          · exact absurd c9 (by first | decide | exact nz_lt (by omega) | exact fun h => h (nz_ge (by omega)))
    exact loop2 (n + 2) (nI n) (3 ^ n) eb en ew ex _ _ _ (by rw [nI_toInt (by omega)]; omega) (by first | rfl | (have e9 : n = 9 := (by omega); subst e9; rfl)) (Or.inl ⟨n, rfl, by omega, fun z hz h9 => absurd h9 (by have := seenN_le z n; omega)⟩) hP hD hS (lv_sub hl [0, 1, 2] rfl)
  · skip
    have d1 := c1
    rw [nI_eq (by omega) (by omega)] at d1
    refine lv_sipush (v := nI 19683) hx hb dX7_plans_9 (by decide) ?_
    refine lv_goto (tgt := 24) hx hb dX7_plans_12 (by decide) ?_
    refine lv_istore_n (lv' := [(1, .int (nI 19683)), (0, .ref m0)]) hx hb dX7_plans_24 rfl hl (by decide) rfl (fun ls hl => ?_)
    refine lv_aload_n hx hb dX7_plans_25 rfl (lv_at hl 1 rfl) ?_
    refine va_get (D := D) (ci := 7) (v := .int (nI n)) (C := RX7) (T := TX7) (N := 17) hx hb hts hiX7 hown hK hP 0 rfl rfl 0 (by decide) hf7 (fun _ h9 => h9) rfl dX7_plans_26 ?_
    refine lv_istore_n (lv' := [(2, .int (nI n)), (1, .int (nI 19683)), (0, .ref m0)]) hx hb dX7_plans_29 rfl hl (by decide) rfl (fun ls hl => ?_)
    have loop10 : ∀ (fu : Nat) (lv : Int32) (al : Nat) (ub : Nat → Int64) (un : Nat → Int32) (uw : Nat → Int32) (ux : Nat → Int32) (H : Heap) (locs : List Loc) (ls : Array Slot), (lv.toInt + 2 ≤ fu ∧ -1 ≤ lv.toInt) → (al = 3 ^ n) → ((∃ M, lv = nI M ∧ M ≤ n ∧ ∀ z, z < 3 ^ n → M < seenN z n → VV fs y n un ux z) ∨ (lv = -1 ∧ ∀ z, z < 3 ^ n → VV fs y n un ux z)) → va_P D vwCl [(m0, .inr (7, [.int (nI n), .ref g1, .ref g2, .ref g3, .int mr, .ref g4, .int (nI y), .ref g5, .int mo, .ref g6, .int ml, .ref g7, .ref g8, .ref g9, .ref g10, .ref g11, .ref g12])), (g1, .inl (cI, 9, .inl fg)), (g2, .inl (cI, 9, .inl fb)), (g3, .inl (cI, 9, .inl fp)), (g4, .inl (cZ, 20480, .inl fs)), (g12, .inl (cI, 9, .inl th)), (g8, .inl (cJ, 19683, .inr (.inl ub))), (g9, .inl (cI, 19683, .inl un)), (g10, .inl (cI, 19683, .inl uw)), (g11, .inl (cI, 19683, .inl ux))] H → va_D (aA as) [(m0, .inr (7, [.int (nI n), .ref g1, .ref g2, .ref g3, .int mr, .ref g4, .int (nI y), .ref g5, .int mo, .ref g6, .int ml, .ref g7, .ref g8, .ref g9, .ref g10, .ref g11, .ref g12])), (g1, .inl (cI, 9, .inl fg)), (g2, .inl (cI, 9, .inl fb)), (g3, .inl (cI, 9, .inl fp)), (g4, .inl (cZ, 20480, .inl fs)), (g12, .inl (cI, 9, .inl th)), (g8, .inl (cJ, 19683, .inr (.inl ub))), (g9, .inl (cI, 19683, .inl un)), (g10, .inl (cI, 19683, .inl uw)), (g11, .inl (cI, 19683, .inl ux))] → va_S (aA as) s.heap H locs → lv_has ls 4 [(2, .int lv), (1, .int (nI al)), (0, .ref m0)] → W p l e (headSpec wsX7_plans rm_c_X7_plans).room s m ([.ref m0] : List Value).toArray below meth c H locs 0 0 Q (F0 m 30 ls []) := by
      intro fu
      induction fu with
      | zero => intro lv al ub un uw ux H locs ls hm0 hal hm; exact absurd hm0 (by omega)
      | succ fu ih10 =>
        intro lv al ub un uw ux H locs ls hm0 hal hm hP hD hS hl
        rcases hm with ⟨M, rfl, hM, hdn⟩ | ⟨rfl, hdn⟩
        · skip
          refine lv_iload_n hx hb dX7_plans_30 rfl (lv_at hl 0 rfl) ?_
          refine lv_if_lt (tgt := 67) hx hb dX7_plans_31 (by decide) (fun c11 => ?_) (fun c11 => ?_)
          · exact absurd c11 (by first | decide | exact nz_lt (by omega) | exact fun h => h (nz_ge (by omega)))
          · skip
            refine lv_iconst (v := nI 0) hx hb dX7_plans_34 (by decide) ?_
            refine lv_istore_n (lv' := [(3, .int (nI 0)), (2, .int (nI M)), (1, .int (nI al)), (0, .ref m0)]) hx hb dX7_plans_35 rfl hl (by decide) rfl (fun ls hl => ?_)
            have loop12 : ∀ (fu : Nat) (k : Nat) (vb : Nat → Int64) (vn : Nat → Int32) (vw : Nat → Int32) (vx : Nat → Int32) (H : Heap) (locs : List Loc) (ls : Array Slot), (k ≤ al ∧ al < k + fu) → (∀ z, z < 3 ^ n → (M < seenN z n ∨ (seenN z n = M ∧ z < k)) → VV fs y n vn vx z) → va_P D vwCl [(m0, .inr (7, [.int (nI n), .ref g1, .ref g2, .ref g3, .int mr, .ref g4, .int (nI y), .ref g5, .int mo, .ref g6, .int ml, .ref g7, .ref g8, .ref g9, .ref g10, .ref g11, .ref g12])), (g1, .inl (cI, 9, .inl fg)), (g2, .inl (cI, 9, .inl fb)), (g3, .inl (cI, 9, .inl fp)), (g4, .inl (cZ, 20480, .inl fs)), (g12, .inl (cI, 9, .inl th)), (g8, .inl (cJ, 19683, .inr (.inl vb))), (g9, .inl (cI, 19683, .inl vn)), (g10, .inl (cI, 19683, .inl vw)), (g11, .inl (cI, 19683, .inl vx))] H → va_D (aA as) [(m0, .inr (7, [.int (nI n), .ref g1, .ref g2, .ref g3, .int mr, .ref g4, .int (nI y), .ref g5, .int mo, .ref g6, .int ml, .ref g7, .ref g8, .ref g9, .ref g10, .ref g11, .ref g12])), (g1, .inl (cI, 9, .inl fg)), (g2, .inl (cI, 9, .inl fb)), (g3, .inl (cI, 9, .inl fp)), (g4, .inl (cZ, 20480, .inl fs)), (g12, .inl (cI, 9, .inl th)), (g8, .inl (cJ, 19683, .inr (.inl vb))), (g9, .inl (cI, 19683, .inl vn)), (g10, .inl (cI, 19683, .inl vw)), (g11, .inl (cI, 19683, .inl vx))] → va_S (aA as) s.heap H locs → lv_has ls 4 [(3, .int (nI k)), (2, .int (nI M)), (1, .int (nI al)), (0, .ref m0)] → W p l e (headSpec wsX7_plans rm_c_X7_plans).room s m ([.ref m0] : List Value).toArray below meth c H locs 0 0 Q (F0 m 36 ls []) := by
              intro fu
              induction fu with
              | zero => intro k vb vn vw vx H locs ls hk hd; exact absurd hk (by omega)
              | succ fu ih12 =>
                intro k vb vn vw vx H locs ls hk hd hP hD hS hl
                refine lv_iload_n hx hb dX7_plans_36 rfl (lv_at hl 0 rfl) ?_
                refine lv_iload_n hx hb dX7_plans_37 rfl (lv_at hl 2 rfl) ?_
                refine lv_icmp_ge (tgt := 61) hx hb dX7_plans_38 (by decide) (fun c13 => ?_) (fun c13 => ?_)
                · skip
                  have d13 := c13
                  rw [nI_leI (by omega) (by omega)] at d13
                  have hdn2 : ∀ z, z < 3 ^ n → M ≤ seenN z n → VV fs y n vn vx z := fun z hz h9 => hd z hz (by omega)
                  rcases Nat.eq_zero_or_pos M with rfl | hM0
                  · skip
                    refine lv_iinc (v := (-1 : Int32)) (lv' := [(2, .int (-1 : Int32)), (3, .int (nI k)), (1, .int (nI al)), (0, .ref m0)]) hx hb dX7_plans_61 hl (k := 1) rfl (by decide) (by decide) rfl (fun ls hl => ?_)
                    refine lv_goto (tgt := 30) hx hb dX7_plans_64 (by decide) ?_
                    exact ih10 (-1 : Int32) al vb vn vw vx _ _ _ (by first | (rw [nI_toInt (by omega)] at hm0; rw [nI_toInt (by omega)]; omega) | (rw [nI_toInt (by omega)] at hm0; rw [show ((-1 : Int32)).toInt = -1 by decide]; omega)) hal (by first | exact Or.inl ⟨0 - 1, rfl, by omega, fun z hz h9 => hdn2 z hz (by have := seenN_le z n; omega)⟩ | exact Or.inr ⟨rfl, fun z hz => hdn2 z hz (by omega)⟩) hP hD hS (lv_sub hl [0, 2, 3] rfl)
                  · skip
                    refine lv_iinc (v := nI (M - 1)) (lv' := [(2, .int (nI (M - 1))), (3, .int (nI k)), (1, .int (nI al)), (0, .ref m0)]) hx hb dX7_plans_61 hl (k := 1) rfl (sb_m1 (by omega)) (by decide) rfl (fun ls hl => ?_)
                    refine lv_goto (tgt := 30) hx hb dX7_plans_64 (by decide) ?_
                    exact ih10 (nI (M - 1)) al vb vn vw vx _ _ _ (by first | (rw [nI_toInt (by omega)] at hm0; rw [nI_toInt (by omega)]; omega) | (rw [nI_toInt (by omega)] at hm0; rw [show ((-1 : Int32)).toInt = -1 by decide]; omega)) hal (by first | exact Or.inl ⟨M - 1, rfl, by omega, fun z hz h9 => hdn2 z hz (by have := seenN_le z n; omega)⟩ | exact Or.inr ⟨rfl, fun z hz => hdn2 z hz (by omega)⟩) hP hD hS (lv_sub hl [0, 2, 3] rfl)
                · skip
                  have d13 := c13
                  rw [nI_leI (by omega) (by omega)] at d13
                  refine lv_aload_n hx hb dX7_plans_41 rfl (lv_at hl 3 rfl) ?_
                  have hsl := seenN_le k n
                  refine lv_iload_n hx hb dX7_plans_42 rfl (lv_at hl 0 rfl) ?_
                  refine pu_i (va_runV (As := [.int (nI k)]) (rest := []) ⟨hx, hb, hml, hown, hts⟩ (c_X7_seenIn_h l D cI cJ cZ m0 g1 g2 g3 g4 g5 g6 g7 g8 g9 g10 g11 g12 n k mr (nI y) mo ml th (by first | assumption | omega) (by first | assumption | omega) (by first | assumption | omega)) (cwV 1 hts gX7_plans_X7_seenIn rfl rfl rfl (by decide +kernel) ⟨Nat.le_of_ble_eq_true rfl, Nat.le_of_ble_eq_true rfl⟩) ⟨pc_blind, va_recv hK hP (ci := 7) (q0 := 0) rfl rfl, fun U hU hW => ⟨rfl, by rw [hU]; exact hP.sub (ws' := [(m0, .inr (7, [.int (nI n), .ref g1, .ref g2, .ref g3, .int mr, .ref g4, .int (nI y), .ref g5, .int mo, .ref g6, .int ml, .ref g7, .ref g8, .ref g9, .ref g10, .ref g11, .ref g12])), (g12, .inl (cI, 9, .inl th))]) [0, 5] rfl, hKN.warm hW⟩⟩ rfl rfl hl.1 rfl (lv_room (Nat.le_of_ble_eq_true rfl)) dX7_plans_43 ⟨Nat.le_of_ble_eq_true rfl, Nat.le_of_ble_eq_true rfl⟩) hS hP (fun r14 H locs w14r hP hS => ?_)
                  have w14 : r14 = nI (seenN k n) := w14r
                  clear w14r
                  obtain rfl : r14 = nI (seenN k n) := w14
                  refine lv_iload_n hx hb dX7_plans_46 rfl (lv_at hl 1 rfl) ?_
                  refine lv_icmp_ne (tgt := 55) hx hb dX7_plans_47 (by decide) (fun c15 => ?_) (fun c15 => ?_)
                  · skip
                    have d15 := c15
                    rw [nI_eq (by omega) (by omega)] at d15
                    refine lv_iinc (v := nI (k + 1)) (lv' := [(3, .int (nI (k + 1))), (2, .int (nI M)), (1, .int (nI al)), (0, .ref m0)]) hx hb dX7_plans_55 hl (k := 0) rfl (nI_1 k) (by decide) rfl (fun ls hl => ?_)
                    refine lv_goto (tgt := 36) hx hb dX7_plans_58 (by decide) ?_
                    exact ih12 (k + 1) vb vn vw vx _ _ _ (by omega) (fun z hz h9 => by first | (by_cases e9 : z = k; exact (by subst e9; exact w14.2); exact vv_keep w14.1 e9 (hd z hz (by omega))) | (by_cases e9 : z = k; exact (by subst e9; exact hd z hz (by omega)); exact hd z hz (by omega))) hP hD hS (lv_sub hl [0, 1, 2, 3] rfl)
                  · skip
                    have d15 := c15
                    rw [nI_eq (by omega) (by omega)] at d15
                    refine lv_aload_n hx hb dX7_plans_50 rfl (lv_at hl 3 rfl) ?_
                    refine lv_iload_n hx hb dX7_plans_51 rfl (lv_at hl 0 rfl) ?_
                    refine mu2_v (n := 10) (wc := [(m0, .inr (7, [.int (nI n), .ref g1, .ref g2, .ref g3, .int mr, .ref g4, .int (nI y), .ref g5, .int mo, .ref g6, .int ml, .ref g7, .ref g8, .ref g9, .ref g10, .ref g11, .ref g12])), (g1, .inl (cI, 9, .inl fg)), (g2, .inl (cI, 9, .inl fb)), (g3, .inl (cI, 9, .inl fp)), (g4, .inl (cZ, 20480, .inl fs)), (g12, .inl (cI, 9, .inl th)), (g8, .inl (cJ, 19683, .inr (.inl vb))), (g9, .inl (cI, 19683, .inl vn)), (g10, .inl (cI, 19683, .inl vw)), (g11, .inl (cI, 19683, .inl vx))]) (wr := []) (as0 := [m0, g1, g2, g3, g4, g12, g8, g9, g10, g11]) (va_runV (As := [.int (nI k)]) (rest := []) ⟨hx, hb, hml, hown, hts⟩ (c_X7_plan l D cI cJ cZ m0 g1 g2 g3 g4 g5 g6 g7 g8 g9 g10 g11 g12 n k y mr mo ml fg fb fp fs th vb vn vw vx (by first | assumption | omega) (by first | assumption | omega) (by first | assumption | omega) (by first | assumption | omega) (by first | assumption | omega)) (cwV 1 hts gX7_plans_X7_plan rfl rfl rfl (by decide +kernel) ⟨Nat.le_of_ble_eq_true rfl, Nat.le_of_ble_eq_true rfl⟩) ⟨pm_blind, va_recv hK hP (ci := 7) (q0 := 0) rfl rfl, fun U hU hW => ⟨rfl, by rw [hU]; exact hP.sub (ws' := [(m0, .inr (7, [.int (nI n), .ref g1, .ref g2, .ref g3, .int mr, .ref g4, .int (nI y), .ref g5, .int mo, .ref g6, .int ml, .ref g7, .ref g8, .ref g9, .ref g10, .ref g11, .ref g12])), (g1, .inl (cI, 9, .inl fg)), (g2, .inl (cI, 9, .inl fb)), (g3, .inl (cI, 9, .inl fp)), (g4, .inl (cZ, 20480, .inl fs)), (g12, .inl (cI, 9, .inl th)), (g8, .inl (cJ, 19683, .inr (.inl vb))), (g9, .inl (cI, 19683, .inl vn)), (g10, .inl (cI, 19683, .inl vw)), (g11, .inl (cI, 19683, .inl vx))]) [0, 1, 2, 3, 4, 5, 6, 7, 8, 9] rfl, hKN.warm hW, (hD.sub (ws' := [(m0, .inr (7, [.int (nI n), .ref g1, .ref g2, .ref g3, .int mr, .ref g4, .int (nI y), .ref g5, .int mo, .ref g6, .int ml, .ref g7, .ref g8, .ref g9, .ref g10, .ref g11, .ref g12])), (g1, .inl (cI, 9, .inl fg)), (g2, .inl (cI, 9, .inl fb)), (g3, .inl (cI, 9, .inl fp)), (g4, .inl (cZ, 20480, .inl fs)), (g12, .inl (cI, 9, .inl th)), (g8, .inl (cJ, 19683, .inr (.inl vb))), (g9, .inl (cI, 19683, .inl vn)), (g10, .inl (cI, 19683, .inl vw)), (g11, .inl (cI, 19683, .inl vx))]) [0, 1, 2, 3, 4, 5, 6, 7, 8, 9] (by decide) rfl).weaken (fun _ _ _ _ => trivial)⟩⟩ rfl rfl hl.1 rfl (lv_room (Nat.le_of_ble_eq_true rfl)) dX7_plans_52 ⟨Nat.le_of_ble_eq_true rfl, Nat.le_of_ble_eq_true rfl⟩) hS hP hD (fun (u : (Nat → Int64) × (Nat → Int32) × (Nat → Int32) × (Nat → Int32)) => [(m0, .inr (7, [.int (nI n), .ref g1, .ref g2, .ref g3, .int mr, .ref g4, .int (nI y), .ref g5, .int mo, .ref g6, .int ml, .ref g7, .ref g8, .ref g9, .ref g10, .ref g11, .ref g12])), (g1, .inl (cI, 9, .inl fg)), (g2, .inl (cI, 9, .inl fb)), (g3, .inl (cI, 9, .inl fp)), (g4, .inl (cZ, 20480, .inl fs)), (g12, .inl (cI, 9, .inl th)), (g8, .inl (cJ, 19683, .inr (.inl u.1))), (g9, .inl (cI, 19683, .inl u.2.1)), (g10, .inl (cI, 19683, .inl u.2.2.1)), (g11, .inl (cI, 19683, .inl u.2.2.2))]) [0, 1, 2, 3, 4, 5, 6, 7, 8, 9] [] rfl rfl rfl (fun _ => rfl) (fun _ => rfl) rfl (fun _ => rfl) (fun _ => rfl) (m_cov rfl) (m_dis rfl) (fun u16 H locs w16r hP hD hS => ?_)
                    obtain ⟨u16_ub, u16_un, u16_uw, u16_ux⟩ := u16
                    have hP : va_P D vwCl [(m0, .inr (7, [.int (nI n), .ref g1, .ref g2, .ref g3, .int mr, .ref g4, .int (nI y), .ref g5, .int mo, .ref g6, .int ml, .ref g7, .ref g8, .ref g9, .ref g10, .ref g11, .ref g12])), (g1, .inl (cI, 9, .inl fg)), (g2, .inl (cI, 9, .inl fb)), (g3, .inl (cI, 9, .inl fp)), (g4, .inl (cZ, 20480, .inl fs)), (g12, .inl (cI, 9, .inl th)), (g8, .inl (cJ, 19683, .inr (.inl u16_ub))), (g9, .inl (cI, 19683, .inl u16_un)), (g10, .inl (cI, 19683, .inl u16_uw)), (g11, .inl (cI, 19683, .inl u16_ux))] H := hP
                    have hD : va_D (aA as) [(m0, .inr (7, [.int (nI n), .ref g1, .ref g2, .ref g3, .int mr, .ref g4, .int (nI y), .ref g5, .int mo, .ref g6, .int ml, .ref g7, .ref g8, .ref g9, .ref g10, .ref g11, .ref g12])), (g1, .inl (cI, 9, .inl fg)), (g2, .inl (cI, 9, .inl fb)), (g3, .inl (cI, 9, .inl fp)), (g4, .inl (cZ, 20480, .inl fs)), (g12, .inl (cI, 9, .inl th)), (g8, .inl (cJ, 19683, .inr (.inl u16_ub))), (g9, .inl (cI, 19683, .inl u16_un)), (g10, .inl (cI, 19683, .inl u16_uw)), (g11, .inl (cI, 19683, .inl u16_ux))] := hD
                    have w16 : (∀ z, ¬ z = k → u16_un z = vn z ∧ u16_ux z = vx z) ∧ ((¬ Sg fs y (setN k 1 n) ∧ Sg fs y (2 ^ n - 1 - setN k 2 n)) → PV n k u16_un ∧ PV n k u16_ux) := w16r
                    clear w16r
                    refine lv_iinc (v := nI (k + 1)) (lv' := [(3, .int (nI (k + 1))), (2, .int (nI M)), (1, .int (nI al)), (0, .ref m0)]) hx hb dX7_plans_55 hl (k := 0) rfl (nI_1 k) (by decide) rfl (fun ls hl => ?_)
                    refine lv_goto (tgt := 36) hx hb dX7_plans_58 (by decide) ?_
                    exact ih12 (k + 1) u16_ub u16_un u16_uw u16_ux _ _ _ (by omega) (fun z hz h9 => by first | (by_cases e9 : z = k; exact (by subst e9; exact w16.2); exact vv_keep w16.1 e9 (hd z hz (by omega))) | (by_cases e9 : z = k; exact (by subst e9; exact hd z hz (by omega)); exact hd z hz (by omega))) hP hD hS (lv_sub hl [0, 1, 2, 3] rfl)
            exact loop12 (al + 1) 0 ub un uw ux _ _ _ (by omega) (fun z hz h9 => hdn z hz (by omega)) hP hD hS (lv_sub hl [0, 1, 2, 3] rfl)
        · skip
          refine lv_iload_n hx hb dX7_plans_30 rfl (lv_at hl 0 rfl) ?_
          refine lv_if_lt (tgt := 67) hx hb dX7_plans_31 (by decide) (fun c17 => ?_) (fun c17 => ?_)
          · skip
            rw [← hQ]
            exact W.vret hx hb hr (fun tS htS hWS => ⟨⟨(ub, un, uw, ux), rfl, by assumption, m_at htS hP⟩, by rw [← has]; exact hS.F htS⟩) (by rw [← has]; exact hS.2.2) dX7_plans_67
          · exact absurd c17 (by first | decide | exact nz_lt (by omega) | exact fun h => h (nz_ge (by omega)))
    exact loop10 (n + 2) (nI n) 19683 eb en ew ex _ _ _ (by rw [nI_toInt (by omega)]; omega) (by first | rfl | (have e9 : n = 9 := (by omega); subst e9; rfl)) (Or.inl ⟨n, rfl, by omega, fun z hz h9 => absurd h9 (by have := seenN_le z n; omega)⟩) hP hD hS (lv_sub hl [0, 1, 2] rfl)
