set_option maxHeartbeats 8000000 in
set_option maxRecDepth 100000 in
theorem whole_start {p : Program} {e : Env} {s : State} {m : MethodId} {below : List Frame} {meth : Method} {c : Code} (l : Launch) {b L : Nat} {xs : Nat → Int32} (hL : L ≤ 3072) (C0 : lw_At p s m meth c b L xs) : W p l e room_1 s m #[Value.ref b] below meth c s.heap [] 0 0 (lw_Z below #[Value.ref b] s) (entryFrame m ([Value.ref b] : List Value).toArray 4) := by
  obtain ⟨hx, hb, hr, hml, hown, hts0, hX, hbl, hlocks, hgv⟩ := id C0
  have hts : ∀ w ∈ wsL_law, w.before #[Value.ref b] s = true := fun w h => hts0 w (wsL_law_in w h)
  have hown : s.vm.findClass RL = some m.cls := hown
  have hA : ∀ q : Nat, s.heap.size ≤ q → (fun q : Nat => s.heap.size ≤ q) q := fun _ h => h
  have hbA : ¬ (fun q : Nat => s.heap.size ≤ q) b := Nat.not_le.mpr hbl
  obtain ⟨k0, iS0, hKn0⟩ := u_known (C := RX0) (T := TX0) (N := 3) (n := 3) hts0 inX0 (hts0 (.instantiable RX0 3) (by decide +kernel))
  obtain ⟨k1, iS1, hKn1⟩ := u_known (C := RX1) (T := TX1) (N := 7) (n := 7) hts0 inX1 (hts0 (.instantiable RX1 7) (by decide +kernel))
  obtain ⟨k2, iS2, hKn2⟩ := u_known (C := RX2) (T := TX2) (N := 2) (n := 2) hts0 inX2 (hts0 (.instantiable RX2 2) (by decide +kernel))
  obtain ⟨k3, iS3, hKn3⟩ := u_known (C := RX3) (T := TX3) (N := 5) (n := 5) hts0 inX3 (hts0 (.instantiable RX3 5) (by decide +kernel))
  obtain ⟨k4, iS4, hKn4⟩ := u_known (C := RX4) (T := TX4) (N := 6) (n := 6) hts0 inX4 (hts0 (.instantiable RX4 6) (by decide +kernel))
  obtain ⟨k5, iS5, hKn5⟩ := u_known (C := RX5) (T := TX5) (N := 2) (n := 2) hts0 inX5 (hts0 (.instantiable RX5 2) (by decide +kernel))
  obtain ⟨k6, iS6, hKn6⟩ := u_known (C := RX6) (T := TX6) (N := 6) (n := 6) hts0 inX6 (hts0 (.instantiable RX6 6) (by decide +kernel))
  obtain ⟨k7, iS7, hKn7⟩ := u_known (C := RX7) (T := TX7) (N := 17) (n := 17) hts0 inX7 (hts0 (.instantiable RX7 17) (by decide +kernel))
  obtain ⟨D, hKc⟩ : ∃ D : va_G, ∀ (k : Nat) (q : vw_C), vwCl[k]? = some q → u_Kn s q.1 q.2.1 q.2.2 (D.1 k) (D.2 k) := by
    refine ⟨(fun k => if k = 0 then k0 else if k = 1 then k1 else if k = 2 then k2 else if k = 3 then k3 else if k = 4 then k4 else if k = 5 then k5 else if k = 6 then k6 else k7, fun k => if k = 0 then iS0 else if k = 1 then iS1 else if k = 2 then iS2 else if k = 3 then iS3 else if k = 4 then iS4 else if k = 5 then iS5 else if k = 6 then iS6 else iS7), ?_⟩
    intro k q hq
    match k, hq with
    | 0, hq => cases hq; exact hKn0
    | 1, hq => cases hq; exact hKn1
    | 2, hq => cases hq; exact hKn2
    | 3, hq => cases hq; exact hKn3
    | 4, hq => cases hq; exact hKn4
    | 5, hq => cases hq; exact hKn5
    | 6, hq => cases hq; exact hKn6
    | 7, hq => cases hq; exact hKn7
    | k + 8, hq => simp [vwCl] at hq
  obtain ⟨cI, hcI1, hcI2⟩ := m_arrK (ty := .int) (hts0 (.arrayClass .int) (by decide +kernel)) (by simp)
  obtain ⟨cJ, hcJ1, hcJ2⟩ := m_arrK (ty := .long) (hts0 (.arrayClass .long) (by decide +kernel)) (by simp)
  obtain ⟨cZ, hcZ1, hcZ2⟩ := m_arrK (ty := .boolean) (hts0 (.arrayClass .boolean) (by decide +kernel)) (by simp)
  have hK : va_K D vwCl [(cI, .int), (cJ, .long), (cZ, .boolean)] s := ⟨hKc, fun k q h => by
    match k, h with
    | 0, h => cases h; exact ⟨hcI1, hcI2⟩
    | 1, h => cases h; exact ⟨hcJ1, hcJ2⟩
    | 2, h => cases h; exact ⟨hcZ1, hcZ2⟩
    | k + 3, h => simp at h⟩
  have hKN : KN D cI cJ cZ s := ⟨hK, fun w hw => va_Nw.of (nw_on w hw) (hts0 w (nw_in w hw))⟩
  have hfl := flat_of_before _ hgv
  have q0 := va_eqt (t := .elem (.static RX1 "THREES" "[I") (.int 0)) (z := 1) (hfl _ (by decide +kernel))
  have q1 := va_eqt (t := .elem (.static RX1 "THREES" "[I") (.int 1)) (z := 3) (hfl _ (by decide +kernel))
  have q2 := va_eqt (t := .elem (.static RX1 "THREES" "[I") (.int 2)) (z := 9) (hfl _ (by decide +kernel))
  have q3 := va_eqt (t := .elem (.static RX1 "THREES" "[I") (.int 3)) (z := 27) (hfl _ (by decide +kernel))
  have q4 := va_eqt (t := .elem (.static RX1 "THREES" "[I") (.int 4)) (z := 81) (hfl _ (by decide +kernel))
  have q5 := va_eqt (t := .elem (.static RX1 "THREES" "[I") (.int 5)) (z := 243) (hfl _ (by decide +kernel))
  have q6 := va_eqt (t := .elem (.static RX1 "THREES" "[I") (.int 6)) (z := 729) (hfl _ (by decide +kernel))
  have q7 := va_eqt (t := .elem (.static RX1 "THREES" "[I") (.int 7)) (z := 2187) (hfl _ (by decide +kernel))
  have q8 := va_eqt (t := .elem (.static RX1 "THREES" "[I") (.int 8)) (z := 6561) (hfl _ (by decide +kernel))
  have q9 := va_eqt (t := .elem (.static RX1 "THREES" "[I") (.int 9)) (z := 19683) (hfl _ (by decide +kernel))
  obtain ⟨z3, t3, hT0⟩ := T3.start (hts0 (.laysStatic RX1 "THREES" "[I") (by decide +kernel)) (hts0 (.initialized RX1) (by decide +kernel)) (hfl (.arrayOf (.static RX1 "THREES" "[I") .int) (by decide +kernel)) (hfl (.eq (.length (.static RX1 "THREES" "[I")) (.int 10)) (by decide +kernel)) (fun j hj => by
    match j, hj with
    | 0, _ => exact q0
    | 1, _ => exact q1
    | 2, _ => exact q2
    | 3, _ => exact q3
    | 4, _ => exact q4
    | 5, _ => exact q5
    | 6, _ => exact q6
    | 7, _ => exact q7
    | 8, _ => exact q8
    | 9, _ => exact q9
    | j + 10, hj => exact absurd hj (by omega))
  have hiX6 := inlX6
  have hiX7 := inlX7
  have hS : va_S (fun q : Nat => s.heap.size ≤ q) s.heap s.heap [] := va_S.rf
  have hP : va_P D vwCl [] s.heap := fun k q h => by simp at h
  have hD : va_D (fun q : Nat => s.heap.size ≤ q) [] := ⟨fun i j p q h => by simp at h, fun k q h => by simp at h⟩
  have hl := lv_entry ([.ref b]) (n := 4) (Nat.le_of_ble_eq_true rfl)
  rw [lg_entry_eq]
  generalize (lg_sl ([.ref b]) ++ List.replicate (4 - (lg_sl ([.ref b])).length) Slot.unset).toArray = ls at hl ⊢
  have hl : lv_has ls 4 [(0, .ref b)] := hl
  refine va_new (ci := 6) (fs := [.null, .null, .null, .null, .null, .null]) (C := RX6) (T := TX6) (N := 6) hx hb hts hiX6 tyX6 tyX6_ok hown (hts (.classLink RL 7 RX6) (by decide +kernel)) (hts (.instantiable RX6 6) (by decide +kernel)) (hts (.initialized RX6) (by decide +kernel)) hK hP hD hS hA rfl (fun j hj => by rcases (show j = 0 ∨ j = 1 ∨ j = 2 ∨ j = 3 ∨ j = 4 ∨ j = 5 by omega) with rfl | rfl | rfl | rfl | rfl | rfl <;> rfl) (Nat.le_of_ble_eq_true rfl) (Nat.le_of_ble_eq_true rfl) dL_law_0 (fun q1 H hP hD hS => ?_)
  have hP : va_P D vwCl [(q1, .inr (6, [.null, .null, .null, .null, .null, .null]))] H := hP
  have hD : va_D (fun q : Nat => s.heap.size ≤ q) [(q1, .inr (6, [.null, .null, .null, .null, .null, .null]))] := hD
  refine W.widen (k := 1) (n := 6) (by omega) (by omega) ?_
  refine lv_dup hx hb dL_law_3 rfl ?_
  have hPc := hP.sub (ws' := [(q1, .inr (6, [.null, .null, .null, .null, .null, .null]))]) [0] rfl
  have hDc := hD.sub (ws' := [(q1, .inr (6, [.null, .null, .null, .null, .null, .null]))]) [0] (by decide) rfl
  have hFc := va_free (wc := [(q1, .inr (6, [.null, .null, .null, .null, .null, .null]))]) hD hS hA [0] rfl
  refine va_callv (va_runI (As := []) (rest := [.ref q1]) ⟨hx, hb, hml, hown, hts⟩ (c_X6_init l D cI cJ cZ H.size q1) (cwI 0 hts gL_law_X6_init rfl rfl rfl (hts (.initialized RX6) (by decide +kernel)) (hts (.methodLink RL 9 yX6_init) (by decide +kernel)) (hts (.instanceMethod yX6_init) (by decide +kernel)) rfl (by decide +kernel) ⟨Nat.le_of_ble_eq_true rfl, Nat.le_of_ble_eq_true rfl⟩) ⟨pn_blind, fun U hU hW => ⟨rfl, by rw [hU], by rw [hU]; exact hPc, hKN.warm hW, hDc.weaken (fun _ _ _ _ => trivial)⟩⟩ rfl rfl hl.1 rfl (lv_room (Nat.le_of_ble_eq_true rfl)) dL_law_4 ⟨Nat.le_of_ble_eq_true rfl, Nat.le_of_ble_eq_true rfl⟩) hS (fun q _ h => hFc q h) hFc (fun u t H1 locs ht hvm hw hB hz1 hk1 hS => ?_)
  obtain ⟨u2_ug, u2_ub, u2_ur⟩ := u
  have w2 : ∀ z, z < 9 → u2_ug z = nI 1 ∧ u2_ub z = nI 1 ∧ u2_ur z = nI 1 := hw
  obtain ⟨q2_h4, q2_a1, q2_a2, q2_a3, q2_h3, q2_b1, q2_b2, q2_h2, q2_r1, q2_h1, q2_p4, q2_p5, q2_p6, q2_hB, q2_l3, q2_h5, q2_lk1, hP1, hD1⟩ := hB
  rw [ht] at hP1
  have hP1 : va_P D vwCl [(q1, .inr (6, [.ref q2_h4, .ref q2_h3, .ref q2_h2, .ref q2_h1, .ref q2_hB, .ref q2_h5])), (q2_h4, .inr (4, [.ref q2_a1, .ref q2_a2, .ref q2_a3, .int (nI 1), .int (nI 0), .int (nI 0)])), (q2_a1, .inl (cI, 9, .inl u2_ug)), (q2_a2, .inl (cI, 9, .inl u2_ub)), (q2_a3, .inl (cI, 9, .inl u2_ur)), (q2_h3, .inr (3, [.ref q2_b1, .ref q2_b2, .int (nI 1), .int (nI 0), .int (-1 : Int32)])), (q2_b1, .inl (cJ, 320, .inr (.inl (fun _ => 0)))), (q2_b2, .inl (cI, 9, .inl (fun _ => 0))), (q2_h2, .inr (2, [.ref q2_r1, .int (nI 0)])), (q2_r1, .inl (cI, 9, .inl (fun _ => 0))), (q2_h1, .inr (1, [.ref q2_h4, .ref q2_h3, .ref q2_h2, .ref q2_p4, .ref q2_p5, .ref q2_p6, .int (nI 0)])), (q2_p4, .inl (cI, 9, .inl (fun _ => 0))), (q2_p5, .inl (cJ, 0, .inr (.inl (fun _ => 0)))), (q2_p6, .inl (cI, 0, .inl (fun _ => 0))), (q2_hB, .inr (0, [.ref q2_h4, .ref q2_h3, .ref q2_l3])), (q2_l3, .inl (cI, 512, .inl (fun _ => 0))), (q2_h5, .inr (5, [.ref q2_lk1, .int (nI 0)])), (q2_lk1, .inl (cI, 9, .inl (fun _ => 0)))] H1 := hP1
  have hD1 : va_D _ [(q1, .inr (6, [.ref q2_h4, .ref q2_h3, .ref q2_h2, .ref q2_h1, .ref q2_hB, .ref q2_h5])), (q2_h4, .inr (4, [.ref q2_a1, .ref q2_a2, .ref q2_a3, .int (nI 1), .int (nI 0), .int (nI 0)])), (q2_a1, .inl (cI, 9, .inl u2_ug)), (q2_a2, .inl (cI, 9, .inl u2_ub)), (q2_a3, .inl (cI, 9, .inl u2_ur)), (q2_h3, .inr (3, [.ref q2_b1, .ref q2_b2, .int (nI 1), .int (nI 0), .int (-1 : Int32)])), (q2_b1, .inl (cJ, 320, .inr (.inl (fun _ => 0)))), (q2_b2, .inl (cI, 9, .inl (fun _ => 0))), (q2_h2, .inr (2, [.ref q2_r1, .int (nI 0)])), (q2_r1, .inl (cI, 9, .inl (fun _ => 0))), (q2_h1, .inr (1, [.ref q2_h4, .ref q2_h3, .ref q2_h2, .ref q2_p4, .ref q2_p5, .ref q2_p6, .int (nI 0)])), (q2_p4, .inl (cI, 9, .inl (fun _ => 0))), (q2_p5, .inl (cJ, 0, .inr (.inl (fun _ => 0)))), (q2_p6, .inl (cI, 0, .inl (fun _ => 0))), (q2_hB, .inr (0, [.ref q2_h4, .ref q2_h3, .ref q2_l3])), (q2_l3, .inl (cI, 512, .inl (fun _ => 0))), (q2_h5, .inr (5, [.ref q2_lk1, .int (nI 0)])), (q2_lk1, .inl (cI, 9, .inl (fun _ => 0)))] := hD1
  obtain ⟨hP, hD⟩ := va_join (wr := []) (w1 := [(q1, .inr (6, [.ref q2_h4, .ref q2_h3, .ref q2_h2, .ref q2_h1, .ref q2_hB, .ref q2_h5])), (q2_h4, .inr (4, [.ref q2_a1, .ref q2_a2, .ref q2_a3, .int (nI 1), .int (nI 0), .int (nI 0)])), (q2_a1, .inl (cI, 9, .inl u2_ug)), (q2_a2, .inl (cI, 9, .inl u2_ub)), (q2_a3, .inl (cI, 9, .inl u2_ur)), (q2_h3, .inr (3, [.ref q2_b1, .ref q2_b2, .int (nI 1), .int (nI 0), .int (-1 : Int32)])), (q2_b1, .inl (cJ, 320, .inr (.inl (fun _ => 0)))), (q2_b2, .inl (cI, 9, .inl (fun _ => 0))), (q2_h2, .inr (2, [.ref q2_r1, .int (nI 0)])), (q2_r1, .inl (cI, 9, .inl (fun _ => 0))), (q2_h1, .inr (1, [.ref q2_h4, .ref q2_h3, .ref q2_h2, .ref q2_p4, .ref q2_p5, .ref q2_p6, .int (nI 0)])), (q2_p4, .inl (cI, 9, .inl (fun _ => 0))), (q2_p5, .inl (cJ, 0, .inr (.inl (fun _ => 0)))), (q2_p6, .inl (cI, 0, .inl (fun _ => 0))), (q2_hB, .inr (0, [.ref q2_h4, .ref q2_h3, .ref q2_l3])), (q2_l3, .inl (cI, 512, .inl (fun _ => 0))), (q2_h5, .inr (5, [.ref q2_lk1, .int (nI 0)])), (q2_lk1, .inl (cI, 9, .inl (fun _ => 0)))]) hP hD [0] [] rfl rfl (by decide) (by decide) hk1 hFc hP1 hD1
  generalize H1 = H at hP hS ⊢
  have hP : va_P D vwCl [(q1, .inr (6, [.ref q2_h4, .ref q2_h3, .ref q2_h2, .ref q2_h1, .ref q2_hB, .ref q2_h5])), (q2_h4, .inr (4, [.ref q2_a1, .ref q2_a2, .ref q2_a3, .int (nI 1), .int (nI 0), .int (nI 0)])), (q2_a1, .inl (cI, 9, .inl u2_ug)), (q2_a2, .inl (cI, 9, .inl u2_ub)), (q2_a3, .inl (cI, 9, .inl u2_ur)), (q2_h3, .inr (3, [.ref q2_b1, .ref q2_b2, .int (nI 1), .int (nI 0), .int (-1 : Int32)])), (q2_b1, .inl (cJ, 320, .inr (.inl (fun _ => 0)))), (q2_b2, .inl (cI, 9, .inl (fun _ => 0))), (q2_h2, .inr (2, [.ref q2_r1, .int (nI 0)])), (q2_r1, .inl (cI, 9, .inl (fun _ => 0))), (q2_h1, .inr (1, [.ref q2_h4, .ref q2_h3, .ref q2_h2, .ref q2_p4, .ref q2_p5, .ref q2_p6, .int (nI 0)])), (q2_p4, .inl (cI, 9, .inl (fun _ => 0))), (q2_p5, .inl (cJ, 0, .inr (.inl (fun _ => 0)))), (q2_p6, .inl (cI, 0, .inl (fun _ => 0))), (q2_hB, .inr (0, [.ref q2_h4, .ref q2_h3, .ref q2_l3])), (q2_l3, .inl (cI, 512, .inl (fun _ => 0))), (q2_h5, .inr (5, [.ref q2_lk1, .int (nI 0)])), (q2_lk1, .inl (cI, 9, .inl (fun _ => 0)))] H := hP
  have hD : va_D (fun q : Nat => s.heap.size ≤ q) [(q1, .inr (6, [.ref q2_h4, .ref q2_h3, .ref q2_h2, .ref q2_h1, .ref q2_hB, .ref q2_h5])), (q2_h4, .inr (4, [.ref q2_a1, .ref q2_a2, .ref q2_a3, .int (nI 1), .int (nI 0), .int (nI 0)])), (q2_a1, .inl (cI, 9, .inl u2_ug)), (q2_a2, .inl (cI, 9, .inl u2_ub)), (q2_a3, .inl (cI, 9, .inl u2_ur)), (q2_h3, .inr (3, [.ref q2_b1, .ref q2_b2, .int (nI 1), .int (nI 0), .int (-1 : Int32)])), (q2_b1, .inl (cJ, 320, .inr (.inl (fun _ => 0)))), (q2_b2, .inl (cI, 9, .inl (fun _ => 0))), (q2_h2, .inr (2, [.ref q2_r1, .int (nI 0)])), (q2_r1, .inl (cI, 9, .inl (fun _ => 0))), (q2_h1, .inr (1, [.ref q2_h4, .ref q2_h3, .ref q2_h2, .ref q2_p4, .ref q2_p5, .ref q2_p6, .int (nI 0)])), (q2_p4, .inl (cI, 9, .inl (fun _ => 0))), (q2_p5, .inl (cJ, 0, .inr (.inl (fun _ => 0)))), (q2_p6, .inl (cI, 0, .inl (fun _ => 0))), (q2_hB, .inr (0, [.ref q2_h4, .ref q2_h3, .ref q2_l3])), (q2_l3, .inl (cI, 512, .inl (fun _ => 0))), (q2_h5, .inr (5, [.ref q2_lk1, .int (nI 0)])), (q2_lk1, .inl (cI, 9, .inl (fun _ => 0)))] := hD
  refine W.widen (k := 18) (n := 926) (by omega) (by omega) ?_
  refine lv_astore_n (lv' := [(1, .ref q1), (0, .ref b)]) hx hb dL_law_7 rfl hl (by decide) rfl (fun ls hl => ?_)
  refine va_new (ci := 7) (fs := [.int 0, .null, .null, .null, .int 0, .null, .int 0, .null, .int 0, .null, .int 0, .null, .null, .null, .null, .null, .null]) (C := RX7) (T := TX7) (N := 17) hx hb hts hiX7 tyX7 tyX7_ok hown (hts (.classLink RL 10 RX7) (by decide +kernel)) (hts (.instantiable RX7 17) (by decide +kernel)) (hts (.initialized RX7) (by decide +kernel)) hK hP hD hS hA rfl (fun j hj => by rcases (show j = 0 ∨ j = 1 ∨ j = 2 ∨ j = 3 ∨ j = 4 ∨ j = 5 ∨ j = 6 ∨ j = 7 ∨ j = 8 ∨ j = 9 ∨ j = 10 ∨ j = 11 ∨ j = 12 ∨ j = 13 ∨ j = 14 ∨ j = 15 ∨ j = 16 by omega) with rfl | rfl | rfl | rfl | rfl | rfl | rfl | rfl | rfl | rfl | rfl | rfl | rfl | rfl | rfl | rfl | rfl <;> rfl) (Nat.le_of_ble_eq_true rfl) (Nat.le_of_ble_eq_true rfl) dL_law_8 (fun q3 H hP hD hS => ?_)
  have hP : va_P D vwCl [(q1, .inr (6, [.ref q2_h4, .ref q2_h3, .ref q2_h2, .ref q2_h1, .ref q2_hB, .ref q2_h5])), (q2_h4, .inr (4, [.ref q2_a1, .ref q2_a2, .ref q2_a3, .int (nI 1), .int (nI 0), .int (nI 0)])), (q2_a1, .inl (cI, 9, .inl u2_ug)), (q2_a2, .inl (cI, 9, .inl u2_ub)), (q2_a3, .inl (cI, 9, .inl u2_ur)), (q2_h3, .inr (3, [.ref q2_b1, .ref q2_b2, .int (nI 1), .int (nI 0), .int (-1 : Int32)])), (q2_b1, .inl (cJ, 320, .inr (.inl (fun _ => 0)))), (q2_b2, .inl (cI, 9, .inl (fun _ => 0))), (q2_h2, .inr (2, [.ref q2_r1, .int (nI 0)])), (q2_r1, .inl (cI, 9, .inl (fun _ => 0))), (q2_h1, .inr (1, [.ref q2_h4, .ref q2_h3, .ref q2_h2, .ref q2_p4, .ref q2_p5, .ref q2_p6, .int (nI 0)])), (q2_p4, .inl (cI, 9, .inl (fun _ => 0))), (q2_p5, .inl (cJ, 0, .inr (.inl (fun _ => 0)))), (q2_p6, .inl (cI, 0, .inl (fun _ => 0))), (q2_hB, .inr (0, [.ref q2_h4, .ref q2_h3, .ref q2_l3])), (q2_l3, .inl (cI, 512, .inl (fun _ => 0))), (q2_h5, .inr (5, [.ref q2_lk1, .int (nI 0)])), (q2_lk1, .inl (cI, 9, .inl (fun _ => 0))), (q3, .inr (7, [.int 0, .null, .null, .null, .int 0, .null, .int 0, .null, .int 0, .null, .int 0, .null, .null, .null, .null, .null, .null]))] H := hP
  have hD : va_D (fun q : Nat => s.heap.size ≤ q) [(q1, .inr (6, [.ref q2_h4, .ref q2_h3, .ref q2_h2, .ref q2_h1, .ref q2_hB, .ref q2_h5])), (q2_h4, .inr (4, [.ref q2_a1, .ref q2_a2, .ref q2_a3, .int (nI 1), .int (nI 0), .int (nI 0)])), (q2_a1, .inl (cI, 9, .inl u2_ug)), (q2_a2, .inl (cI, 9, .inl u2_ub)), (q2_a3, .inl (cI, 9, .inl u2_ur)), (q2_h3, .inr (3, [.ref q2_b1, .ref q2_b2, .int (nI 1), .int (nI 0), .int (-1 : Int32)])), (q2_b1, .inl (cJ, 320, .inr (.inl (fun _ => 0)))), (q2_b2, .inl (cI, 9, .inl (fun _ => 0))), (q2_h2, .inr (2, [.ref q2_r1, .int (nI 0)])), (q2_r1, .inl (cI, 9, .inl (fun _ => 0))), (q2_h1, .inr (1, [.ref q2_h4, .ref q2_h3, .ref q2_h2, .ref q2_p4, .ref q2_p5, .ref q2_p6, .int (nI 0)])), (q2_p4, .inl (cI, 9, .inl (fun _ => 0))), (q2_p5, .inl (cJ, 0, .inr (.inl (fun _ => 0)))), (q2_p6, .inl (cI, 0, .inl (fun _ => 0))), (q2_hB, .inr (0, [.ref q2_h4, .ref q2_h3, .ref q2_l3])), (q2_l3, .inl (cI, 512, .inl (fun _ => 0))), (q2_h5, .inr (5, [.ref q2_lk1, .int (nI 0)])), (q2_lk1, .inl (cI, 9, .inl (fun _ => 0))), (q3, .inr (7, [.int 0, .null, .null, .null, .int 0, .null, .int 0, .null, .int 0, .null, .int 0, .null, .null, .null, .null, .null, .null]))] := hD
  refine W.widen (k := 19) (n := 943) (by omega) (by omega) ?_
  refine lv_dup hx hb dL_law_11 rfl ?_
  have hPc := hP.sub (ws' := [(q3, .inr (7, [.int 0, .null, .null, .null, .int 0, .null, .int 0, .null, .int 0, .null, .int 0, .null, .null, .null, .null, .null, .null]))]) [18] rfl
  have hDc := hD.sub (ws' := [(q3, .inr (7, [.int 0, .null, .null, .null, .int 0, .null, .int 0, .null, .int 0, .null, .int 0, .null, .null, .null, .null, .null, .null]))]) [18] (by decide) rfl
  have hFc := va_free (wc := [(q3, .inr (7, [.int 0, .null, .null, .null, .int 0, .null, .int 0, .null, .int 0, .null, .int 0, .null, .null, .null, .null, .null, .null]))]) hD hS hA [18] rfl
  refine va_callv (va_runI (As := []) (rest := [.ref q3]) ⟨hx, hb, hml, hown, hts⟩ (c_X7_init l D cI cJ cZ H.size q3) (cwI 0 hts gL_law_X7_init rfl rfl rfl (hts (.initialized RX7) (by decide +kernel)) (hts (.methodLink RL 12 yX7_init) (by decide +kernel)) (hts (.instanceMethod yX7_init) (by decide +kernel)) rfl (by decide +kernel) ⟨Nat.le_of_ble_eq_true rfl, Nat.le_of_ble_eq_true rfl⟩) ⟨pn_blind, fun U hU hW => ⟨rfl, by rw [hU], by rw [hU]; exact hPc, hKN.warm hW, hDc.weaken (fun _ _ _ _ => trivial)⟩⟩ rfl rfl hl.1 rfl (lv_room (Nat.le_of_ble_eq_true rfl)) dL_law_12 ⟨Nat.le_of_ble_eq_true rfl, Nat.le_of_ble_eq_true rfl⟩) hS (fun q _ h => hFc q h) hFc (fun u t H1 locs ht hvm hw hB hz1 hk1 hS => ?_)
  obtain ⟨u4_ug, u4_ub, u4_ur, u4_un, u4_th⟩ := u
  have w4 : (∀ z, z < 9 → u4_ug z = nI 1 ∧ u4_ub z = nI 1 ∧ u4_ur z = nI 1 ∧ u4_un z = -1) ∧ (∀ z, z < 9 → u4_th z = nI (3 ^ z)) := hw
  obtain ⟨q4_g1, q4_g2, q4_g3, q4_g4, q4_g5, q4_g6, q4_g7, q4_g8, q4_g9, q4_g10, q4_g11, q4_g12, hP1, hD1⟩ := hB
  rw [ht] at hP1
  have hP1 : va_P D vwCl [(q3, .inr (7, [.int (nI 1), .ref q4_g1, .ref q4_g2, .ref q4_g3, .int (nI 0), .ref q4_g4, .int (-1 : Int32), .ref q4_g5, .int (nI 0), .ref q4_g6, .int (nI 0), .ref q4_g7, .ref q4_g8, .ref q4_g9, .ref q4_g10, .ref q4_g11, .ref q4_g12])), (q4_g1, .inl (cI, 9, .inl u4_ug)), (q4_g2, .inl (cI, 9, .inl u4_ub)), (q4_g3, .inl (cI, 9, .inl u4_ur)), (q4_g4, .inl (cZ, 20480, .inl (fun _ => 0))), (q4_g5, .inl (cI, 9, .inl u4_un)), (q4_g6, .inl (cI, 9, .inl (fun _ => 0))), (q4_g7, .inl (cI, 9, .inl (fun _ => 0))), (q4_g8, .inl (cJ, 19683, .inr (.inl (fun _ => 0)))), (q4_g9, .inl (cI, 19683, .inl (fun _ => 0))), (q4_g10, .inl (cI, 19683, .inl (fun _ => 0))), (q4_g11, .inl (cI, 19683, .inl (fun _ => 0))), (q4_g12, .inl (cI, 9, .inl u4_th))] H1 := hP1
  have hD1 : va_D _ [(q3, .inr (7, [.int (nI 1), .ref q4_g1, .ref q4_g2, .ref q4_g3, .int (nI 0), .ref q4_g4, .int (-1 : Int32), .ref q4_g5, .int (nI 0), .ref q4_g6, .int (nI 0), .ref q4_g7, .ref q4_g8, .ref q4_g9, .ref q4_g10, .ref q4_g11, .ref q4_g12])), (q4_g1, .inl (cI, 9, .inl u4_ug)), (q4_g2, .inl (cI, 9, .inl u4_ub)), (q4_g3, .inl (cI, 9, .inl u4_ur)), (q4_g4, .inl (cZ, 20480, .inl (fun _ => 0))), (q4_g5, .inl (cI, 9, .inl u4_un)), (q4_g6, .inl (cI, 9, .inl (fun _ => 0))), (q4_g7, .inl (cI, 9, .inl (fun _ => 0))), (q4_g8, .inl (cJ, 19683, .inr (.inl (fun _ => 0)))), (q4_g9, .inl (cI, 19683, .inl (fun _ => 0))), (q4_g10, .inl (cI, 19683, .inl (fun _ => 0))), (q4_g11, .inl (cI, 19683, .inl (fun _ => 0))), (q4_g12, .inl (cI, 9, .inl u4_th))] := hD1
  obtain ⟨hP, hD⟩ := va_join (wr := [(q1, .inr (6, [.ref q2_h4, .ref q2_h3, .ref q2_h2, .ref q2_h1, .ref q2_hB, .ref q2_h5])), (q2_h4, .inr (4, [.ref q2_a1, .ref q2_a2, .ref q2_a3, .int (nI 1), .int (nI 0), .int (nI 0)])), (q2_a1, .inl (cI, 9, .inl u2_ug)), (q2_a2, .inl (cI, 9, .inl u2_ub)), (q2_a3, .inl (cI, 9, .inl u2_ur)), (q2_h3, .inr (3, [.ref q2_b1, .ref q2_b2, .int (nI 1), .int (nI 0), .int (-1 : Int32)])), (q2_b1, .inl (cJ, 320, .inr (.inl (fun _ => 0)))), (q2_b2, .inl (cI, 9, .inl (fun _ => 0))), (q2_h2, .inr (2, [.ref q2_r1, .int (nI 0)])), (q2_r1, .inl (cI, 9, .inl (fun _ => 0))), (q2_h1, .inr (1, [.ref q2_h4, .ref q2_h3, .ref q2_h2, .ref q2_p4, .ref q2_p5, .ref q2_p6, .int (nI 0)])), (q2_p4, .inl (cI, 9, .inl (fun _ => 0))), (q2_p5, .inl (cJ, 0, .inr (.inl (fun _ => 0)))), (q2_p6, .inl (cI, 0, .inl (fun _ => 0))), (q2_hB, .inr (0, [.ref q2_h4, .ref q2_h3, .ref q2_l3])), (q2_l3, .inl (cI, 512, .inl (fun _ => 0))), (q2_h5, .inr (5, [.ref q2_lk1, .int (nI 0)])), (q2_lk1, .inl (cI, 9, .inl (fun _ => 0)))]) (w1 := [(q3, .inr (7, [.int (nI 1), .ref q4_g1, .ref q4_g2, .ref q4_g3, .int (nI 0), .ref q4_g4, .int (-1 : Int32), .ref q4_g5, .int (nI 0), .ref q4_g6, .int (nI 0), .ref q4_g7, .ref q4_g8, .ref q4_g9, .ref q4_g10, .ref q4_g11, .ref q4_g12])), (q4_g1, .inl (cI, 9, .inl u4_ug)), (q4_g2, .inl (cI, 9, .inl u4_ub)), (q4_g3, .inl (cI, 9, .inl u4_ur)), (q4_g4, .inl (cZ, 20480, .inl (fun _ => 0))), (q4_g5, .inl (cI, 9, .inl u4_un)), (q4_g6, .inl (cI, 9, .inl (fun _ => 0))), (q4_g7, .inl (cI, 9, .inl (fun _ => 0))), (q4_g8, .inl (cJ, 19683, .inr (.inl (fun _ => 0)))), (q4_g9, .inl (cI, 19683, .inl (fun _ => 0))), (q4_g10, .inl (cI, 19683, .inl (fun _ => 0))), (q4_g11, .inl (cI, 19683, .inl (fun _ => 0))), (q4_g12, .inl (cI, 9, .inl u4_th))]) hP hD [18] [0, 1, 2, 3, 4, 5, 6, 7, 8, 9, 10, 11, 12, 13, 14, 15, 16, 17] rfl rfl (by decide) (by decide) hk1 hFc hP1 hD1
  generalize H1 = H at hP hS ⊢
  have hP : va_P D vwCl [(q1, .inr (6, [.ref q2_h4, .ref q2_h3, .ref q2_h2, .ref q2_h1, .ref q2_hB, .ref q2_h5])), (q2_h4, .inr (4, [.ref q2_a1, .ref q2_a2, .ref q2_a3, .int (nI 1), .int (nI 0), .int (nI 0)])), (q2_a1, .inl (cI, 9, .inl u2_ug)), (q2_a2, .inl (cI, 9, .inl u2_ub)), (q2_a3, .inl (cI, 9, .inl u2_ur)), (q2_h3, .inr (3, [.ref q2_b1, .ref q2_b2, .int (nI 1), .int (nI 0), .int (-1 : Int32)])), (q2_b1, .inl (cJ, 320, .inr (.inl (fun _ => 0)))), (q2_b2, .inl (cI, 9, .inl (fun _ => 0))), (q2_h2, .inr (2, [.ref q2_r1, .int (nI 0)])), (q2_r1, .inl (cI, 9, .inl (fun _ => 0))), (q2_h1, .inr (1, [.ref q2_h4, .ref q2_h3, .ref q2_h2, .ref q2_p4, .ref q2_p5, .ref q2_p6, .int (nI 0)])), (q2_p4, .inl (cI, 9, .inl (fun _ => 0))), (q2_p5, .inl (cJ, 0, .inr (.inl (fun _ => 0)))), (q2_p6, .inl (cI, 0, .inl (fun _ => 0))), (q2_hB, .inr (0, [.ref q2_h4, .ref q2_h3, .ref q2_l3])), (q2_l3, .inl (cI, 512, .inl (fun _ => 0))), (q2_h5, .inr (5, [.ref q2_lk1, .int (nI 0)])), (q2_lk1, .inl (cI, 9, .inl (fun _ => 0))), (q3, .inr (7, [.int (nI 1), .ref q4_g1, .ref q4_g2, .ref q4_g3, .int (nI 0), .ref q4_g4, .int (-1 : Int32), .ref q4_g5, .int (nI 0), .ref q4_g6, .int (nI 0), .ref q4_g7, .ref q4_g8, .ref q4_g9, .ref q4_g10, .ref q4_g11, .ref q4_g12])), (q4_g1, .inl (cI, 9, .inl u4_ug)), (q4_g2, .inl (cI, 9, .inl u4_ub)), (q4_g3, .inl (cI, 9, .inl u4_ur)), (q4_g4, .inl (cZ, 20480, .inl (fun _ => 0))), (q4_g5, .inl (cI, 9, .inl u4_un)), (q4_g6, .inl (cI, 9, .inl (fun _ => 0))), (q4_g7, .inl (cI, 9, .inl (fun _ => 0))), (q4_g8, .inl (cJ, 19683, .inr (.inl (fun _ => 0)))), (q4_g9, .inl (cI, 19683, .inl (fun _ => 0))), (q4_g10, .inl (cI, 19683, .inl (fun _ => 0))), (q4_g11, .inl (cI, 19683, .inl (fun _ => 0))), (q4_g12, .inl (cI, 9, .inl u4_th))] H := hP
  have hD : va_D (fun q : Nat => s.heap.size ≤ q) [(q1, .inr (6, [.ref q2_h4, .ref q2_h3, .ref q2_h2, .ref q2_h1, .ref q2_hB, .ref q2_h5])), (q2_h4, .inr (4, [.ref q2_a1, .ref q2_a2, .ref q2_a3, .int (nI 1), .int (nI 0), .int (nI 0)])), (q2_a1, .inl (cI, 9, .inl u2_ug)), (q2_a2, .inl (cI, 9, .inl u2_ub)), (q2_a3, .inl (cI, 9, .inl u2_ur)), (q2_h3, .inr (3, [.ref q2_b1, .ref q2_b2, .int (nI 1), .int (nI 0), .int (-1 : Int32)])), (q2_b1, .inl (cJ, 320, .inr (.inl (fun _ => 0)))), (q2_b2, .inl (cI, 9, .inl (fun _ => 0))), (q2_h2, .inr (2, [.ref q2_r1, .int (nI 0)])), (q2_r1, .inl (cI, 9, .inl (fun _ => 0))), (q2_h1, .inr (1, [.ref q2_h4, .ref q2_h3, .ref q2_h2, .ref q2_p4, .ref q2_p5, .ref q2_p6, .int (nI 0)])), (q2_p4, .inl (cI, 9, .inl (fun _ => 0))), (q2_p5, .inl (cJ, 0, .inr (.inl (fun _ => 0)))), (q2_p6, .inl (cI, 0, .inl (fun _ => 0))), (q2_hB, .inr (0, [.ref q2_h4, .ref q2_h3, .ref q2_l3])), (q2_l3, .inl (cI, 512, .inl (fun _ => 0))), (q2_h5, .inr (5, [.ref q2_lk1, .int (nI 0)])), (q2_lk1, .inl (cI, 9, .inl (fun _ => 0))), (q3, .inr (7, [.int (nI 1), .ref q4_g1, .ref q4_g2, .ref q4_g3, .int (nI 0), .ref q4_g4, .int (-1 : Int32), .ref q4_g5, .int (nI 0), .ref q4_g6, .int (nI 0), .ref q4_g7, .ref q4_g8, .ref q4_g9, .ref q4_g10, .ref q4_g11, .ref q4_g12])), (q4_g1, .inl (cI, 9, .inl u4_ug)), (q4_g2, .inl (cI, 9, .inl u4_ub)), (q4_g3, .inl (cI, 9, .inl u4_ur)), (q4_g4, .inl (cZ, 20480, .inl (fun _ => 0))), (q4_g5, .inl (cI, 9, .inl u4_un)), (q4_g6, .inl (cI, 9, .inl (fun _ => 0))), (q4_g7, .inl (cI, 9, .inl (fun _ => 0))), (q4_g8, .inl (cJ, 19683, .inr (.inl (fun _ => 0)))), (q4_g9, .inl (cI, 19683, .inl (fun _ => 0))), (q4_g10, .inl (cI, 19683, .inl (fun _ => 0))), (q4_g11, .inl (cI, 19683, .inl (fun _ => 0))), (q4_g12, .inl (cI, 9, .inl u4_th))] := hD
  refine W.widen (k := 31) (n := 100218) (by omega) (by omega) ?_
  refine lv_astore_n (lv' := [(2, .ref q3), (1, .ref q1), (0, .ref b)]) hx hb dL_law_15 rfl hl (by decide) rfl (fun ls hl => ?_)
  refine lv_iconst (v := nI 0) hx hb dL_law_16 (by decide) ?_
  refine lv_istore_n (lv' := [(3, .int (nI 0)), (2, .ref q3), (1, .ref q1), (0, .ref b)]) hx hb dL_law_17 rfl hl (by decide) rfl (fun ls hl => ?_)
  have hP := hP.sub (ws' := [(q1, .inr (6, [.ref q2_h4, .ref q2_h3, .ref q2_h2, .ref q2_h1, .ref q2_hB, .ref q2_h5])), (q2_h4, .inr (4, [.ref q2_a1, .ref q2_a2, .ref q2_a3, .int (nI 1), .int (nI 0), .int (nI 0)])), (q2_a1, .inl (cI, 9, .inl u2_ug)), (q2_a2, .inl (cI, 9, .inl u2_ub)), (q2_a3, .inl (cI, 9, .inl u2_ur)), (q2_h3, .inr (3, [.ref q2_b1, .ref q2_b2, .int (nI 1), .int (nI 0), .int (-1 : Int32)])), (q2_b1, .inl (cJ, 320, .inr (.inl (fun _ => 0)))), (q2_b2, .inl (cI, 9, .inl (fun _ => 0))), (q2_h2, .inr (2, [.ref q2_r1, .int (nI 0)])), (q2_r1, .inl (cI, 9, .inl (fun _ => 0))), (q2_h1, .inr (1, [.ref q2_h4, .ref q2_h3, .ref q2_h2, .ref q2_p4, .ref q2_p5, .ref q2_p6, .int (nI 0)])), (q2_p4, .inl (cI, 9, .inl (fun _ => 0))), (q2_p5, .inl (cJ, 0, .inr (.inl (fun _ => 0)))), (q2_p6, .inl (cI, 0, .inl (fun _ => 0))), (q2_hB, .inr (0, [.ref q2_h4, .ref q2_h3, .ref q2_l3])), (q2_l3, .inl (cI, 512, .inl (fun _ => 0))), (q2_h5, .inr (5, [.ref q2_lk1, .int (nI 0)])), (q2_lk1, .inl (cI, 9, .inl (fun _ => 0))), (q3, .inr (7, [.int (nI 1), .ref q4_g1, .ref q4_g2, .ref q4_g3, .int (nI 0), .ref q4_g4, .int (-1 : Int32), .ref q4_g5, .int (nI 0), .ref q4_g6, .int (nI 0), .ref q4_g7, .ref q4_g8, .ref q4_g9, .ref q4_g10, .ref q4_g11, .ref q4_g12])), (q4_g1, .inl (cI, 9, .inl u4_ug)), (q4_g2, .inl (cI, 9, .inl u4_ub)), (q4_g3, .inl (cI, 9, .inl u4_ur)), (q4_g4, .inl (cZ, 20480, .inl (fun _ => 0))), (q4_g5, .inl (cI, 9, .inl u4_un)), (q4_g6, .inl (cI, 9, .inl (fun _ => 0))), (q4_g7, .inl (cI, 9, .inl (fun _ => 0))), (q4_g8, .inl (cJ, 19683, .inr (.inl (fun _ => 0)))), (q4_g9, .inl (cI, 19683, .inl (fun _ => 0))), (q4_g10, .inl (cI, 19683, .inl (fun _ => 0))), (q4_g11, .inl (cI, 19683, .inl (fun _ => 0))), (q4_g12, .inl (cI, 9, .inl u4_th))]) [0, 1, 2, 3, 4, 5, 6, 7, 8, 9, 10, 11, 12, 13, 14, 15, 16, 17, 18, 19, 20, 21, 22, 23, 24, 25, 26, 27, 28, 29, 30] rfl
  have hD := hD.sub (ws' := [(q1, .inr (6, [.ref q2_h4, .ref q2_h3, .ref q2_h2, .ref q2_h1, .ref q2_hB, .ref q2_h5])), (q2_h4, .inr (4, [.ref q2_a1, .ref q2_a2, .ref q2_a3, .int (nI 1), .int (nI 0), .int (nI 0)])), (q2_a1, .inl (cI, 9, .inl u2_ug)), (q2_a2, .inl (cI, 9, .inl u2_ub)), (q2_a3, .inl (cI, 9, .inl u2_ur)), (q2_h3, .inr (3, [.ref q2_b1, .ref q2_b2, .int (nI 1), .int (nI 0), .int (-1 : Int32)])), (q2_b1, .inl (cJ, 320, .inr (.inl (fun _ => 0)))), (q2_b2, .inl (cI, 9, .inl (fun _ => 0))), (q2_h2, .inr (2, [.ref q2_r1, .int (nI 0)])), (q2_r1, .inl (cI, 9, .inl (fun _ => 0))), (q2_h1, .inr (1, [.ref q2_h4, .ref q2_h3, .ref q2_h2, .ref q2_p4, .ref q2_p5, .ref q2_p6, .int (nI 0)])), (q2_p4, .inl (cI, 9, .inl (fun _ => 0))), (q2_p5, .inl (cJ, 0, .inr (.inl (fun _ => 0)))), (q2_p6, .inl (cI, 0, .inl (fun _ => 0))), (q2_hB, .inr (0, [.ref q2_h4, .ref q2_h3, .ref q2_l3])), (q2_l3, .inl (cI, 512, .inl (fun _ => 0))), (q2_h5, .inr (5, [.ref q2_lk1, .int (nI 0)])), (q2_lk1, .inl (cI, 9, .inl (fun _ => 0))), (q3, .inr (7, [.int (nI 1), .ref q4_g1, .ref q4_g2, .ref q4_g3, .int (nI 0), .ref q4_g4, .int (-1 : Int32), .ref q4_g5, .int (nI 0), .ref q4_g6, .int (nI 0), .ref q4_g7, .ref q4_g8, .ref q4_g9, .ref q4_g10, .ref q4_g11, .ref q4_g12])), (q4_g1, .inl (cI, 9, .inl u4_ug)), (q4_g2, .inl (cI, 9, .inl u4_ub)), (q4_g3, .inl (cI, 9, .inl u4_ur)), (q4_g4, .inl (cZ, 20480, .inl (fun _ => 0))), (q4_g5, .inl (cI, 9, .inl u4_un)), (q4_g6, .inl (cI, 9, .inl (fun _ => 0))), (q4_g7, .inl (cI, 9, .inl (fun _ => 0))), (q4_g8, .inl (cJ, 19683, .inr (.inl (fun _ => 0)))), (q4_g9, .inl (cI, 19683, .inl (fun _ => 0))), (q4_g10, .inl (cI, 19683, .inl (fun _ => 0))), (q4_g11, .inl (cI, 19683, .inl (fun _ => 0))), (q4_g12, .inl (cI, 9, .inl u4_th))]) [0, 1, 2, 3, 4, 5, 6, 7, 8, 9, 10, 11, 12, 13, 14, 15, 16, 17, 18, 19, 20, 21, 22, 23, 24, 25, 26, 27, 28, 29, 30] (by decide) rfl
  have hI := INV.start w2 w4
  refine W.widen (k := 31 + 2 * 0) (n := 100218 + 39366 * 0) (by omega) (by omega) ?_
  exact law_loop hL C0 D cI cJ cZ q1 q2_h4 q2_a1 q2_a2 q2_a3 q2_h3 q2_b1 q2_b2 q2_h2 q2_r1 q2_h1 q2_p4 q2_hB q2_l3 q2_h5 q2_lk1 q3 q4_g1 q4_g2 q4_g3 q4_g4 q4_g5 q4_g6 q4_g7 q4_g8 q4_g9 q4_g10 q4_g11 q4_g12 hKN z3 t3 hT0 (L + 1) 0 ⟨by omega, by omega⟩ q2_p5 q2_p6 1 0 0 0 0 0 0 0 0 (-1 : Int32) (nI 0) u2_ug u2_ub u2_ur (fun _ => 0) (fun _ => 0) (fun _ => 0) (fun _ => 0) (fun _ => 0) (fun _ => 0) (fun _ => 0) (fun _ => 0) u4_ug u4_ub u4_ur (fun _ => 0) u4_un (fun _ => 0) (fun _ => 0) (fun _ => 0) (fun _ => 0) (fun _ => 0) (fun _ => 0) u4_th _ _ _ hI hP hD hS (lv_sub hl [0, 1, 2, 3] rfl)
set_option maxHeartbeats 4000000 in
theorem lw_walk (l : Launch) (b : Addr) (xs : List Int32) : MetFree l x (headSpec (Jvm.Cond.code x code maxLocals ret :: tables_1) room_1) (lw_P b xs) (fun _ _ _ _ _ => True) lw_Q := by
  refine MetFree.of_bodyS (code := code) (maxLocals := maxLocals) (ret := ret) (by decide) ?_ ?_
  · intro args s m h hn
    obtain ⟨meth, c, h1, h2, h3, h4, h5, h6, -, -⟩ := Cond.code_spec hn (atoms_spec (ws := Jvm.Cond.code x code maxLocals ret :: tables_1) h _ List.mem_cons_self)
    exact ⟨meth, c, h1, h2, h3, h4, h5, h6⟩
  · intro p e s m args below meth c s₁ B hml0 hP _
    obtain ⟨rfl, hx, hbd, hgv⟩ := hP
    obtain ⟨scr, harrAt, hlist, hof, hsmall⟩ := hx
    obtain ⟨hcb, hkn, -, -⟩ := State.arrayAt?_spec harrAt
    have hown : s.vm.findClass R_law = some m.cls := findClass_of_methodNamed B.named
    have hts0 : ∀ c ∈ (Jvm.Cond.code x code maxLocals ret :: tables_1), c.before #[Value.ref b] s = true := atoms_spec (ws := Jvm.Cond.code x code maxLocals ret :: tables_1) B.pre
    have hts : ∀ w ∈ lw_tbl, w.before #[Value.ref b] s = true := k2_hts_sels lw_privs (fun w hw => hts0 w (List.mem_cons_of_mem _ hw)) lw_privs_ok
    have hml : c.maxLocals = 4 := B.maxLocals_eq (hts0 _ List.mem_cons_self)
    have X₀ : Stand p l e room_1 s m #[Value.ref b] below meth c s₁ [] 0 0 := Stand.of_body B
    have hh0 : s₁.heap = s.heap := by rw [B.state]; rfl
    have hsz : scr.slots.size = xs.length := by rw [← Array.length_toList, hlist, List.length_map]
    have hval : ∀ j : Nat, j < xs.length → scr.slots[j]? = some (.int (xs.getD j 0)) := fun j hj => by
      rw [← Array.getElem?_toList, hlist]
      simp [hj]
    have hbl : b < s.heap.size := (Array.getElem?_eq_some_iff.mp hcb).1
    have hX : va_X b xs.length (fun j => xs.getD j 0) s s.heap := ⟨scr, hcb, hof, hkn, hsz, hval⟩
    have K : W p l e room_1 s m #[Value.ref b] below meth c s₁.heap [] 0 0 (lw_Z below #[Value.ref b] s) (entryFrame m ([Value.ref b] : List Value).toArray 4) := by
      rw [hh0]
      exact whole_start l hbd ⟨B.exec, B.bytes, B.returns, hml, hown, hts, hX, hbl, B.notSynchronized, hgv⟩
    obtain ⟨t, a1, o, b1, b2, b3⟩ := K s₁ rfl X₀
    exact ⟨t, o, a1, b1, b2, b3⟩
theorem lw_pre_spec {args : Array Value} {s : State} (h : (Jvm.Cond.and given_1 narrow_1).before args s = true) (hr : rest_1_c.before args s = true) : ∃ (b : Addr) (xs : List Int32), lw_P b xs args s := by
  have hs := flat_of_before _ h
  have hq := flat_of_before _ hr
  have hc : (Cond.count 1).before args s = true := hs _ (by decide +kernel)
  have harr : (Cond.arrayOf (.arg 0) .int).before args s = true := hs _ (by decide +kernel)
  have hle : (Cond.le (.length (.arg 0)) (.int 3072)).before args s = true := hs _ (by decide +kernel)
  have hlen : (Cond.isInt (.length (.arg 0))).before args s = true := hq _ (by decide +kernel)
  have hall : (Cond.all (.arg 0) (.isInt (.elem (.arg 0) (.index 0)))).before args s = true := hq _ (by decide +kernel)
  obtain ⟨b, xs, hb, hx⟩ := State.ints_of_pre rfl harr hlen hall
  have hsm : xs.length < 2 ^ 31 := hx.choose_spec.2.2.2
  have hev : (Term.length (.arg 0)).eval args s none [] s = some (.int xs.length.toInt32) := hx.length_eval hb
  have hv := Cond.le_ints hev (show (Term.int 3072).eval args s none [] s = some (.int 3072) from rfl)
  have hd : xs.length.toInt32 ≤ 3072 := by
    simpa [Cond.before, Cond.holds, hv] using hle
  have hN : xs.length ≤ 3072 := (Int32.ofNat_le_ofNat hsm (by decide)).mp (show Int32.ofNat xs.length ≤ Int32.ofNat 3072 from hd)
  exact ⟨b, xs, Cond.one_arg hc (show args[0]? = some (.ref b) from hb), hx, hN, h⟩
theorem lw_comes (l : Launch) : Comes l x (Jvm.Cond.code x code maxLocals ret :: tables_1) room_1 (fun tb e args s => Calls_1 tb e args s ∧ rest_1 tb e args s ∧ Pre_1 tb e args s)
    (fun _ _ args s o t => lw_Q args s o t) := by
  intro p e ha hc hk s m args below hf hfit hheap happ hpre
  obtain ⟨b, xs, hP⟩ := lw_pre_spec hpre.2.2 hpre.2.1
  obtain ⟨k, o, h1, h2, h3, hQ⟩ := lw_walk l b xs p e ha hc hk s m args below hf ((Spec.applies_iff_loose hf).mp happ).1 hP trivial
  exact ⟨k, o, h1, h2, h3, hQ⟩
theorem lw_frame {s t : State} {o : Outcome} {args : Array Value} (h : Framed s o t [] 1200000 5502250) :
    Framed s o t (fieldLocs frame_1_writes args s ++ arrayLocs frame_1_arrays args s ++ staticLocs frame_1_statics s) 1200000 5502250 := h
theorem lw_limb (L : Cond) (hL : ∀ (args : Array Value) (s t : State), L.after args s (.returned (some (.int 1))) t = true) :
    ArmFor flags0 classFile x code maxLocals ret World_1 tables_1 room_1 Calls_1 rest_1 Pre_1
      (fun tb e a s o t => postC L tb e a s o t ∧ Framed s o t (fieldLocs frame_1_writes a s ++ arrayLocs frame_1_arrays a s ++ staticLocs frame_1_statics s) 1200000 5502250) := by
  intro l _ _ _ p e ha hc hk s m args below hf hfit hheap happ hpre
  obtain ⟨k, o, h1, h2, h3, rfl, hF⟩ := lw_comes l p e ha hc hk s m args below hf hfit hheap happ hpre
  exact ⟨k, _, h1, h2, h3, hL args s _, lw_frame hF⟩
theorem i_vc : Claimed_1_1 ∧ Claimed_1_2 := ⟨lw_limb limb_1_1 (fun args s t => by simp [limb_1_1, Cond.after, Cond.holds, Cond.value]), lw_limb limb_1_2 (fun args s t => Cond.after_iff.mpr (by
  first | (rw [show limb_1_2 = Cond.eq .result (.int 1) from rfl, Cond.eq_ints (x := 1) (y := 1) rfl rfl]; simp; done) | (simp [limb_1_2, Cond.value, Term.eval]; done)))⟩
