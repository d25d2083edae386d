def rm_c_X7_partOf : Room := { frames := 2, cells := 0, slots := 0, locals := 46 }
set_option maxHeartbeats 400000 in
set_option maxRecDepth 100000 in
theorem c_X7_partOf (l : Launch) (D : va_G) (cI cJ cZ : ClassId) (m0 : Nat) (g1 : Nat) (g2 : Nat) (g3 : Nat) (g4 : Nat) (g5 : Nat) (g6 : Nat) (g7 : Nat) (g8 : Nat) (g9 : Nat) (g10 : Nat) (g11 : Nat) (g12 : Nat) (n : Nat) (mr : Int32) (my : Int32) (mo : Int32) (ml : Int32) (p0 : Int32) (wh : Int32) (fg : Nat → Int32) (fb : Nat → Int32) (fp : Nat → Int32) (fn : Nat → Int32) (hn : n ≤ 9) (h1n : 1 ≤ n) : Met l yX7_partOf wsX7_partOf rm_c_X7_partOf (pc_ D cI cJ cZ [.ref m0, .int p0, .int wh] [(m0, .inr (7, [.int (nI n), .ref g1, .ref g2, .ref g3, .int mr, .ref g4, .int my, .ref g5, .int mo, .ref g6, .int ml, .ref g7, .ref g8, .ref g9, .ref g10, .ref g11, .ref g12])), (g1, .inl (cI, 9, .inl fg)), (g2, .inl (cI, 9, .inl fb)), (g3, .inl (cI, 9, .inl fp)), (g5, .inl (cI, 9, .inl fn))]) (va_Qi (fun (r : Int32) (_ : Unit) => r = pO fg fb fp fn n p0 wh) (fun _ _ => True) aN) 0 0 aN := by
  refine Met.ofW (cc := cX7_partOf) (maxL := 3) (ret := (some .int)) (by decide) rfl ?_
  intro p e s m args below meth c s₁ B hml hv
  obtain ⟨rfl, hP, hKN⟩ := hv
  have hK := hKN.1
  have hx := B.exec
  have hb := B.bytes
  have hr := B.returns
  have hts := atoms_spec (ws := wsX7_partOf) B.pre
  have hown : s.vm.findClass RX7 = some m.cls := findClass_of_methodNamed B.named
  have hlocks := B.notSynchronized
  have hiX7 : ∀ w ∈ wsX70, w ∈ wsX7_partOf := by decide +kernel
  have hf13 := hts (.fieldLink RX7 13 "LookBenchModel" "good" "[I") (by decide +kernel)
  have hf17 := hts (.fieldLink RX7 17 "LookBenchModel" "bad" "[I") (by decide +kernel)
  have hf20 := hts (.fieldLink RX7 20 "LookBenchModel" "price" "[I") (by decide +kernel)
  have hf30 := hts (.fieldLink RX7 30 "LookBenchModel" "seen" "[I") (by decide +kernel)
  have hS : va_S aN s.heap s.heap [] := va_S.rf
  have hl := lv_entry ([.ref m0, .int p0, .int wh]) (n := 3) (Nat.le_of_ble_eq_true rfl)
  rw [lg_entry_eq]
  generalize (lg_sl ([.ref m0, .int p0, .int wh]) ++ List.replicate (3 - (lg_sl ([.ref m0, .int p0, .int wh])).length) Slot.unset).toArray = ls at hl ⊢
  have hl : lv_has ls 3 [(0, .ref m0), (1, .int p0), (2, .int wh)] := hl
  generalize hQ : MQ below _ _ s _ _ _ = Q
  obtain ⟨H, hH⟩ : ∃ z, z = s.heap := ⟨_, rfl⟩
  have hP : va_P D vwCl [(m0, .inr (7, [.int (nI n), .ref g1, .ref g2, .ref g3, .int mr, .ref g4, .int my, .ref g5, .int mo, .ref g6, .int ml, .ref g7, .ref g8, .ref g9, .ref g10, .ref g11, .ref g12])), (g1, .inl (cI, 9, .inl fg)), (g2, .inl (cI, 9, .inl fb)), (g3, .inl (cI, 9, .inl fp)), (g5, .inl (cI, 9, .inl fn))] H := by rw [hH]; exact hP
  have hS : va_S aN s.heap H [] := by rw [hH]; exact hS
  refine m_heap hH ?_
  clear hH
  refine lv_aload_n hx hb dX7_partOf_0 rfl (lv_at hl 0 rfl) ?_
  refine lv_iload_n hx hb dX7_partOf_1 rfl (lv_at hl 1 rfl) ?_
  refine pu_i (va_runV (As := [.int p0]) (rest := []) ⟨hx, hb, hml, hown, hts⟩ (c_X7_isPart l D cI cJ cZ m0 g1 g2 g3 g4 g5 g6 g7 g8 g9 g10 g11 g12 n mr my mo ml p0 (by first | assumption | omega) (by first | assumption | omega)) (cwV 1 hts gX7_partOf_X7_isPart rfl rfl rfl (by decide +kernel) ⟨Nat.le_of_ble_eq_true rfl, Nat.le_of_ble_eq_true rfl⟩) ⟨pc_blind, va_recv hK hP (ci := 7) (q0 := 0) rfl rfl, fun U hU hW => ⟨rfl, by rw [hU]; exact hP.sub (ws' := [(m0, .inr (7, [.int (nI n), .ref g1, .ref g2, .ref g3, .int mr, .ref g4, .int my, .ref g5, .int mo, .ref g6, .int ml, .ref g7, .ref g8, .ref g9, .ref g10, .ref g11, .ref g12]))]) [0] rfl, hKN.warm hW⟩⟩ rfl rfl hl.1 rfl (lv_room (Nat.le_of_ble_eq_true rfl)) dX7_partOf_2 ⟨Nat.le_of_ble_eq_true rfl, Nat.le_of_ble_eq_true rfl⟩) hS hP (fun r1 H locs w1r hP hS => ?_)
  have w1 : B01 r1 (0 ≤ p0.toInt ∧ p0.toInt < n) := w1r
  clear w1r
  rcases w1 with ⟨rfl, w1⟩ | ⟨rfl, w1⟩
  · skip
    obtain ⟨j9, hj9, rfl⟩ := m_nat w1
    have t9 : (nI j9).toInt = (j9 : Int) := nI_toInt (by omega)
    refine lv_if_ne (tgt := 11) hx hb dX7_partOf_5 (by decide) (fun c2 => ?_) (fun c2 => ?_)
    · skip
      refine lv_iload_n hx hb dX7_partOf_11 rfl (lv_at hl 2 rfl) ?_
      refine lv_if_ne (tgt := 24) hx hb dX7_partOf_12 (by decide) (fun c3 => ?_) (fun c3 => ?_)
      · skip
        refine lv_iload_n hx hb dX7_partOf_24 rfl (lv_at hl 2 rfl) ?_
        refine lv_iconst (v := nI 1) hx hb dX7_partOf_25 (by decide) ?_
        refine lv_icmp_ne (tgt := 38) hx hb dX7_partOf_26 (by decide) (fun c4 => ?_) (fun c4 => ?_)
        · skip
          refine lv_iload_n hx hb dX7_partOf_38 rfl (lv_at hl 2 rfl) ?_
          refine lv_iconst (v := nI 2) hx hb dX7_partOf_39 (by decide) ?_
          refine lv_icmp_ne (tgt := 52) hx hb dX7_partOf_40 (by decide) (fun c5 => ?_) (fun c5 => ?_)
          · skip
            refine lv_iload_n hx hb dX7_partOf_52 rfl (lv_at hl 2 rfl) ?_
            refine lv_iconst (v := nI 3) hx hb dX7_partOf_53 (by decide) ?_
            refine lv_icmp_ne (tgt := 66) hx hb dX7_partOf_54 (by decide) (fun c6 => ?_) (fun c6 => ?_)
            · skip
              refine lv_bipush (v := (-2 : Int32)) hx hb dX7_partOf_66 (by decide) ?_
              rw [← hQ]
              exact W.iret (v := (-2 : Int32)) hx hb hr (fun tS htS hWS => ⟨⟨(-2 : Int32), (), rfl, by rw [pO_in hj9 hn]; unfold qO; first | rw [if_pos (show wh = nI 0 from c3)] | rw [if_neg (show ¬ wh = nI 0 from c3), if_pos c4] | rw [if_neg (show ¬ wh = nI 0 from c3), if_neg c4, if_pos c5] | rw [if_neg (show ¬ wh = nI 0 from c3), if_neg c4, if_neg c5, if_pos c6] | rw [if_neg (show ¬ wh = nI 0 from c3), if_neg c4, if_neg c5, if_neg c6], trivial⟩, hS.F htS⟩) hS.2.2 dX7_partOf_68
            · skip
              refine lv_aload_n hx hb dX7_partOf_57 rfl (lv_at hl 0 rfl) ?_
              refine va_get (D := D) (ci := 7) (v := .ref g5) (C := RX7) (T := TX7) (N := 17) hx hb hts hiX7 hown hK hP 0 rfl rfl 7 (by decide) hf30 (fun _ h9 => h9) rfl dX7_partOf_58 ?_
              refine lv_iload_n hx hb dX7_partOf_61 rfl (lv_at hl 1 rfl) ?_
              refine va_iald hx hb hK hP 4 0 rfl rfl (i := nI j9) (vp_in_nI (by omega) (by omega)) dX7_partOf_62 ?_
              refine cn_i (y := fn j9) (congrArg fn (nI_clamp (by omega))) ?_
              refine lv_goto (tgt := 68) hx hb dX7_partOf_63 (by decide) ?_
              rw [← hQ]
              exact W.iret (v := fn j9) hx hb hr (fun tS htS hWS => ⟨⟨(fn j9), (), rfl, by rw [pO_in hj9 hn]; unfold qO; first | rw [if_pos (show wh = nI 0 from c3)] | rw [if_neg (show ¬ wh = nI 0 from c3), if_pos c4] | rw [if_neg (show ¬ wh = nI 0 from c3), if_neg c4, if_pos c5] | rw [if_neg (show ¬ wh = nI 0 from c3), if_neg c4, if_neg c5, if_pos c6] | rw [if_neg (show ¬ wh = nI 0 from c3), if_neg c4, if_neg c5, if_neg c6], trivial⟩, hS.F htS⟩) hS.2.2 dX7_partOf_68
          · skip
            refine lv_aload_n hx hb dX7_partOf_43 rfl (lv_at hl 0 rfl) ?_
            refine va_get (D := D) (ci := 7) (v := .ref g3) (C := RX7) (T := TX7) (N := 17) hx hb hts hiX7 hown hK hP 0 rfl rfl 3 (by decide) hf20 (fun _ h9 => h9) rfl dX7_partOf_44 ?_
            refine lv_iload_n hx hb dX7_partOf_47 rfl (lv_at hl 1 rfl) ?_
            refine va_iald hx hb hK hP 3 0 rfl rfl (i := nI j9) (vp_in_nI (by omega) (by omega)) dX7_partOf_48 ?_
            refine cn_i (y := fp j9) (congrArg fp (nI_clamp (by omega))) ?_
            refine lv_goto (tgt := 68) hx hb dX7_partOf_49 (by decide) ?_
            rw [← hQ]
            exact W.iret (v := fp j9) hx hb hr (fun tS htS hWS => ⟨⟨(fp j9), (), rfl, by rw [pO_in hj9 hn]; unfold qO; first | rw [if_pos (show wh = nI 0 from c3)] | rw [if_neg (show ¬ wh = nI 0 from c3), if_pos c4] | rw [if_neg (show ¬ wh = nI 0 from c3), if_neg c4, if_pos c5] | rw [if_neg (show ¬ wh = nI 0 from c3), if_neg c4, if_neg c5, if_pos c6] | rw [if_neg (show ¬ wh = nI 0 from c3), if_neg c4, if_neg c5, if_neg c6], trivial⟩, hS.F htS⟩) hS.2.2 dX7_partOf_68
        · skip
          refine lv_aload_n hx hb dX7_partOf_29 rfl (lv_at hl 0 rfl) ?_
          refine va_get (D := D) (ci := 7) (v := .ref g2) (C := RX7) (T := TX7) (N := 17) hx hb hts hiX7 hown hK hP 0 rfl rfl 2 (by decide) hf17 (fun _ h9 => h9) rfl dX7_partOf_30 ?_
          refine lv_iload_n hx hb dX7_partOf_33 rfl (lv_at hl 1 rfl) ?_
          refine va_iald hx hb hK hP 2 0 rfl rfl (i := nI j9) (vp_in_nI (by omega) (by omega)) dX7_partOf_34 ?_
          refine cn_i (y := fb j9) (congrArg fb (nI_clamp (by omega))) ?_
          refine lv_goto (tgt := 68) hx hb dX7_partOf_35 (by decide) ?_
          rw [← hQ]
          exact W.iret (v := fb j9) hx hb hr (fun tS htS hWS => ⟨⟨(fb j9), (), rfl, by rw [pO_in hj9 hn]; unfold qO; first | rw [if_pos (show wh = nI 0 from c3)] | rw [if_neg (show ¬ wh = nI 0 from c3), if_pos c4] | rw [if_neg (show ¬ wh = nI 0 from c3), if_neg c4, if_pos c5] | rw [if_neg (show ¬ wh = nI 0 from c3), if_neg c4, if_neg c5, if_pos c6] | rw [if_neg (show ¬ wh = nI 0 from c3), if_neg c4, if_neg c5, if_neg c6], trivial⟩, hS.F htS⟩) hS.2.2 dX7_partOf_68
      · skip
        refine lv_aload_n hx hb dX7_partOf_15 rfl (lv_at hl 0 rfl) ?_
        refine va_get (D := D) (ci := 7) (v := .ref g1) (C := RX7) (T := TX7) (N := 17) hx hb hts hiX7 hown hK hP 0 rfl rfl 1 (by decide) hf13 (fun _ h9 => h9) rfl dX7_partOf_16 ?_
        refine lv_iload_n hx hb dX7_partOf_19 rfl (lv_at hl 1 rfl) ?_
        refine va_iald hx hb hK hP 1 0 rfl rfl (i := nI j9) (vp_in_nI (by omega) (by omega)) dX7_partOf_20 ?_
        refine cn_i (y := fg j9) (congrArg fg (nI_clamp (by omega))) ?_
        refine lv_goto (tgt := 68) hx hb dX7_partOf_21 (by decide) ?_
        rw [← hQ]
        exact W.iret (v := fg j9) hx hb hr (fun tS htS hWS => ⟨⟨(fg j9), (), rfl, by rw [pO_in hj9 hn]; unfold qO; first | rw [if_pos (show wh = nI 0 from c3)] | rw [if_neg (show ¬ wh = nI 0 from c3), if_pos c4] | rw [if_neg (show ¬ wh = nI 0 from c3), if_neg c4, if_pos c5] | rw [if_neg (show ¬ wh = nI 0 from c3), if_neg c4, if_neg c5, if_pos c6] | rw [if_neg (show ¬ wh = nI 0 from c3), if_neg c4, if_neg c5, if_neg c6], trivial⟩, hS.F htS⟩) hS.2.2 dX7_partOf_68
    · exact absurd c2 (by first | decide | exact nz_lt (by omega) | exact fun h => h (nz_ge (by omega)))
  · skip
    refine lv_if_ne (tgt := 11) hx hb dX7_partOf_5 (by decide) (fun c7 => ?_) (fun c7 => ?_)
    · exact absurd c7 (by first | decide | exact nz_lt (by omega) | exact fun h => h (nz_ge (by omega)))
    · skip
      refine lv_bipush (v := (-2 : Int32)) hx hb dX7_partOf_8 (by decide) ?_
      rw [← hQ]
      exact W.iret (v := (-2 : Int32)) hx hb hr (fun tS htS hWS => ⟨⟨(-2 : Int32), (), rfl, (pO_no w1).symm, trivial⟩, hS.F htS⟩) hS.2.2 dX7_partOf_10
def rm_c_X7_now : Room := { frames := 0, cells := 0, slots := 0, locals := 0 }
set_option maxHeartbeats 400000 in
set_option maxRecDepth 100000 in
theorem c_X7_now (l : Launch) (D : va_G) (cI cJ cZ : ClassId) (m0 : Nat) (g1 : Nat) (g2 : Nat) (g3 : Nat) (g4 : Nat) (g5 : Nat) (g6 : Nat) (g7 : Nat) (g8 : Nat) (g9 : Nat) (g10 : Nat) (g11 : Nat) (g12 : Nat) (n : Nat) (mr : Int32) (my : Int32) (mo : Int32) (ml : Int32) (fn : Nat → Int32) (th : Nat → Int32) (hn : n ≤ 9) : Met l yX7_now wsX7_now rm_c_X7_now (pc_ D cI cJ cZ [.ref m0] [(m0, .inr (7, [.int (nI n), .ref g1, .ref g2, .ref g3, .int mr, .ref g4, .int my, .ref g5, .int mo, .ref g6, .int ml, .ref g7, .ref g8, .ref g9, .ref g10, .ref g11, .ref g12])), (g5, .inl (cI, 9, .inl fn)), (g12, .inl (cI, 9, .inl th))]) (va_Qi (fun (r : Int32) (_ : Unit) => r = mnow th fn n) (fun _ _ => True) aN) 0 0 aN := by
  refine Met.ofW (cc := cX7_now) (maxL := 3) (ret := (some .int)) (by decide) rfl ?_
  intro p e s m args below meth c s₁ B hml hv
  obtain ⟨rfl, hP, hKN⟩ := hv
  have hK := hKN.1
  have hx := B.exec
  have hb := B.bytes
  have hr := B.returns
  have hts := atoms_spec (ws := wsX7_now) B.pre
  have hown : s.vm.findClass RX7 = some m.cls := findClass_of_methodNamed B.named
  have hlocks := B.notSynchronized
  have hiX7 : ∀ w ∈ wsX70, w ∈ wsX7_now := by decide +kernel
  have hf7 := hts (.fieldLink RX7 7 "LookBenchModel" "parts" "I") (by decide +kernel)
  have hf30 := hts (.fieldLink RX7 30 "LookBenchModel" "seen" "[I") (by decide +kernel)
  have hf52 := hts (.fieldLink RX7 52 "LookBenchModel" "three" "[I") (by decide +kernel)
  have hS : va_S aN s.heap s.heap [] := va_S.rf
  have hl := lv_entry ([.ref m0]) (n := 3) (Nat.le_of_ble_eq_true rfl)
  rw [lg_entry_eq]
  generalize (lg_sl ([.ref m0]) ++ List.replicate (3 - (lg_sl ([.ref m0])).length) Slot.unset).toArray = ls at hl ⊢
  have hl : lv_has ls 3 [(0, .ref m0)] := hl
  generalize hQ : MQ below _ _ s _ _ _ = Q
  obtain ⟨H, hH⟩ : ∃ z, z = s.heap := ⟨_, rfl⟩
  have hP : va_P D vwCl [(m0, .inr (7, [.int (nI n), .ref g1, .ref g2, .ref g3, .int mr, .ref g4, .int my, .ref g5, .int mo, .ref g6, .int ml, .ref g7, .ref g8, .ref g9, .ref g10, .ref g11, .ref g12])), (g5, .inl (cI, 9, .inl fn)), (g12, .inl (cI, 9, .inl th))] H := by rw [hH]; exact hP
  have hS : va_S aN s.heap H [] := by rw [hH]; exact hS
  refine m_heap hH ?_
  clear hH
  refine lv_iconst (v := nI 0) hx hb dX7_now_0 (by decide) ?_
  refine lv_istore_n (lv' := [(1, .int (nI 0)), (0, .ref m0)]) hx hb dX7_now_1 rfl hl (by decide) rfl (fun ls hl => ?_)
  refine lv_iconst (v := nI 0) hx hb dX7_now_2 (by decide) ?_
  refine lv_istore_n (lv' := [(2, .int (nI 0)), (1, .int (nI 0)), (0, .ref m0)]) hx hb dX7_now_3 rfl hl (by decide) rfl (fun ls hl => ?_)
  have loop1 : ∀ (fu : Nat) (k : Nat) (v : Int32) (H : Heap) (locs : List Loc) (ls : Array Slot), (k ≤ n ∧ n < k + fu) → (v = mnow th fn k) → va_P D vwCl [(m0, .inr (7, [.int (nI n), .ref g1, .ref g2, .ref g3, .int mr, .ref g4, .int my, .ref g5, .int mo, .ref g6, .int ml, .ref g7, .ref g8, .ref g9, .ref g10, .ref g11, .ref g12])), (g5, .inl (cI, 9, .inl fn)), (g12, .inl (cI, 9, .inl th))] H → va_S aN s.heap H locs → lv_has ls 3 [(2, .int (nI k)), (1, .int v), (0, .ref m0)] → W p l e (headSpec wsX7_now rm_c_X7_now).room s m ([.ref m0] : List Value).toArray below meth c H locs 0 0 Q (F0 m 4 ls []) := by
    intro fu
    induction fu with
    | zero => intro k v H locs ls hk hv; exact absurd hk (by omega)
    | succ fu ih1 =>
      intro k v H locs ls hk hv hP hS hl
      refine lv_iload_n hx hb dX7_now_4 rfl (lv_at hl 0 rfl) ?_
      refine lv_aload_n hx hb dX7_now_5 rfl (lv_at hl 2 rfl) ?_
      refine va_get (D := D) (ci := 7) (v := .int (nI n)) (C := RX7) (T := TX7) (N := 17) hx hb hts hiX7 hown hK hP 0 rfl rfl 0 (by decide) hf7 (fun _ h9 => h9) rfl dX7_now_6 ?_
      refine lv_icmp_ge (tgt := 56) hx hb dX7_now_9 (by decide) (fun c2 => ?_) (fun c2 => ?_)
      · skip
        have d2 := c2
        rw [nI_leI (by omega) (by omega)] at d2
        refine lv_iload_n hx hb dX7_now_56 rfl (lv_at hl 1 rfl) ?_
        rw [← hQ]
        exact W.iret (v := v) hx hb hr (fun tS htS hWS => ⟨⟨v, (), rfl, by rw [hv, show k = n by omega], trivial⟩, hS.F htS⟩) hS.2.2 dX7_now_57
      · skip
        have d2 := c2
        rw [nI_leI (by omega) (by omega)] at d2
        refine lv_iload_n hx hb dX7_now_12 rfl (lv_at hl 1 rfl) ?_
        refine lv_aload_n hx hb dX7_now_13 rfl (lv_at hl 2 rfl) ?_
        refine va_get (D := D) (ci := 7) (v := .ref g12) (C := RX7) (T := TX7) (N := 17) hx hb hts hiX7 hown hK hP 0 rfl rfl 16 (by decide) hf52 (fun _ h9 => h9) rfl dX7_now_14 ?_
        refine lv_iload_n hx hb dX7_now_17 rfl (lv_at hl 0 rfl) ?_
        refine va_iald hx hb hK hP 2 0 rfl rfl (i := nI k) (vp_in_nI (by omega) (by omega)) dX7_now_18 ?_
        refine cn_i (y := th k) (congrArg th (nI_clamp (by omega))) ?_
        refine lv_aload_n hx hb dX7_now_19 rfl (lv_at hl 2 rfl) ?_
        refine va_get (D := D) (ci := 7) (v := .ref g5) (C := RX7) (T := TX7) (N := 17) hx hb hts hiX7 hown hK hP 0 rfl rfl 7 (by decide) hf30 (fun _ h9 => h9) rfl dX7_now_20 ?_
        refine lv_iload_n hx hb dX7_now_23 rfl (lv_at hl 0 rfl) ?_
        refine va_iald hx hb hK hP 1 0 rfl rfl (i := nI k) (vp_in_nI (by omega) (by omega)) dX7_now_24 ?_
        refine cn_i (y := fn k) (congrArg fn (nI_clamp (by omega))) ?_
        refine lv_iconst (v := nI 1) hx hb dX7_now_25 (by decide) ?_
        refine lv_icmp_ne (tgt := 33) hx hb dX7_now_26 (by decide) (fun c3 => ?_) (fun c3 => ?_)
        · skip
          refine lv_aload_n hx hb dX7_now_33 rfl (lv_at hl 2 rfl) ?_
          refine va_get (D := D) (ci := 7) (v := .ref g5) (C := RX7) (T := TX7) (N := 17) hx hb hts hiX7 hown hK hP 0 rfl rfl 7 (by decide) hf30 (fun _ h9 => h9) rfl dX7_now_34 ?_
          refine lv_iload_n hx hb dX7_now_37 rfl (lv_at hl 0 rfl) ?_
          refine va_iald hx hb hK hP 1 0 rfl rfl (i := nI k) (vp_in_nI (by omega) (by omega)) dX7_now_38 ?_
          refine cn_i (y := fn k) (congrArg fn (nI_clamp (by omega))) ?_
          refine lv_if_ne (tgt := 46) hx hb dX7_now_39 (by decide) (fun c4 => ?_) (fun c4 => ?_)
          · skip
            refine lv_iconst (v := nI 0) hx hb dX7_now_46 (by decide) ?_
            refine lv_imul hx hb dX7_now_47 ?_
            refine lv_iadd hx hb dX7_now_48 ?_
            refine lv_istore_n (lv' := [(1, .int (v + ((th k) * (nI 0)))), (2, .int (nI k)), (0, .ref m0)]) hx hb dX7_now_49 rfl hl (by decide) rfl (fun ls hl => ?_)
            refine lv_iinc (v := nI (k + 1)) (lv' := [(2, .int (nI (k + 1))), (1, .int (v + ((th k) * (nI 0)))), (0, .ref m0)]) hx hb dX7_now_50 hl (k := 1) rfl (nI_1 k) (by decide) rfl (fun ls hl => ?_)
            refine lv_goto (tgt := 4) hx hb dX7_now_53 (by decide) ?_
            exact ih1 (k + 1) (v + ((th k) * (nI 0))) _ _ _ (by omega) (by rw [hv]; simp only [mnow]; first | rw [if_pos c3] | rw [if_neg c3, if_pos c4] | rw [if_neg c3, if_neg c4]) hP hS (lv_sub hl [0, 1, 2] rfl)
          · skip
            refine lv_iconst (v := nI 2) hx hb dX7_now_42 (by decide) ?_
            refine lv_goto (tgt := 47) hx hb dX7_now_43 (by decide) ?_
            refine lv_imul hx hb dX7_now_47 ?_
            refine lv_iadd hx hb dX7_now_48 ?_
            refine lv_istore_n (lv' := [(1, .int (v + ((th k) * (nI 2)))), (2, .int (nI k)), (0, .ref m0)]) hx hb dX7_now_49 rfl hl (by decide) rfl (fun ls hl => ?_)
            refine lv_iinc (v := nI (k + 1)) (lv' := [(2, .int (nI (k + 1))), (1, .int (v + ((th k) * (nI 2)))), (0, .ref m0)]) hx hb dX7_now_50 hl (k := 1) rfl (nI_1 k) (by decide) rfl (fun ls hl => ?_)
            refine lv_goto (tgt := 4) hx hb dX7_now_53 (by decide) ?_
            exact ih1 (k + 1) (v + ((th k) * (nI 2))) _ _ _ (by omega) (by rw [hv]; simp only [mnow]; first | rw [if_pos c3] | rw [if_neg c3, if_pos c4] | rw [if_neg c3, if_neg c4]) hP hS (lv_sub hl [0, 1, 2] rfl)
        · skip
          refine lv_iconst (v := nI 1) hx hb dX7_now_29 (by decide) ?_
          refine lv_goto (tgt := 47) hx hb dX7_now_30 (by decide) ?_
          refine lv_imul hx hb dX7_now_47 ?_
          refine lv_iadd hx hb dX7_now_48 ?_
          refine lv_istore_n (lv' := [(1, .int (v + ((th k) * (nI 1)))), (2, .int (nI k)), (0, .ref m0)]) hx hb dX7_now_49 rfl hl (by decide) rfl (fun ls hl => ?_)
          refine lv_iinc (v := nI (k + 1)) (lv' := [(2, .int (nI (k + 1))), (1, .int (v + ((th k) * (nI 1)))), (0, .ref m0)]) hx hb dX7_now_50 hl (k := 1) rfl (nI_1 k) (by decide) rfl (fun ls hl => ?_)
          refine lv_goto (tgt := 4) hx hb dX7_now_53 (by decide) ?_
          exact ih1 (k + 1) (v + ((th k) * (nI 1))) _ _ _ (by omega) (by rw [hv]; simp only [mnow]; first | rw [if_pos c3] | rw [if_neg c3, if_pos c4] | rw [if_neg c3, if_neg c4]) hP hS (lv_sub hl [0, 1, 2] rfl)
  exact loop1 (n + 1) 0 (nI 0) _ _ _ (by omega) rfl hP hS (lv_sub hl [0, 1, 2] rfl)
def rm_c_X7_digit : Room := { frames := 0, cells := 0, slots := 0, locals := 0 }
set_option maxHeartbeats 400000 in
set_option maxRecDepth 100000 in
theorem c_X7_digit (l : Launch) (D : va_G) (cI cJ cZ : ClassId) (m0 : Nat) (g1 : Nat) (g2 : Nat) (g3 : Nat) (g4 : Nat) (g5 : Nat) (g6 : Nat) (g7 : Nat) (g8 : Nat) (g9 : Nat) (g10 : Nat) (g11 : Nat) (g12 : Nat) (j : Nat) (mp : Int32) (mr : Int32) (my : Int32) (mo : Int32) (ml : Int32) (cc0 : Int32) (th : Nat → Int32) (hj : j < 9) (ht : ¬ th j = 0) : Met l yX7_digit wsX7_digit rm_c_X7_digit (pc_ D cI cJ cZ [.ref m0, .int cc0, .int (nI j)] [(m0, .inr (7, [.int mp, .ref g1, .ref g2, .ref g3, .int mr, .ref g4, .int my, .ref g5, .int mo, .ref g6, .int ml, .ref g7, .ref g8, .ref g9, .ref g10, .ref g11, .ref g12])), (g12, .inl (cI, 9, .inl th))]) (va_Qi (fun (r : Int32) (_ : Unit) => r = dgt th cc0 j) (fun _ _ => True) aN) 0 0 aN := by
  refine Met.ofW (cc := cX7_digit) (maxL := 3) (ret := (some .int)) (by decide) rfl ?_
  intro p e s m args below meth c s₁ B hml hv
  obtain ⟨rfl, hP, hKN⟩ := hv
  have hK := hKN.1
  have hx := B.exec
  have hb := B.bytes
  have hr := B.returns
  have hts := atoms_spec (ws := wsX7_digit) B.pre
  have hown : s.vm.findClass RX7 = some m.cls := findClass_of_methodNamed B.named
  have hlocks := B.notSynchronized
  have hiX7 : ∀ w ∈ wsX70, w ∈ wsX7_digit := by decide +kernel
  have hf52 := hts (.fieldLink RX7 52 "LookBenchModel" "three" "[I") (by decide +kernel)
  have hS : va_S aN s.heap s.heap [] := va_S.rf
  have hl := lv_entry ([.ref m0, .int cc0, .int (nI j)]) (n := 3) (Nat.le_of_ble_eq_true rfl)
  rw [lg_entry_eq]
  generalize (lg_sl ([.ref m0, .int cc0, .int (nI j)]) ++ List.replicate (3 - (lg_sl ([.ref m0, .int cc0, .int (nI j)])).length) Slot.unset).toArray = ls at hl ⊢
  have hl : lv_has ls 3 [(0, .ref m0), (1, .int cc0), (2, .int (nI j))] := hl
  generalize hQ : MQ below _ _ s _ _ _ = Q
  obtain ⟨H, hH⟩ : ∃ z, z = s.heap := ⟨_, rfl⟩
  have hP : va_P D vwCl [(m0, .inr (7, [.int mp, .ref g1, .ref g2, .ref g3, .int mr, .ref g4, .int my, .ref g5, .int mo, .ref g6, .int ml, .ref g7, .ref g8, .ref g9, .ref g10, .ref g11, .ref g12])), (g12, .inl (cI, 9, .inl th))] H := by rw [hH]; exact hP
  have hS : va_S aN s.heap H [] := by rw [hH]; exact hS
  refine m_heap hH ?_
  clear hH
  refine lv_iload_n hx hb dX7_digit_0 rfl (lv_at hl 1 rfl) ?_
  refine lv_aload_n hx hb dX7_digit_1 rfl (lv_at hl 0 rfl) ?_
  refine va_get (D := D) (ci := 7) (v := .ref g12) (C := RX7) (T := TX7) (N := 17) hx hb hts hiX7 hown hK hP 0 rfl rfl 16 (by decide) hf52 (fun _ h9 => h9) rfl dX7_digit_2 ?_
  refine lv_iload_n hx hb dX7_digit_5 rfl (lv_at hl 2 rfl) ?_
  refine va_iald hx hb hK hP 1 0 rfl rfl (i := nI j) (vp_in_nI (by omega) (by omega)) dX7_digit_6 ?_
  refine cn_i (y := th j) (congrArg th (nI_clamp (by omega))) ?_
  refine lv_idiv hx hb dX7_digit_7 (ht) ?_
  refine lv_iconst (v := nI 3) hx hb dX7_digit_8 (by decide) ?_
  refine lv_irem hx hb dX7_digit_9 (by decide) ?_
  rw [← hQ]
  exact W.iret (v := (cc0 / (th j)) - (cc0 / (th j)) / (nI 3) * (nI 3)) hx hb hr (fun tS htS hWS => ⟨⟨((cc0 / (th j)) - (cc0 / (th j)) / (nI 3) * (nI 3)), (), rfl, rfl, trivial⟩, hS.F htS⟩) hS.2.2 dX7_digit_10
def rm_c_X7_left : Room := { frames := 1, cells := 0, slots := 0, locals := 22 }
set_option maxHeartbeats 400000 in
set_option maxRecDepth 100000 in
theorem c_X7_left (l : Launch) (D : va_G) (cI cJ cZ : ClassId) (m0 : Nat) (g1 : Nat) (g2 : Nat) (g3 : Nat) (g4 : Nat) (g5 : Nat) (g6 : Nat) (g7 : Nat) (g8 : Nat) (g9 : Nat) (g10 : Nat) (g11 : Nat) (g12 : Nat) (n : Nat) (mr : Int32) (my : Int32) (mo : Int32) (ml : Int32) (cc0 : Int32) (fg : Nat → Int32) (fb : Nat → Int32) (th : Nat → Int32) (hn : n ≤ 9) (hth : ∀ z, z < 9 → ¬ th z = 0) : Met l yX7_left wsX7_left rm_c_X7_left (pc_ D cI cJ cZ [.ref m0, .int cc0] [(m0, .inr (7, [.int (nI n), .ref g1, .ref g2, .ref g3, .int mr, .ref g4, .int my, .ref g5, .int mo, .ref g6, .int ml, .ref g7, .ref g8, .ref g9, .ref g10, .ref g11, .ref g12])), (g1, .inl (cI, 9, .inl fg)), (g2, .inl (cI, 9, .inl fb)), (g12, .inl (cI, 9, .inl th))]) (va_Ql (fun (r : Int64) (_ : Unit) => r = mlf fg fb th cc0 n) (fun _ _ => True) aN) 0 0 aN := by
  refine Met.ofW (cc := cX7_left) (maxL := 6) (ret := (some .long)) (by decide) rfl ?_
  intro p e s m args below meth c s₁ B hml hv
  obtain ⟨rfl, hP, hKN⟩ := hv
  have hK := hKN.1
  have hx := B.exec
  have hb := B.bytes
  have hr := B.returns
  have hts := atoms_spec (ws := wsX7_left) B.pre
  have hown : s.vm.findClass RX7 = some m.cls := findClass_of_methodNamed B.named
  have hlocks := B.notSynchronized
  have hiX7 : ∀ w ∈ wsX70, w ∈ wsX7_left := by decide +kernel
  have hf7 := hts (.fieldLink RX7 7 "LookBenchModel" "parts" "I") (by decide +kernel)
  have hf13 := hts (.fieldLink RX7 13 "LookBenchModel" "good" "[I") (by decide +kernel)
  have hf17 := hts (.fieldLink RX7 17 "LookBenchModel" "bad" "[I") (by decide +kernel)
  have hS : va_S aN s.heap s.heap [] := va_S.rf
  have hl := lv_entry ([.ref m0, .int cc0]) (n := 6) (Nat.le_of_ble_eq_true rfl)
  rw [lg_entry_eq]
  generalize (lg_sl ([.ref m0, .int cc0]) ++ List.replicate (6 - (lg_sl ([.ref m0, .int cc0])).length) Slot.unset).toArray = ls at hl ⊢
  have hl : lv_has ls 6 [(0, .ref m0), (1, .int cc0)] := hl
  generalize hQ : MQ below _ _ s _ _ _ = Q
  obtain ⟨H, hH⟩ : ∃ z, z = s.heap := ⟨_, rfl⟩
  have hP : va_P D vwCl [(m0, .inr (7, [.int (nI n), .ref g1, .ref g2, .ref g3, .int mr, .ref g4, .int my, .ref g5, .int mo, .ref g6, .int ml, .ref g7, .ref g8, .ref g9, .ref g10, .ref g11, .ref g12])), (g1, .inl (cI, 9, .inl fg)), (g2, .inl (cI, 9, .inl fb)), (g12, .inl (cI, 9, .inl th))] H := by rw [hH]; exact hP
  have hS : va_S aN s.heap H [] := by rw [hH]; exact hS
  refine m_heap hH ?_
  clear hH
  refine lv_lconst (v := lN 1) hx hb dX7_left_0 (by decide) ?_
  refine lv_lstore_n (lv' := [(2, .long (lN 1)), (0, .ref m0), (1, .int cc0)]) hx hb dX7_left_1 rfl hl (by decide) rfl (fun ls hl => ?_)
  refine lv_iconst (v := nI 0) hx hb dX7_left_2 (by decide) ?_
  refine lv_istore (lv' := [(4, .int (nI 0)), (2, .long (lN 1)), (0, .ref m0), (1, .int cc0)]) hx hb dX7_left_3 hl (by decide) rfl (fun ls hl => ?_)
  have loop1 : ∀ (fu : Nat) (k : Nat) (v : Int64) (H : Heap) (locs : List Loc) (ls : Array Slot), (k ≤ n ∧ n < k + fu) → (v = mlf fg fb th cc0 k) → va_P D vwCl [(m0, .inr (7, [.int (nI n), .ref g1, .ref g2, .ref g3, .int mr, .ref g4, .int my, .ref g5, .int mo, .ref g6, .int ml, .ref g7, .ref g8, .ref g9, .ref g10, .ref g11, .ref g12])), (g1, .inl (cI, 9, .inl fg)), (g2, .inl (cI, 9, .inl fb)), (g12, .inl (cI, 9, .inl th))] H → va_S aN s.heap H locs → lv_has ls 6 [(4, .int (nI k)), (2, .long v), (0, .ref m0), (1, .int cc0)] → W p l e (headSpec wsX7_left rm_c_X7_left).room s m ([.ref m0, .int cc0] : List Value).toArray below meth c H locs 0 0 Q (F0 m 5 ls []) := by
    intro fu
    induction fu with
    | zero => intro k v H locs ls hk hv; exact absurd hk (by omega)
    | succ fu ih1 =>
      intro k v H locs ls hk hv hP hS hl
      refine lv_iload hx hb dX7_left_5 (lv_at hl 0 rfl) ?_
      refine lv_aload_n hx hb dX7_left_7 rfl (lv_at hl 2 rfl) ?_
      refine va_get (D := D) (ci := 7) (v := .int (nI n)) (C := RX7) (T := TX7) (N := 17) hx hb hts hiX7 hown hK hP 0 rfl rfl 0 (by decide) hf7 (fun _ h9 => h9) rfl dX7_left_8 ?_
      refine lv_icmp_ge (tgt := 82) hx hb dX7_left_11 (by decide) (fun c2 => ?_) (fun c2 => ?_)
      · skip
        have d2 := c2
        rw [nI_leI (by omega) (by omega)] at d2
        refine lv_lload_n hx hb dX7_left_82 rfl (lv_at hl 1 rfl) ?_
        rw [← hQ]
        exact W.lret (v := v) hx hb hr (fun tS htS hWS => ⟨⟨v, (), rfl, by rw [hv, show k = n by omega], trivial⟩, hS.F htS⟩) hS.2.2 dX7_left_83
      · skip
        have d2 := c2
        rw [nI_leI (by omega) (by omega)] at d2
        refine lv_aload_n hx hb dX7_left_14 rfl (lv_at hl 2 rfl) ?_
        refine lv_iload_n hx hb dX7_left_15 rfl (lv_at hl 3 rfl) ?_
        refine lv_iload hx hb dX7_left_16 (lv_at hl 0 rfl) ?_
        refine pu_i (va_runV (As := [.int cc0, .int (nI k)]) (rest := []) ⟨hx, hb, hml, hown, hts⟩ (c_X7_digit l D cI cJ cZ m0 g1 g2 g3 g4 g5 g6 g7 g8 g9 g10 g11 g12 k (nI n) mr my mo ml cc0 th (by first | assumption | omega) (by exact hth k (by omega))) (cwV 2 hts gX7_left_X7_digit rfl rfl rfl (by decide +kernel) ⟨Nat.le_of_ble_eq_true rfl, Nat.le_of_ble_eq_true rfl⟩) ⟨pc_blind, va_recv hK hP (ci := 7) (q0 := 0) rfl rfl, fun U hU hW => ⟨rfl, by rw [hU]; exact hP.sub (ws' := [(m0, .inr (7, [.int (nI n), .ref g1, .ref g2, .ref g3, .int mr, .ref g4, .int my, .ref g5, .int mo, .ref g6, .int ml, .ref g7, .ref g8, .ref g9, .ref g10, .ref g11, .ref g12])), (g12, .inl (cI, 9, .inl th))]) [0, 3] rfl, hKN.warm hW⟩⟩ rfl rfl hl.1 rfl (lv_room (Nat.le_of_ble_eq_true rfl)) dX7_left_18 ⟨Nat.le_of_ble_eq_true rfl, Nat.le_of_ble_eq_true rfl⟩) hS hP (fun r3 H locs w3r hP hS => ?_)
        have w3 : r3 = dgt th cc0 k := w3r
        clear w3r
        obtain rfl : r3 = dgt th cc0 k := w3
        refine lv_istore (lv' := [(5, .int (dgt th cc0 k)), (4, .int (nI k)), (2, .long v), (0, .ref m0), (1, .int cc0)]) hx hb dX7_left_21 hl (by decide) rfl (fun ls hl => ?_)
        refine lv_lload_n hx hb dX7_left_23 rfl (lv_at hl 2 rfl) ?_
        refine lv_iload hx hb dX7_left_24 (lv_at hl 0 rfl) ?_
        refine lv_iconst (v := nI 1) hx hb dX7_left_26 (by decide) ?_
        refine lv_icmp_ne (tgt := 41) hx hb dX7_left_27 (by decide) (fun c4 => ?_) (fun c4 => ?_)
        · skip
          refine lv_iload hx hb dX7_left_41 (lv_at hl 0 rfl) ?_
          refine lv_iconst (v := nI 2) hx hb dX7_left_43 (by decide) ?_
          refine lv_icmp_ne (tgt := 58) hx hb dX7_left_44 (by decide) (fun c5 => ?_) (fun c5 => ?_)
          · skip
            refine lv_aload_n hx hb dX7_left_58 rfl (lv_at hl 3 rfl) ?_
            refine va_get (D := D) (ci := 7) (v := .ref g1) (C := RX7) (T := TX7) (N := 17) hx hb hts hiX7 hown hK hP 0 rfl rfl 1 (by decide) hf13 (fun _ h9 => h9) rfl dX7_left_59 ?_
            refine lv_iload hx hb dX7_left_62 (lv_at hl 1 rfl) ?_
            refine va_iald hx hb hK hP 1 0 rfl rfl (i := nI k) (vp_in_nI (by omega) (by omega)) dX7_left_64 ?_
            refine cn_i (y := fg k) (congrArg fg (nI_clamp (by omega))) ?_
            refine lv_aload_n hx hb dX7_left_65 rfl (lv_at hl 3 rfl) ?_
            refine va_get (D := D) (ci := 7) (v := .ref g2) (C := RX7) (T := TX7) (N := 17) hx hb hts hiX7 hown hK hP 0 rfl rfl 2 (by decide) hf17 (fun _ h9 => h9) rfl dX7_left_66 ?_
            refine lv_iload hx hb dX7_left_69 (lv_at hl 1 rfl) ?_
            refine va_iald hx hb hK hP 2 0 rfl rfl (i := nI k) (vp_in_nI (by omega) (by omega)) dX7_left_71 ?_
            refine cn_i (y := fb k) (congrArg fb (nI_clamp (by omega))) ?_
            refine lv_iadd hx hb dX7_left_72 ?_
            refine lv_i2l hx hb dX7_left_73 rfl ?_
            refine lv_lmul hx hb dX7_left_74 ?_
            refine lv_lstore_n (lv' := [(2, .long (v * (((fg k) + (fb k)).toInt64))), (5, .int (dgt th cc0 k)), (4, .int (nI k)), (0, .ref m0), (1, .int cc0)]) hx hb dX7_left_75 rfl hl (by decide) rfl (fun ls hl => ?_)
            refine lv_iinc (v := nI (k + 1)) (lv' := [(4, .int (nI (k + 1))), (2, .long (v * (((fg k) + (fb k)).toInt64))), (5, .int (dgt th cc0 k)), (0, .ref m0), (1, .int cc0)]) hx hb dX7_left_76 hl (k := 2) rfl (nI_1 k) (by decide) rfl (fun ls hl => ?_)
            refine lv_goto (tgt := 5) hx hb dX7_left_79 (by decide) ?_
            exact ih1 (k + 1) (v * (((fg k) + (fb k)).toInt64)) _ _ _ (by omega) (by rw [hv]; simp only [mlf]; first | rw [if_pos c4] | rw [if_neg c4, if_pos c5] | rw [if_neg c4, if_neg c5]) hP hS (lv_sub hl [0, 1, 3, 4] rfl)
          · skip
            refine lv_aload_n hx hb dX7_left_47 rfl (lv_at hl 3 rfl) ?_
            refine va_get (D := D) (ci := 7) (v := .ref g2) (C := RX7) (T := TX7) (N := 17) hx hb hts hiX7 hown hK hP 0 rfl rfl 2 (by decide) hf17 (fun _ h9 => h9) rfl dX7_left_48 ?_
            refine lv_iload hx hb dX7_left_51 (lv_at hl 1 rfl) ?_
            refine va_iald hx hb hK hP 2 0 rfl rfl (i := nI k) (vp_in_nI (by omega) (by omega)) dX7_left_53 ?_
            refine cn_i (y := fb k) (congrArg fb (nI_clamp (by omega))) ?_
            refine lv_i2l hx hb dX7_left_54 rfl ?_
            refine lv_goto (tgt := 74) hx hb dX7_left_55 (by decide) ?_
            refine lv_lmul hx hb dX7_left_74 ?_
            refine lv_lstore_n (lv' := [(2, .long (v * ((fb k).toInt64))), (5, .int (dgt th cc0 k)), (4, .int (nI k)), (0, .ref m0), (1, .int cc0)]) hx hb dX7_left_75 rfl hl (by decide) rfl (fun ls hl => ?_)
            refine lv_iinc (v := nI (k + 1)) (lv' := [(4, .int (nI (k + 1))), (2, .long (v * ((fb k).toInt64))), (5, .int (dgt th cc0 k)), (0, .ref m0), (1, .int cc0)]) hx hb dX7_left_76 hl (k := 2) rfl (nI_1 k) (by decide) rfl (fun ls hl => ?_)
            refine lv_goto (tgt := 5) hx hb dX7_left_79 (by decide) ?_
            exact ih1 (k + 1) (v * ((fb k).toInt64)) _ _ _ (by omega) (by rw [hv]; simp only [mlf]; first | rw [if_pos c4] | rw [if_neg c4, if_pos c5] | rw [if_neg c4, if_neg c5]) hP hS (lv_sub hl [0, 1, 3, 4] rfl)
        · skip
          refine lv_aload_n hx hb dX7_left_30 rfl (lv_at hl 3 rfl) ?_
          refine va_get (D := D) (ci := 7) (v := .ref g1) (C := RX7) (T := TX7) (N := 17) hx hb hts hiX7 hown hK hP 0 rfl rfl 1 (by decide) hf13 (fun _ h9 => h9) rfl dX7_left_31 ?_
          refine lv_iload hx hb dX7_left_34 (lv_at hl 1 rfl) ?_
          refine va_iald hx hb hK hP 1 0 rfl rfl (i := nI k) (vp_in_nI (by omega) (by omega)) dX7_left_36 ?_
          refine cn_i (y := fg k) (congrArg fg (nI_clamp (by omega))) ?_
          refine lv_i2l hx hb dX7_left_37 rfl ?_
          refine lv_goto (tgt := 74) hx hb dX7_left_38 (by decide) ?_
          refine lv_lmul hx hb dX7_left_74 ?_
          refine lv_lstore_n (lv' := [(2, .long (v * ((fg k).toInt64))), (5, .int (dgt th cc0 k)), (4, .int (nI k)), (0, .ref m0), (1, .int cc0)]) hx hb dX7_left_75 rfl hl (by decide) rfl (fun ls hl => ?_)
          refine lv_iinc (v := nI (k + 1)) (lv' := [(4, .int (nI (k + 1))), (2, .long (v * ((fg k).toInt64))), (5, .int (dgt th cc0 k)), (0, .ref m0), (1, .int cc0)]) hx hb dX7_left_76 hl (k := 2) rfl (nI_1 k) (by decide) rfl (fun ls hl => ?_)
          refine lv_goto (tgt := 5) hx hb dX7_left_79 (by decide) ?_
          exact ih1 (k + 1) (v * ((fg k).toInt64)) _ _ _ (by omega) (by rw [hv]; simp only [mlf]; first | rw [if_pos c4] | rw [if_neg c4, if_pos c5] | rw [if_neg c4, if_neg c5]) hP hS (lv_sub hl [0, 1, 3, 4] rfl)
  exact loop1 (n + 1) 0 (lN 1) _ _ _ (by omega) rfl hP hS (lv_sub hl [0, 1, 2, 3] rfl)
def rm_c_X7_told : Room := { frames := 2, cells := 0, slots := 0, locals := 47 }
set_option maxHeartbeats 400000 in
set_option maxRecDepth 100000 in
theorem c_X7_told (l : Launch) (D : va_G) (cI cJ cZ : ClassId) (m0 : Nat) (g1 : Nat) (g2 : Nat) (g3 : Nat) (g4 : Nat) (g5 : Nat) (g6 : Nat) (g7 : Nat) (g8 : Nat) (g9 : Nat) (g10 : Nat) (g11 : Nat) (g12 : Nat) (n : Nat) (mr : Int32) (mo : Int32) (ml : Int32) (wh : Int32) (fg : Nat → Int32) (fb : Nat → Int32) (fn : Nat → Int32) (th : Nat → Int32) (hn : n ≤ 9) (hth : ∀ z, z < 9 → ¬ th z = 0) : Met l yX7_told wsX7_told rm_c_X7_told (pc_ D cI cJ cZ [.ref m0, .int wh] [(m0, .inr (7, [.int (nI n), .ref g1, .ref g2, .ref g3, .int mr, .ref g4, .int (-1 : Int32), .ref g5, .int mo, .ref g6, .int ml, .ref g7, .ref g8, .ref g9, .ref g10, .ref g11, .ref g12])), (g1, .inl (cI, 9, .inl fg)), (g2, .inl (cI, 9, .inl fb)), (g5, .inl (cI, 9, .inl fn)), (g12, .inl (cI, 9, .inl th))]) (va_Ql (fun (r : Int64) (_ : Unit) => r = if wh = 0 then mlf fg fb th (mnow th fn n) n else -2) (fun _ _ => True) aN) 0 0 aN := by
  refine Met.ofW (cc := cX7_told) (maxL := 7) (ret := (some .long)) (by decide) rfl ?_
  intro p e s m args below meth c s₁ B hml hv
  obtain ⟨rfl, hP, hKN⟩ := hv
  have hK := hKN.1
  have hx := B.exec
  have hb := B.bytes
  have hr := B.returns
  have hts := atoms_spec (ws := wsX7_told) B.pre
  have hown : s.vm.findClass RX7 = some m.cls := findClass_of_methodNamed B.named
  have hlocks := B.notSynchronized
  have hiX7 : ∀ w ∈ wsX70, w ∈ wsX7_told := by decide +kernel
  have hf27 := hts (.fieldLink RX7 27 "LookBenchModel" "system" "I") (by decide +kernel)
  have hS : va_S aN s.heap s.heap [] := va_S.rf
  have hl := lv_entry ([.ref m0, .int wh]) (n := 7) (Nat.le_of_ble_eq_true rfl)
  rw [lg_entry_eq]
  generalize (lg_sl ([.ref m0, .int wh]) ++ List.replicate (7 - (lg_sl ([.ref m0, .int wh])).length) Slot.unset).toArray = ls at hl ⊢
  have hl : lv_has ls 7 [(0, .ref m0), (1, .int wh)] := hl
  generalize hQ : MQ below _ _ s _ _ _ = Q
  obtain ⟨H, hH⟩ : ∃ z, z = s.heap := ⟨_, rfl⟩
  have hP : va_P D vwCl [(m0, .inr (7, [.int (nI n), .ref g1, .ref g2, .ref g3, .int mr, .ref g4, .int (-1 : Int32), .ref g5, .int mo, .ref g6, .int ml, .ref g7, .ref g8, .ref g9, .ref g10, .ref g11, .ref g12])), (g1, .inl (cI, 9, .inl fg)), (g2, .inl (cI, 9, .inl fb)), (g5, .inl (cI, 9, .inl fn)), (g12, .inl (cI, 9, .inl th))] H := by rw [hH]; exact hP
  have hS : va_S aN s.heap H [] := by rw [hH]; exact hS
  refine m_heap hH ?_
  clear hH
  refine lv_aload_n hx hb dX7_told_0 rfl (lv_at hl 0 rfl) ?_
  refine pu_i (va_runV (As := []) (rest := []) ⟨hx, hb, hml, hown, hts⟩ (c_X7_now l D cI cJ cZ m0 g1 g2 g3 g4 g5 g6 g7 g8 g9 g10 g11 g12 n mr (-1 : Int32) mo ml fn th (by first | assumption | omega)) (cwV 0 hts gX7_told_X7_now rfl rfl rfl (by decide +kernel) ⟨Nat.le_of_ble_eq_true rfl, Nat.le_of_ble_eq_true rfl⟩) ⟨pc_blind, va_recv hK hP (ci := 7) (q0 := 0) rfl rfl, fun U hU hW => ⟨rfl, by rw [hU]; exact hP.sub (ws' := [(m0, .inr (7, [.int (nI n), .ref g1, .ref g2, .ref g3, .int mr, .ref g4, .int (-1 : Int32), .ref g5, .int mo, .ref g6, .int ml, .ref g7, .ref g8, .ref g9, .ref g10, .ref g11, .ref g12])), (g5, .inl (cI, 9, .inl fn)), (g12, .inl (cI, 9, .inl th))]) [0, 3, 4] rfl, hKN.warm hW⟩⟩ rfl rfl hl.1 rfl (lv_room (Nat.le_of_ble_eq_true rfl)) dX7_told_1 ⟨Nat.le_of_ble_eq_true rfl, Nat.le_of_ble_eq_true rfl⟩) hS hP (fun r1 H locs w1r hP hS => ?_)
  have w1 : r1 = mnow th fn n := w1r
  clear w1r
  obtain rfl : r1 = mnow th fn n := w1
  refine lv_istore_n (lv' := [(2, .int (mnow th fn n)), (0, .ref m0), (1, .int wh)]) hx hb dX7_told_4 rfl hl (by decide) rfl (fun ls hl => ?_)
  refine lv_iload_n hx hb dX7_told_5 rfl (lv_at hl 2 rfl) ?_
  refine lv_if_ne (tgt := 15) hx hb dX7_told_6 (by decide) (fun c2 => ?_) (fun c2 => ?_)
  · skip
    refine lv_aload_n hx hb dX7_told_15 rfl (lv_at hl 1 rfl) ?_
    refine va_get (D := D) (ci := 7) (v := .int (-1 : Int32)) (C := RX7) (T := TX7) (N := 17) hx hb hts hiX7 hown hK hP 0 rfl rfl 6 (by decide) hf27 (fun _ h9 => h9) rfl dX7_told_16 ?_
    refine lv_if_lt (tgt := 34) hx hb dX7_told_19 (by decide) (fun c3 => ?_) (fun c3 => ?_)
    · skip
      refine lv_ldc2 (v := (-2 : Int64)) hx hb hown (hts (.constantLong RX7 132 (-2 : Int64)) (by decide +kernel)) dX7_told_34 ?_
      rw [← hQ]
      exact W.lret (v := (-2 : Int64)) hx hb hr (fun tS htS hWS => ⟨⟨(-2 : Int64), (), rfl, by rw [if_neg c2], trivial⟩, hS.F htS⟩) hS.2.2 dX7_told_37
    · exact absurd c3 (by first | decide | exact nz_lt (by omega) | exact fun h => h (nz_ge (by omega)))
  · skip
    refine lv_aload_n hx hb dX7_told_9 rfl (lv_at hl 1 rfl) ?_
    refine lv_iload_n hx hb dX7_told_10 rfl (lv_at hl 0 rfl) ?_
    refine pu_l (va_runV (As := [.int (mnow th fn n)]) (rest := []) ⟨hx, hb, hml, hown, hts⟩ (c_X7_left l D cI cJ cZ m0 g1 g2 g3 g4 g5 g6 g7 g8 g9 g10 g11 g12 n mr (-1 : Int32) mo ml (mnow th fn n) fg fb th (by first | assumption | omega) (by first | assumption | omega)) (cwV 1 hts gX7_told_X7_left rfl rfl rfl (by decide +kernel) ⟨Nat.le_of_ble_eq_true rfl, Nat.le_of_ble_eq_true rfl⟩) ⟨pc_blind, va_recv hK hP (ci := 7) (q0 := 0) rfl rfl, fun U hU hW => ⟨rfl, by rw [hU]; exact hP.sub (ws' := [(m0, .inr (7, [.int (nI n), .ref g1, .ref g2, .ref g3, .int mr, .ref g4, .int (-1 : Int32), .ref g5, .int mo, .ref g6, .int ml, .ref g7, .ref g8, .ref g9, .ref g10, .ref g11, .ref g12])), (g1, .inl (cI, 9, .inl fg)), (g2, .inl (cI, 9, .inl fb)), (g12, .inl (cI, 9, .inl th))]) [0, 1, 2, 4] rfl, hKN.warm hW⟩⟩ rfl rfl hl.1 rfl (lv_room (Nat.le_of_ble_eq_true rfl)) dX7_told_11 ⟨Nat.le_of_ble_eq_true rfl, Nat.le_of_ble_eq_true rfl⟩) hS hP (fun r4 H locs w4r hP hS => ?_)
    have w4 : r4 = mlf fg fb th (mnow th fn n) n := w4r
    clear w4r
    rw [← hQ]
    exact W.lret (v := r4) hx hb hr (fun tS htS hWS => ⟨⟨r4, (), rfl, by rw [if_pos c2]; assumption, trivial⟩, hS.F htS⟩) hS.2.2 dX7_told_14
def rm_c_X7_of : Room := { frames := 2, cells := 0, slots := 0, locals := 46 }
set_option maxHeartbeats 400000 in
set_option maxRecDepth 100000 in
theorem c_X7_of (l : Launch) (D : va_G) (cI cJ cZ : ClassId) (m0 : Nat) (g1 : Nat) (g2 : Nat) (g3 : Nat) (g4 : Nat) (g5 : Nat) (g6 : Nat) (g7 : Nat) (g8 : Nat) (g9 : Nat) (g10 : Nat) (g11 : Nat) (g12 : Nat) (n : Nat) (mr : Int32) (mo : Int32) (ml : Int32) (p0 : Int32) (wh : Int32) (fn : Nat → Int32) (hn : n ≤ 9) (h1n : 1 ≤ n) : Met l yX7_of wsX7_of rm_c_X7_of (pc_ D cI cJ cZ [.ref m0, .int p0, .int wh] [(m0, .inr (7, [.int (nI n), .ref g1, .ref g2, .ref g3, .int mr, .ref g4, .int (-1 : Int32), .ref g5, .int mo, .ref g6, .int ml, .ref g7, .ref g8, .ref g9, .ref g10, .ref g11, .ref g12])), (g5, .inl (cI, 9, .inl fn))]) (va_Ql (fun (r : Int64) (_ : Unit) => r = -2) (fun _ _ => True) aN) 0 0 aN := by
  refine Met.ofW (cc := cX7_of) (maxL := 7) (ret := (some .long)) (by decide) rfl ?_
  intro p e s m args below meth c s₁ B hml hv
  obtain ⟨rfl, hP, hKN⟩ := hv
  have hK := hKN.1
  have hx := B.exec
  have hb := B.bytes
  have hr := B.returns
  have hts := atoms_spec (ws := wsX7_of) B.pre
  have hown : s.vm.findClass RX7 = some m.cls := findClass_of_methodNamed B.named
  have hlocks := B.notSynchronized
  have hiX7 : ∀ w ∈ wsX70, w ∈ wsX7_of := by decide +kernel
  have hf27 := hts (.fieldLink RX7 27 "LookBenchModel" "system" "I") (by decide +kernel)
  have hf30 := hts (.fieldLink RX7 30 "LookBenchModel" "seen" "[I") (by decide +kernel)
  have hS : va_S aN s.heap s.heap [] := va_S.rf
  have hl := lv_entry ([.ref m0, .int p0, .int wh]) (n := 7) (Nat.le_of_ble_eq_true rfl)
  rw [lg_entry_eq]
  generalize (lg_sl ([.ref m0, .int p0, .int wh]) ++ List.replicate (7 - (lg_sl ([.ref m0, .int p0, .int wh])).length) Slot.unset).toArray = ls at hl ⊢
  have hl : lv_has ls 7 [(0, .ref m0), (1, .int p0), (2, .int wh)] := hl
  generalize hQ : MQ below _ _ s _ _ _ = Q
  obtain ⟨H, hH⟩ : ∃ z, z = s.heap := ⟨_, rfl⟩
  have hP : va_P D vwCl [(m0, .inr (7, [.int (nI n), .ref g1, .ref g2, .ref g3, .int mr, .ref g4, .int (-1 : Int32), .ref g5, .int mo, .ref g6, .int ml, .ref g7, .ref g8, .ref g9, .ref g10, .ref g11, .ref g12])), (g5, .inl (cI, 9, .inl fn))] H := by rw [hH]; exact hP
  have hS : va_S aN s.heap H [] := by rw [hH]; exact hS
  refine m_heap hH ?_
  clear hH
  refine lv_aload_n hx hb dX7_of_0 rfl (lv_at hl 0 rfl) ?_
  refine lv_iload_n hx hb dX7_of_1 rfl (lv_at hl 1 rfl) ?_
  refine pu_i (va_runV (As := [.int p0]) (rest := []) ⟨hx, hb, hml, hown, hts⟩ (c_X7_isPart l D cI cJ cZ m0 g1 g2 g3 g4 g5 g6 g7 g8 g9 g10 g11 g12 n mr (-1 : Int32) mo ml p0 (by first | assumption | omega) (by first | assumption | omega)) (cwV 1 hts gX7_of_X7_isPart rfl rfl rfl (by decide +kernel) ⟨Nat.le_of_ble_eq_true rfl, Nat.le_of_ble_eq_true rfl⟩) ⟨pc_blind, va_recv hK hP (ci := 7) (q0 := 0) rfl rfl, fun U hU hW => ⟨rfl, by rw [hU]; exact hP.sub (ws' := [(m0, .inr (7, [.int (nI n), .ref g1, .ref g2, .ref g3, .int mr, .ref g4, .int (-1 : Int32), .ref g5, .int mo, .ref g6, .int ml, .ref g7, .ref g8, .ref g9, .ref g10, .ref g11, .ref g12]))]) [0] rfl, hKN.warm hW⟩⟩ rfl rfl hl.1 rfl (lv_room (Nat.le_of_ble_eq_true rfl)) dX7_of_2 ⟨Nat.le_of_ble_eq_true rfl, Nat.le_of_ble_eq_true rfl⟩) hS hP (fun r1 H locs w1r hP hS => ?_)
  have w1 : B01 r1 (0 ≤ p0.toInt ∧ p0.toInt < n) := w1r
  clear w1r
  rcases w1 with ⟨rfl, w1⟩ | ⟨rfl, w1⟩
  · skip
    obtain ⟨j9, hj9, rfl⟩ := m_nat w1
    refine lv_if_eq (tgt := 35) hx hb dX7_of_5 (by decide) (fun c2 => ?_) (fun c2 => ?_)
    · exact absurd c2 (by first | decide | exact nz_lt (by omega) | exact fun h => h (nz_ge (by omega)))
    · skip
      refine lv_iload_n hx hb dX7_of_8 rfl (lv_at hl 2 rfl) ?_
      refine lv_i2l hx hb dX7_of_9 rfl ?_
      refine lv_lconst (v := lN 0) hx hb dX7_of_10 (by decide) ?_
      refine lv_lconst (v := lN 1) hx hb dX7_of_11 (by decide) ?_
      refine pu_i (va_runS (As := [.long wh.toInt64, .long (lN 0), .long (lN 1)]) (rest := []) ⟨hx, hb, hml, hown, hts⟩ (c_X7_in l D cI cJ cZ wh.toInt64 (lN 0) (lN 1)) (va_cwS 3 hts gX7_of_X7_in rfl rfl rfl (by decide +kernel) ⟨Nat.le_of_ble_eq_true rfl, Nat.le_of_ble_eq_true rfl⟩) ⟨pc_blind, fun U hU hW => ⟨rfl, by rw [hU]; exact hP.sub (ws' := []) [] rfl, hKN.warm hW⟩⟩ rfl rfl hl.1 rfl (lv_room (Nat.le_of_ble_eq_true rfl)) dX7_of_12 ⟨Nat.le_of_ble_eq_true rfl, Nat.le_of_ble_eq_true rfl⟩) hS hP (fun r3 H locs w3r hP hS => ?_)
      have w3 : B01 r3 ((lN 0).toInt ≤ wh.toInt64.toInt ∧ wh.toInt64.toInt ≤ (lN 1).toInt) := w3r
      clear w3r
      rw [lN_toInt (n := 0) (by omega), j2 wh, lN_toInt (n := 1) (by omega)] at w3
      rcases w3 with ⟨rfl, w3⟩ | ⟨rfl, w3⟩
      · skip
        refine lv_if_eq (tgt := 35) hx hb dX7_of_15 (by decide) (fun c4 => ?_) (fun c4 => ?_)
        · exact absurd c4 (by first | decide | exact nz_lt (by omega) | exact fun h => h (nz_ge (by omega)))
        · skip
          refine lv_aload_n hx hb dX7_of_18 rfl (lv_at hl 0 rfl) ?_
          refine va_get (D := D) (ci := 7) (v := .ref g5) (C := RX7) (T := TX7) (N := 17) hx hb hts hiX7 hown hK hP 0 rfl rfl 7 (by decide) hf30 (fun _ h9 => h9) rfl dX7_of_19 ?_
          refine lv_iload_n hx hb dX7_of_22 rfl (lv_at hl 1 rfl) ?_
          refine va_iald hx hb hK hP 1 0 rfl rfl (i := nI j9) (vp_in_nI (by omega) (by omega)) dX7_of_23 ?_
          refine cn_i (y := fn j9) (congrArg fn (nI_clamp (by omega))) ?_
          refine lv_iconst (v := (-1 : Int32)) hx hb dX7_of_24 (by decide) ?_
          refine lv_icmp_ne (tgt := 35) hx hb dX7_of_25 (by decide) (fun c5 => ?_) (fun c5 => ?_)
          · skip
            refine lv_ldc2 (v := (-2 : Int64)) hx hb hown (hts (.constantLong RX7 132 (-2 : Int64)) (by decide +kernel)) dX7_of_35 ?_
            rw [← hQ]
            exact W.lret (v := (-2 : Int64)) hx hb hr (fun tS htS hWS => ⟨⟨(-2 : Int64), (), rfl, rfl, trivial⟩, hS.F htS⟩) hS.2.2 dX7_of_38
          · skip
            refine lv_aload_n hx hb dX7_of_28 rfl (lv_at hl 0 rfl) ?_
            refine va_get (D := D) (ci := 7) (v := .int (-1 : Int32)) (C := RX7) (T := TX7) (N := 17) hx hb hts hiX7 hown hK hP 0 rfl rfl 6 (by decide) hf27 (fun _ h9 => h9) rfl dX7_of_29 ?_
            refine lv_if_ge (tgt := 39) hx hb dX7_of_32 (by decide) (fun c6 => ?_) (fun c6 => ?_)
            · exact absurd c6 (by first | decide | exact nz_lt (by omega) | exact fun h => h (nz_ge (by omega)))
            · skip
              refine lv_ldc2 (v := (-2 : Int64)) hx hb hown (hts (.constantLong RX7 132 (-2 : Int64)) (by decide +kernel)) dX7_of_35 ?_
              rw [← hQ]
              exact W.lret (v := (-2 : Int64)) hx hb hr (fun tS htS hWS => ⟨⟨(-2 : Int64), (), rfl, rfl, trivial⟩, hS.F htS⟩) hS.2.2 dX7_of_38
      · skip
        refine lv_if_eq (tgt := 35) hx hb dX7_of_15 (by decide) (fun c7 => ?_) (fun c7 => ?_)
        · skip
          refine lv_ldc2 (v := (-2 : Int64)) hx hb hown (hts (.constantLong RX7 132 (-2 : Int64)) (by decide +kernel)) dX7_of_35 ?_
          rw [← hQ]
          exact W.lret (v := (-2 : Int64)) hx hb hr (fun tS htS hWS => ⟨⟨(-2 : Int64), (), rfl, rfl, trivial⟩, hS.F htS⟩) hS.2.2 dX7_of_38
        · exact absurd c7 (by first | decide | exact nz_lt (by omega) | exact fun h => h (nz_ge (by omega)))
  · skip
    refine lv_if_eq (tgt := 35) hx hb dX7_of_5 (by decide) (fun c8 => ?_) (fun c8 => ?_)
    · skip
      refine lv_ldc2 (v := (-2 : Int64)) hx hb hown (hts (.constantLong RX7 132 (-2 : Int64)) (by decide +kernel)) dX7_of_35 ?_
      rw [← hQ]
      exact W.lret (v := (-2 : Int64)) hx hb hr (fun tS htS hWS => ⟨⟨(-2 : Int64), (), rfl, rfl, trivial⟩, hS.F htS⟩) hS.2.2 dX7_of_38
    · exact absurd c8 (by first | decide | exact nz_lt (by omega) | exact fun h => h (nz_ge (by omega)))
def rm_c_X7_run : Room := { frames := 1, cells := 0, slots := 0, locals := 25 }
set_option maxHeartbeats 400000 in
set_option maxRecDepth 100000 in
theorem c_X7_run (l : Launch) (D : va_G) (cI cJ cZ : ClassId) (m0 : Nat) (g1 : Nat) (g2 : Nat) (g3 : Nat) (g4 : Nat) (g5 : Nat) (g6 : Nat) (g7 : Nat) (g8 : Nat) (g9 : Nat) (g10 : Nat) (g11 : Nat) (g12 : Nat) (n : Nat) (mr : Int32) (mo : Int32) (ml : Int32) (p0 : Int32) (p1 : Int32) (fn : Nat → Int32) (th : Nat → Int32) (hn : n ≤ 9) (h1n : 1 ≤ n) : Met l yX7_run wsX7_run rm_c_X7_run (pc_ D cI cJ cZ [.ref m0, .int p0, .int p1] [(m0, .inr (7, [.int (nI n), .ref g1, .ref g2, .ref g3, .int mr, .ref g4, .int (-1 : Int32), .ref g5, .int mo, .ref g6, .int ml, .ref g7, .ref g8, .ref g9, .ref g10, .ref g11, .ref g12])), (g5, .inl (cI, 9, .inl fn)), (g12, .inl (cI, 9, .inl th))]) (va_Qi (fun (r : Int32) (_ : Unit) => r = -1) (fun _ _ => True) aN) 0 0 aN := by
  refine Met.ofW (cc := cX7_run) (maxL := 6) (ret := (some .int)) (by decide) rfl ?_
  intro p e s m args below meth c s₁ B hml hv
  obtain ⟨rfl, hP, hKN⟩ := hv
  have hK := hKN.1
  have hx := B.exec
  have hb := B.bytes
  have hr := B.returns
  have hts := atoms_spec (ws := wsX7_run) B.pre
  have hown : s.vm.findClass RX7 = some m.cls := findClass_of_methodNamed B.named
  have hlocks := B.notSynchronized
  have hiX7 : ∀ w ∈ wsX70, w ∈ wsX7_run := by decide +kernel
  have hf27 := hts (.fieldLink RX7 27 "LookBenchModel" "system" "I") (by decide +kernel)
  have hS : va_S aN s.heap s.heap [] := va_S.rf
  have hl := lv_entry ([.ref m0, .int p0, .int p1]) (n := 6) (Nat.le_of_ble_eq_true rfl)
  rw [lg_entry_eq]
  generalize (lg_sl ([.ref m0, .int p0, .int p1]) ++ List.replicate (6 - (lg_sl ([.ref m0, .int p0, .int p1])).length) Slot.unset).toArray = ls at hl ⊢
  have hl : lv_has ls 6 [(0, .ref m0), (1, .int p0), (2, .int p1)] := hl
  generalize hQ : MQ below _ _ s _ _ _ = Q
  obtain ⟨H, hH⟩ : ∃ z, z = s.heap := ⟨_, rfl⟩
  have hP : va_P D vwCl [(m0, .inr (7, [.int (nI n), .ref g1, .ref g2, .ref g3, .int mr, .ref g4, .int (-1 : Int32), .ref g5, .int mo, .ref g6, .int ml, .ref g7, .ref g8, .ref g9, .ref g10, .ref g11, .ref g12])), (g5, .inl (cI, 9, .inl fn)), (g12, .inl (cI, 9, .inl th))] H := by rw [hH]; exact hP
  have hS : va_S aN s.heap H [] := by rw [hH]; exact hS
  refine m_heap hH ?_
  clear hH
  have h2n := m_pow hn
  have h2p := m_powp n
  refine lv_aload_n hx hb dX7_run_0 rfl (lv_at hl 0 rfl) ?_
  refine pu_i (va_runV (As := []) (rest := []) ⟨hx, hb, hml, hown, hts⟩ (c_X7_now l D cI cJ cZ m0 g1 g2 g3 g4 g5 g6 g7 g8 g9 g10 g11 g12 n mr (-1 : Int32) mo ml fn th (by first | assumption | omega)) (cwV 0 hts gX7_run_X7_now rfl rfl rfl (by decide +kernel) ⟨Nat.le_of_ble_eq_true rfl, Nat.le_of_ble_eq_true rfl⟩) ⟨pc_blind, va_recv hK hP (ci := 7) (q0 := 0) rfl rfl, fun U hU hW => ⟨rfl, by rw [hU]; exact hP.sub (ws' := [(m0, .inr (7, [.int (nI n), .ref g1, .ref g2, .ref g3, .int mr, .ref g4, .int (-1 : Int32), .ref g5, .int mo, .ref g6, .int ml, .ref g7, .ref g8, .ref g9, .ref g10, .ref g11, .ref g12])), (g5, .inl (cI, 9, .inl fn)), (g12, .inl (cI, 9, .inl th))]) [0, 1, 2] rfl, hKN.warm hW⟩⟩ rfl rfl hl.1 rfl (lv_room (Nat.le_of_ble_eq_true rfl)) dX7_run_1 ⟨Nat.le_of_ble_eq_true rfl, Nat.le_of_ble_eq_true rfl⟩) hS hP (fun r1 H locs w1r hP hS => ?_)
  have w1 : r1 = mnow th fn n := w1r
  clear w1r
  obtain rfl : r1 = mnow th fn n := w1
  refine lv_istore_n (lv' := [(3, .int (mnow th fn n)), (0, .ref m0), (1, .int p0), (2, .int p1)]) hx hb dX7_run_4 rfl hl (by decide) rfl (fun ls hl => ?_)
  refine lv_iload_n hx hb dX7_run_5 rfl (lv_at hl 2 rfl) ?_
  refine lv_i2l hx hb dX7_run_6 rfl ?_
  refine lv_lconst (v := lN 0) hx hb dX7_run_7 (by decide) ?_
  refine lv_ldc2 (v := lN 2) hx hb hown (hts (.constantLong RX7 134 (lN 2)) (by decide +kernel)) dX7_run_8 ?_
  refine pu_i (va_runS (As := [.long p0.toInt64, .long (lN 0), .long (lN 2)]) (rest := []) ⟨hx, hb, hml, hown, hts⟩ (c_X7_in l D cI cJ cZ p0.toInt64 (lN 0) (lN 2)) (va_cwS 3 hts gX7_run_X7_in rfl rfl rfl (by decide +kernel) ⟨Nat.le_of_ble_eq_true rfl, Nat.le_of_ble_eq_true rfl⟩) ⟨pc_blind, fun U hU hW => ⟨rfl, by rw [hU]; exact hP.sub (ws' := []) [] rfl, hKN.warm hW⟩⟩ rfl rfl hl.1 rfl (lv_room (Nat.le_of_ble_eq_true rfl)) dX7_run_11 ⟨Nat.le_of_ble_eq_true rfl, Nat.le_of_ble_eq_true rfl⟩) hS hP (fun r2 H locs w2r hP hS => ?_)
  have w2 : B01 r2 ((lN 0).toInt ≤ p0.toInt64.toInt ∧ p0.toInt64.toInt ≤ (lN 2).toInt) := w2r
  clear w2r
  rw [lN_toInt (n := 0) (by omega), j2 p0, lN_toInt (n := 2) (by omega)] at w2
  rcases w2 with ⟨rfl, w2⟩ | ⟨rfl, w2⟩
  · skip
    refine lv_if_eq (tgt := 49) hx hb dX7_run_14 (by decide) (fun c3 => ?_) (fun c3 => ?_)
    · exact absurd c3 (by first | decide | exact nz_lt (by omega) | exact fun h => h (nz_ge (by omega)))
    · skip
      refine lv_iload_n hx hb dX7_run_17 rfl (lv_at hl 3 rfl) ?_
      refine lv_i2l hx hb dX7_run_18 rfl ?_
      refine lv_lconst (v := lN 0) hx hb dX7_run_19 (by decide) ?_
      refine lv_aload_n hx hb dX7_run_20 rfl (lv_at hl 1 rfl) ?_
      refine pu_i (va_runV (As := []) (rest := [.long (lN 0), .long p1.toInt64]) ⟨hx, hb, hml, hown, hts⟩ (c_X7_settings l D cI cJ cZ m0 g1 g2 g3 g4 g5 g6 g7 g8 g9 g10 g11 g12 n mr (-1 : Int32) mo ml (by first | assumption | omega)) (cwV 0 hts gX7_run_X7_settings rfl rfl rfl (by decide +kernel) ⟨Nat.le_of_ble_eq_true rfl, Nat.le_of_ble_eq_true rfl⟩) ⟨pc_blind, va_recv hK hP (ci := 7) (q0 := 0) rfl rfl, fun U hU hW => ⟨rfl, by rw [hU]; exact hP.sub (ws' := [(m0, .inr (7, [.int (nI n), .ref g1, .ref g2, .ref g3, .int mr, .ref g4, .int (-1 : Int32), .ref g5, .int mo, .ref g6, .int ml, .ref g7, .ref g8, .ref g9, .ref g10, .ref g11, .ref g12]))]) [0] rfl, hKN.warm hW⟩⟩ rfl rfl hl.1 rfl (lv_room (Nat.le_of_ble_eq_true rfl)) dX7_run_21 ⟨Nat.le_of_ble_eq_true rfl, Nat.le_of_ble_eq_true rfl⟩) hS hP (fun r4 H locs w4r hP hS => ?_)
      have w4 : r4 = nI (2 ^ n) := w4r
      clear w4r
      obtain rfl : r4 = nI (2 ^ n) := w4
      refine lv_iconst (v := nI 1) hx hb dX7_run_24 (by decide) ?_
      refine lv_isub hx hb dX7_run_25 ?_
      refine cn_i (y := nI ((2 ^ n) - 1)) (pk_sub (a := (2 ^ n)) (b := 1) (by omega)) ?_
      refine lv_i2l hx hb dX7_run_26 rfl ?_
      refine cn_l (y := lN ((2 ^ n) - 1)) (nI_l (by omega)) ?_
      refine pu_i (va_runS (As := [.long p1.toInt64, .long (lN 0), .long (lN ((2 ^ n) - 1))]) (rest := []) ⟨hx, hb, hml, hown, hts⟩ (c_X7_in l D cI cJ cZ p1.toInt64 (lN 0) (lN ((2 ^ n) - 1))) (va_cwS 3 hts gX7_run_X7_in rfl rfl rfl (by decide +kernel) ⟨Nat.le_of_ble_eq_true rfl, Nat.le_of_ble_eq_true rfl⟩) ⟨pc_blind, fun U hU hW => ⟨rfl, by rw [hU]; exact hP.sub (ws' := []) [] rfl, hKN.warm hW⟩⟩ rfl rfl hl.1 rfl (lv_room (Nat.le_of_ble_eq_true rfl)) dX7_run_27 ⟨Nat.le_of_ble_eq_true rfl, Nat.le_of_ble_eq_true rfl⟩) hS hP (fun r5 H locs w5r hP hS => ?_)
      have w5 : B01 r5 ((lN 0).toInt ≤ p1.toInt64.toInt ∧ p1.toInt64.toInt ≤ (lN ((2 ^ n) - 1)).toInt) := w5r
      clear w5r
      rw [lN_toInt (n := 0) (by omega), j2 p1, lN_toInt (n := ((2 ^ n) - 1)) (by omega)] at w5
      rcases w5 with ⟨rfl, w5⟩ | ⟨rfl, w5⟩
      · skip
        refine lv_if_eq (tgt := 49) hx hb dX7_run_30 (by decide) (fun c6 => ?_) (fun c6 => ?_)
        · exact absurd c6 (by first | decide | exact nz_lt (by omega) | exact fun h => h (nz_ge (by omega)))
        · skip
          refine lv_aload_n hx hb dX7_run_33 rfl (lv_at hl 1 rfl) ?_
          refine va_get (D := D) (ci := 7) (v := .int (-1 : Int32)) (C := RX7) (T := TX7) (N := 17) hx hb hts hiX7 hown hK hP 0 rfl rfl 6 (by decide) hf27 (fun _ h9 => h9) rfl dX7_run_34 ?_
          refine lv_if_lt (tgt := 49) hx hb dX7_run_37 (by decide) (fun c7 => ?_) (fun c7 => ?_)
          · skip
            refine lv_iconst (v := (-1 : Int32)) hx hb dX7_run_49 (by decide) ?_
            rw [← hQ]
            exact W.iret (v := (-1 : Int32)) hx hb hr (fun tS htS hWS => ⟨⟨(-1 : Int32), (), rfl, rfl, trivial⟩, hS.F htS⟩) hS.2.2 dX7_run_50
          · exact absurd c7 (by first | decide | exact nz_lt (by omega) | exact fun h => h (nz_ge (by omega)))
      · skip
        refine lv_if_eq (tgt := 49) hx hb dX7_run_30 (by decide) (fun c8 => ?_) (fun c8 => ?_)
        · skip
          refine lv_iconst (v := (-1 : Int32)) hx hb dX7_run_49 (by decide) ?_
          rw [← hQ]
          exact W.iret (v := (-1 : Int32)) hx hb hr (fun tS htS hWS => ⟨⟨(-1 : Int32), (), rfl, rfl, trivial⟩, hS.F htS⟩) hS.2.2 dX7_run_50
        · exact absurd c8 (by first | decide | exact nz_lt (by omega) | exact fun h => h (nz_ge (by omega)))
  · skip
    refine lv_if_eq (tgt := 49) hx hb dX7_run_14 (by decide) (fun c9 => ?_) (fun c9 => ?_)
    · skip
      refine lv_iconst (v := (-1 : Int32)) hx hb dX7_run_49 (by decide) ?_
      rw [← hQ]
      exact W.iret (v := (-1 : Int32)) hx hb hr (fun tS htS hWS => ⟨⟨(-1 : Int32), (), rfl, rfl, trivial⟩, hS.F htS⟩) hS.2.2 dX7_run_50
    · exact absurd c9 (by first | decide | exact nz_lt (by omega) | exact fun h => h (nz_ge (by omega)))
def rm_c_X7_placeOf : Room := { frames := 0, cells := 0, slots := 0, locals := 0 }
set_option maxHeartbeats 400000 in
set_option maxRecDepth 100000 in
theorem c_X7_placeOf (l : Launch) (D : va_G) (cI cJ cZ : ClassId) (m0 : Nat) (g1 : Nat) (g2 : Nat) (g3 : Nat) (g4 : Nat) (g5 : Nat) (g6 : Nat) (g7 : Nat) (g8 : Nat) (g9 : Nat) (g10 : Nat) (g11 : Nat) (g12 : Nat) (q : Nat) (mp : Int32) (mr : Int32) (my : Int32) (ml : Int32) (p0 : Int32) (fo : Nat → Int32) (hq : q ≤ 9) : Met l yX7_placeOf wsX7_placeOf rm_c_X7_placeOf (pc_ D cI cJ cZ [.ref m0, .int p0] [(m0, .inr (7, [.int mp, .ref g1, .ref g2, .ref g3, .int mr, .ref g4, .int my, .ref g5, .int (nI q), .ref g6, .int ml, .ref g7, .ref g8, .ref g9, .ref g10, .ref g11, .ref g12])), (g6, .inl (cI, 9, .inl fo))]) (va_Qi (fun (r : Int32) (_ : Unit) => (r = -1 ∧ ∀ z, z < q → ¬ fo z = p0) ∨ (∃ z, z < q ∧ r = nI z ∧ fo z = p0)) (fun _ _ => True) aN) 0 0 aN := by
  refine Met.ofW (cc := cX7_placeOf) (maxL := 4) (ret := (some .int)) (by decide) rfl ?_
  intro p e s m args below meth c s₁ B hml hv
  obtain ⟨rfl, hP, hKN⟩ := hv
  have hK := hKN.1
  have hx := B.exec
  have hb := B.bytes
  have hr := B.returns
  have hts := atoms_spec (ws := wsX7_placeOf) B.pre
  have hown : s.vm.findClass RX7 = some m.cls := findClass_of_methodNamed B.named
  have hlocks := B.notSynchronized
  have hiX7 : ∀ w ∈ wsX70, w ∈ wsX7_placeOf := by decide +kernel
  have hf33 := hts (.fieldLink RX7 33 "LookBenchModel" "order" "[I") (by decide +kernel)
  have hf64 := hts (.fieldLink RX7 64 "LookBenchModel" "ordered" "I") (by decide +kernel)
  have hS : va_S aN s.heap s.heap [] := va_S.rf
  have hl := lv_entry ([.ref m0, .int p0]) (n := 4) (Nat.le_of_ble_eq_true rfl)
  rw [lg_entry_eq]
  generalize (lg_sl ([.ref m0, .int p0]) ++ List.replicate (4 - (lg_sl ([.ref m0, .int p0])).length) Slot.unset).toArray = ls at hl ⊢
  have hl : lv_has ls 4 [(0, .ref m0), (1, .int p0)] := hl
  generalize hQ : MQ below _ _ s _ _ _ = Q
  obtain ⟨H, hH⟩ : ∃ z, z = s.heap := ⟨_, rfl⟩
  have hP : va_P D vwCl [(m0, .inr (7, [.int mp, .ref g1, .ref g2, .ref g3, .int mr, .ref g4, .int my, .ref g5, .int (nI q), .ref g6, .int ml, .ref g7, .ref g8, .ref g9, .ref g10, .ref g11, .ref g12])), (g6, .inl (cI, 9, .inl fo))] H := by rw [hH]; exact hP
  have hS : va_S aN s.heap H [] := by rw [hH]; exact hS
  refine m_heap hH ?_
  clear hH
  refine lv_iconst (v := (-1 : Int32)) hx hb dX7_placeOf_0 (by decide) ?_
  refine lv_istore_n (lv' := [(2, .int (-1 : Int32)), (0, .ref m0), (1, .int p0)]) hx hb dX7_placeOf_1 rfl hl (by decide) rfl (fun ls hl => ?_)
  refine lv_iconst (v := nI 0) hx hb dX7_placeOf_2 (by decide) ?_
  refine lv_istore_n (lv' := [(3, .int (nI 0)), (2, .int (-1 : Int32)), (0, .ref m0), (1, .int p0)]) hx hb dX7_placeOf_3 rfl hl (by decide) rfl (fun ls hl => ?_)
  have loop1 : ∀ (fu : Nat) (k : Nat) (v : Int32) (H : Heap) (locs : List Loc) (ls : Array Slot), (k ≤ q ∧ q < k + fu) → ((v = -1 ∧ ∀ z, z < k → ¬ fo z = p0) ∨ (∃ z, z < k ∧ v = nI z ∧ fo z = p0)) → va_P D vwCl [(m0, .inr (7, [.int mp, .ref g1, .ref g2, .ref g3, .int mr, .ref g4, .int my, .ref g5, .int (nI q), .ref g6, .int ml, .ref g7, .ref g8, .ref g9, .ref g10, .ref g11, .ref g12])), (g6, .inl (cI, 9, .inl fo))] H → va_S aN s.heap H locs → lv_has ls 4 [(3, .int (nI k)), (2, .int v), (0, .ref m0), (1, .int p0)] → W p l e (headSpec wsX7_placeOf rm_c_X7_placeOf).room s m ([.ref m0, .int p0] : List Value).toArray below meth c H locs 0 0 Q (F0 m 4 ls []) := by
    intro fu
    induction fu with
    | zero => intro k v H locs ls hk hv; exact absurd hk (by omega)
    | succ fu ih1 =>
      intro k v H locs ls hk hv hP hS hl
      refine lv_iload_n hx hb dX7_placeOf_4 rfl (lv_at hl 0 rfl) ?_
      refine lv_aload_n hx hb dX7_placeOf_5 rfl (lv_at hl 2 rfl) ?_
      refine va_get (D := D) (ci := 7) (v := .int (nI q)) (C := RX7) (T := TX7) (N := 17) hx hb hts hiX7 hown hK hP 0 rfl rfl 8 (by decide) hf64 (fun _ h9 => h9) rfl dX7_placeOf_6 ?_
      refine lv_icmp_ge (tgt := 34) hx hb dX7_placeOf_9 (by decide) (fun c2 => ?_) (fun c2 => ?_)
      · skip
        have d2 := c2
        rw [nI_leI (by omega) (by omega)] at d2
        refine lv_iload_n hx hb dX7_placeOf_34 rfl (lv_at hl 1 rfl) ?_
        rw [← hQ]
        exact W.iret (v := v) hx hb hr (fun tS htS hWS => ⟨⟨v, (), rfl, by have e9 : k = q := (by omega); subst e9; exact hv, trivial⟩, hS.F htS⟩) hS.2.2 dX7_placeOf_35
      · skip
        have d2 := c2
        rw [nI_leI (by omega) (by omega)] at d2
        refine lv_aload_n hx hb dX7_placeOf_12 rfl (lv_at hl 2 rfl) ?_
        refine va_get (D := D) (ci := 7) (v := .ref g6) (C := RX7) (T := TX7) (N := 17) hx hb hts hiX7 hown hK hP 0 rfl rfl 9 (by decide) hf33 (fun _ h9 => h9) rfl dX7_placeOf_13 ?_
        refine lv_iload_n hx hb dX7_placeOf_16 rfl (lv_at hl 0 rfl) ?_
        refine va_iald hx hb hK hP 1 0 rfl rfl (i := nI k) (vp_in_nI (by omega) (by omega)) dX7_placeOf_17 ?_
        refine cn_i (y := fo k) (congrArg fo (nI_clamp (by omega))) ?_
        refine lv_iload_n hx hb dX7_placeOf_18 rfl (lv_at hl 3 rfl) ?_
        refine lv_icmp_ne (tgt := 26) hx hb dX7_placeOf_19 (by decide) (fun c3 => ?_) (fun c3 => ?_)
        · skip
          refine lv_iload_n hx hb dX7_placeOf_26 rfl (lv_at hl 1 rfl) ?_
          refine lv_istore_n (lv' := [(2, .int v), (3, .int (nI k)), (0, .ref m0), (1, .int p0)]) hx hb dX7_placeOf_27 rfl hl (by decide) rfl (fun ls hl => ?_)
          refine lv_iinc (v := nI (k + 1)) (lv' := [(3, .int (nI (k + 1))), (2, .int v), (0, .ref m0), (1, .int p0)]) hx hb dX7_placeOf_28 hl (k := 1) rfl (nI_1 k) (by decide) rfl (fun ls hl => ?_)
          refine lv_goto (tgt := 4) hx hb dX7_placeOf_31 (by decide) ?_
          exact ih1 (k + 1) v _ _ _ (by omega) (by first | exact Or.inr ⟨k, by omega, rfl, c3⟩ | exact (hv.elim (fun h => Or.inl ⟨h.1, fun z hz => by rcases Nat.lt_or_ge z k with g | g; exact h.2 z g; exact (by have e9 : z = k := (by omega); subst e9; exact c3)⟩) (fun ⟨z, g1, g2, g3⟩ => Or.inr ⟨z, by omega, g2, g3⟩))) hP hS (lv_sub hl [0, 1, 2, 3] rfl)
        · skip
          refine lv_iload_n hx hb dX7_placeOf_22 rfl (lv_at hl 0 rfl) ?_
          refine lv_goto (tgt := 27) hx hb dX7_placeOf_23 (by decide) ?_
          refine lv_istore_n (lv' := [(2, .int (nI k)), (3, .int (nI k)), (0, .ref m0), (1, .int p0)]) hx hb dX7_placeOf_27 rfl hl (by decide) rfl (fun ls hl => ?_)
          refine lv_iinc (v := nI (k + 1)) (lv' := [(3, .int (nI (k + 1))), (2, .int (nI k)), (0, .ref m0), (1, .int p0)]) hx hb dX7_placeOf_28 hl (k := 1) rfl (nI_1 k) (by decide) rfl (fun ls hl => ?_)
          refine lv_goto (tgt := 4) hx hb dX7_placeOf_31 (by decide) ?_
          exact ih1 (k + 1) (nI k) _ _ _ (by omega) (by first | exact Or.inr ⟨k, by omega, rfl, c3⟩ | exact (hv.elim (fun h => Or.inl ⟨h.1, fun z hz => by rcases Nat.lt_or_ge z k with g | g; exact h.2 z g; exact (by have e9 : z = k := (by omega); subst e9; exact c3)⟩) (fun ⟨z, g1, g2, g3⟩ => Or.inr ⟨z, by omega, g2, g3⟩))) hP hS (lv_sub hl [0, 1, 2, 3] rfl)
  exact loop1 (q + 1) 0 (-1 : Int32) _ _ _ (by omega) (Or.inl ⟨rfl, fun z hz => absurd hz (by omega)⟩) hP hS (lv_sub hl [0, 1, 2, 3] rfl)
def rm_c_X7_order : Room := { frames := 2, cells := 0, slots := 0, locals := 46 }
set_option maxHeartbeats 400000 in
set_option maxRecDepth 100000 in
theorem c_X7_order (l : Launch) (D : va_G) (cI cJ cZ : ClassId) (m0 : Nat) (g1 : Nat) (g2 : Nat) (g3 : Nat) (g4 : Nat) (g5 : Nat) (g6 : Nat) (g7 : Nat) (g8 : Nat) (g9 : Nat) (g10 : Nat) (g11 : Nat) (g12 : Nat) (n : Nat) (q : Nat) (mr : Int32) (my : Int32) (ml : Int32) (p0 : Int32) (fo : Nat → Int32) (hn : n ≤ 9) (h1n : 1 ≤ n) (hq : q < 9) : Met l yX7_order wsX7_order rm_c_X7_order (pm_ D cI cJ cZ [.ref m0, .int p0] [(m0, .inr (7, [.int (nI n), .ref g1, .ref g2, .ref g3, .int mr, .ref g4, .int my, .ref g5, .int (nI q), .ref g6, .int ml, .ref g7, .ref g8, .ref g9, .ref g10, .ref g11, .ref g12])), (g6, .inl (cI, 9, .inl fo))]) (va_Qi (fun (r : Int32) (u : Unit) => R1 r (nI (q + 1)) ((0 ≤ p0.toInt ∧ p0.toInt < n) ∧ ¬ ∃ z, z < q ∧ fo z = p0)) (fun (u : Unit) tS => True) (aA [m0, g6])) 0 0 (aA [m0, g6]) := by
  refine Met.ofW (cc := cX7_order) (maxL := 2) (ret := (some .int)) (by decide) rfl ?_
  intro p e s m args below meth c s₁ B hml hv
  obtain ⟨rfl, hP, hKN, hD0⟩ := hv
  have hK := hKN.1
  have hx := B.exec
  have hb := B.bytes
  have hr := B.returns
  have hts := atoms_spec (ws := wsX7_order) B.pre
  have hown : s.vm.findClass RX7 = some m.cls := findClass_of_methodNamed B.named
  have hlocks := B.notSynchronized
  have hiX7 : ∀ w ∈ wsX70, w ∈ wsX7_order := by decide +kernel
  have hf33 := hts (.fieldLink RX7 33 "LookBenchModel" "order" "[I") (by decide +kernel)
  have hf64 := hts (.fieldLink RX7 64 "LookBenchModel" "ordered" "I") (by decide +kernel)
  obtain ⟨as, has⟩ : ∃ z : List Nat, z = [m0, g6] := ⟨_, rfl⟩
  have hD := hD0.addr (as := as) (by rw [has]; rfl)
  have hS : va_S (aA as) s.heap s.heap [] := va_S.rf
  have hl := lv_entry ([.ref m0, .int p0]) (n := 2) (Nat.le_of_ble_eq_true rfl)
  rw [lg_entry_eq]
  generalize (lg_sl ([.ref m0, .int p0]) ++ List.replicate (2 - (lg_sl ([.ref m0, .int p0])).length) Slot.unset).toArray = ls at hl ⊢
  have hl : lv_has ls 2 [(0, .ref m0), (1, .int p0)] := hl
  generalize hQ : MQ below _ _ s _ _ _ = Q
  obtain ⟨H, hH⟩ : ∃ z, z = s.heap := ⟨_, rfl⟩
  have hP : va_P D vwCl [(m0, .inr (7, [.int (nI n), .ref g1, .ref g2, .ref g3, .int mr, .ref g4, .int my, .ref g5, .int (nI q), .ref g6, .int ml, .ref g7, .ref g8, .ref g9, .ref g10, .ref g11, .ref g12])), (g6, .inl (cI, 9, .inl fo))] H := by rw [hH]; exact hP
  have hS : va_S (aA as) s.heap H [] := by rw [hH]; exact hS
  refine m_heap hH ?_
  clear hH
  refine lv_aload_n hx hb dX7_order_0 rfl (lv_at hl 0 rfl) ?_
  refine lv_iload_n hx hb dX7_order_1 rfl (lv_at hl 1 rfl) ?_
  refine pu_i (va_runV (As := [.int p0]) (rest := []) ⟨hx, hb, hml, hown, hts⟩ (c_X7_isPart l D cI cJ cZ m0 g1 g2 g3 g4 g5 g6 g7 g8 g9 g10 g11 g12 n mr my (nI q) ml p0 (by first | assumption | omega) (by first | assumption | omega)) (cwV 1 hts gX7_order_X7_isPart rfl rfl rfl (by decide +kernel) ⟨Nat.le_of_ble_eq_true rfl, Nat.le_of_ble_eq_true rfl⟩) ⟨pc_blind, va_recv hK hP (ci := 7) (q0 := 0) rfl rfl, fun U hU hW => ⟨rfl, by rw [hU]; exact hP.sub (ws' := [(m0, .inr (7, [.int (nI n), .ref g1, .ref g2, .ref g3, .int mr, .ref g4, .int my, .ref g5, .int (nI q), .ref g6, .int ml, .ref g7, .ref g8, .ref g9, .ref g10, .ref g11, .ref g12]))]) [0] rfl, hKN.warm hW⟩⟩ rfl rfl hl.1 rfl (lv_room (Nat.le_of_ble_eq_true rfl)) dX7_order_2 ⟨Nat.le_of_ble_eq_true rfl, Nat.le_of_ble_eq_true rfl⟩) hS hP (fun r1 H locs w1r hP hS => ?_)
  have w1 : B01 r1 (0 ≤ p0.toInt ∧ p0.toInt < n) := w1r
  clear w1r
  rcases w1 with ⟨rfl, w1⟩ | ⟨rfl, w1⟩
  · skip
    refine lv_if_eq (tgt := 16) hx hb dX7_order_5 (by decide) (fun c2 => ?_) (fun c2 => ?_)
    · exact absurd c2 (by first | decide | exact nz_lt (by omega) | exact fun h => h (nz_ge (by omega)))
    · skip
      refine lv_aload_n hx hb dX7_order_8 rfl (lv_at hl 0 rfl) ?_
      refine lv_iload_n hx hb dX7_order_9 rfl (lv_at hl 1 rfl) ?_
      refine pu_i (va_runV (As := [.int p0]) (rest := []) ⟨hx, hb, hml, hown, hts⟩ (c_X7_placeOf l D cI cJ cZ m0 g1 g2 g3 g4 g5 g6 g7 g8 g9 g10 g11 g12 q (nI n) mr my ml p0 fo (by first | assumption | omega)) (cwV 1 hts gX7_order_X7_placeOf rfl rfl rfl (by decide +kernel) ⟨Nat.le_of_ble_eq_true rfl, Nat.le_of_ble_eq_true rfl⟩) ⟨pc_blind, va_recv hK hP (ci := 7) (q0 := 0) rfl rfl, fun U hU hW => ⟨rfl, by rw [hU]; exact hP.sub (ws' := [(m0, .inr (7, [.int (nI n), .ref g1, .ref g2, .ref g3, .int mr, .ref g4, .int my, .ref g5, .int (nI q), .ref g6, .int ml, .ref g7, .ref g8, .ref g9, .ref g10, .ref g11, .ref g12])), (g6, .inl (cI, 9, .inl fo))]) [0, 1] rfl, hKN.warm hW⟩⟩ rfl rfl hl.1 rfl (lv_room (Nat.le_of_ble_eq_true rfl)) dX7_order_10 ⟨Nat.le_of_ble_eq_true rfl, Nat.le_of_ble_eq_true rfl⟩) hS hP (fun r3 H locs w3r hP hS => ?_)
      have w3 : (r3 = -1 ∧ ∀ z, z < q → ¬ fo z = p0) ∨ (∃ z, z < q ∧ r3 = nI z ∧ fo z = p0) := w3r
      clear w3r
      rcases w3 with ⟨rfl, w3⟩ | ⟨z9, hz9, rfl, w3⟩
      · skip
        refine lv_if_lt (tgt := 18) hx hb dX7_order_13 (by decide) (fun c4 => ?_) (fun c4 => ?_)
        · skip
          refine lv_aload_n hx hb dX7_order_18 rfl (lv_at hl 0 rfl) ?_
          refine va_get (D := D) (ci := 7) (v := .ref g6) (C := RX7) (T := TX7) (N := 17) hx hb hts hiX7 hown hK hP 0 rfl rfl 9 (by decide) hf33 (fun _ h9 => h9) rfl dX7_order_19 ?_
          refine lv_aload_n hx hb dX7_order_22 rfl (lv_at hl 0 rfl) ?_
          refine va_get (D := D) (ci := 7) (v := .int (nI q)) (C := RX7) (T := TX7) (N := 17) hx hb hts hiX7 hown hK hP 0 rfl rfl 8 (by decide) hf64 (fun _ h9 => h9) rfl dX7_order_23 ?_
          refine lv_iload_n hx hb dX7_order_26 rfl (lv_at hl 1 rfl) ?_
          refine va_iast hx hb hK hP hD hS 1 0 rfl rfl (i := nI q) (vp_in_nI (by omega) (by omega)) dX7_order_27 (fun H locs hP hD hS => ?_)
          have hP : va_P D vwCl [(m0, .inr (7, [.int (nI n), .ref g1, .ref g2, .ref g3, .int mr, .ref g4, .int my, .ref g5, .int (nI q), .ref g6, .int ml, .ref g7, .ref g8, .ref g9, .ref g10, .ref g11, .ref g12])), (g6, .inl (cI, 9, .inl (upd fo (nI q).toNatClampNeg p0)))] H := hP
          have hD : va_D (aA as) [(m0, .inr (7, [.int (nI n), .ref g1, .ref g2, .ref g3, .int mr, .ref g4, .int my, .ref g5, .int (nI q), .ref g6, .int ml, .ref g7, .ref g8, .ref g9, .ref g10, .ref g11, .ref g12])), (g6, .inl (cI, 9, .inl (upd fo (nI q).toNatClampNeg p0)))] := hD
          rw [nI_clamp (n := q) (by omega)] at hP hD
          refine lv_aload_n hx hb dX7_order_28 rfl (lv_at hl 0 rfl) ?_
          refine lv_dup hx hb dX7_order_29 rfl ?_
          refine va_get (D := D) (ci := 7) (v := .int (nI q)) (C := RX7) (T := TX7) (N := 17) hx hb hts hiX7 hown hK hP 0 rfl rfl 8 (by decide) hf64 (fun _ h9 => h9) rfl dX7_order_30 ?_
          refine lv_iconst (v := nI 1) hx hb dX7_order_33 (by decide) ?_
          refine lv_iadd hx hb dX7_order_34 ?_
          refine cn_i (y := nI (q + 1)) (nI_add q 1) ?_
          refine va_put (D := D) (ci := 7) (v := .int (nI (q + 1))) (ty := tyX7 8) (C := RX7) (T := TX7) (N := 17) hx hb hts hiX7 tyX7 tyX7_ok nmX7 hown hK hP hD hS 0 rfl rfl 8 (by decide) hf64 (fun _ h9 => h9) rfl (by decide +kernel) rfl rfl (Nat.le_of_ble_eq_true rfl) dX7_order_35 (fun H locs hP hD hS => ?_)
          have hP : va_P D vwCl [(m0, .inr (7, [.int (nI n), .ref g1, .ref g2, .ref g3, .int mr, .ref g4, .int my, .ref g5, .int (nI (q + 1)), .ref g6, .int ml, .ref g7, .ref g8, .ref g9, .ref g10, .ref g11, .ref g12])), (g6, .inl (cI, 9, .inl (upd fo q p0)))] H := hP
          have hD : va_D (aA as) [(m0, .inr (7, [.int (nI n), .ref g1, .ref g2, .ref g3, .int mr, .ref g4, .int my, .ref g5, .int (nI (q + 1)), .ref g6, .int ml, .ref g7, .ref g8, .ref g9, .ref g10, .ref g11, .ref g12])), (g6, .inl (cI, 9, .inl (upd fo q p0)))] := hD
          refine lv_aload_n hx hb dX7_order_38 rfl (lv_at hl 0 rfl) ?_
          refine va_get (D := D) (ci := 7) (v := .int (nI (q + 1))) (C := RX7) (T := TX7) (N := 17) hx hb hts hiX7 hown hK hP 0 rfl rfl 8 (by decide) hf64 (fun _ h9 => h9) rfl dX7_order_39 ?_
          rw [← hQ]
          exact W.iret (v := nI (q + 1)) hx hb hr (fun tS htS hWS => ⟨⟨(nI (q + 1)), (), rfl, Or.inl ⟨rfl, w1, fun ⟨z, h1, h2⟩ => w3 z h1 h2⟩, trivial⟩, by rw [← has]; exact hS.F htS⟩) (by rw [← has]; exact hS.2.2) dX7_order_42
        · exact absurd c4 (by first | decide | exact nz_lt (by omega) | exact fun h => h (nz_ge (by omega)))
      · skip
        refine lv_if_lt (tgt := 18) hx hb dX7_order_13 (by decide) (fun c5 => ?_) (fun c5 => ?_)
        · exact absurd c5 (by first | decide | exact nz_lt (by omega) | exact fun h => h (nz_ge (by omega)))
        · skip
          refine lv_iconst (v := (-1 : Int32)) hx hb dX7_order_16 (by decide) ?_
          rw [← hQ]
          exact W.iret (v := (-1 : Int32)) hx hb hr (fun tS htS hWS => ⟨⟨(-1 : Int32), (), rfl, Or.inr ⟨rfl, fun h => by first | exact w1 h.1 | exact h.2 ⟨z9, hz9, w3⟩⟩, trivial⟩, by rw [← has]; exact hS.F htS⟩) (by rw [← has]; exact hS.2.2) dX7_order_17
  · skip
    refine lv_if_eq (tgt := 16) hx hb dX7_order_5 (by decide) (fun c6 => ?_) (fun c6 => ?_)
    · skip
      refine lv_iconst (v := (-1 : Int32)) hx hb dX7_order_16 (by decide) ?_
      rw [← hQ]
      exact W.iret (v := (-1 : Int32)) hx hb hr (fun tS htS hWS => ⟨⟨(-1 : Int32), (), rfl, Or.inr ⟨rfl, fun h => by first | exact w1 h.1 | exact h.2 ⟨z9, hz9, w3⟩⟩, trivial⟩, by rw [← has]; exact hS.F htS⟩) (by rw [← has]; exact hS.2.2) dX7_order_17
    · exact absurd c6 (by first | decide | exact nz_lt (by omega) | exact fun h => h (nz_ge (by omega)))
def rm_c_X7_ratioUp : Room := { frames := 0, cells := 0, slots := 0, locals := 0 }
set_option maxHeartbeats 400000 in
set_option maxRecDepth 100000 in
theorem c_X7_ratioUp (l : Launch) (D : va_G) (cI cJ cZ : ClassId) (m0 : Nat) (g1 : Nat) (g2 : Nat) (g3 : Nat) (g4 : Nat) (g5 : Nat) (g6 : Nat) (g7 : Nat) (g8 : Nat) (g9 : Nat) (g10 : Nat) (g11 : Nat) (g12 : Nat) (j : Nat) (mp : Int32) (mr : Int32) (my : Int32) (mo : Int32) (ml : Int32) (fg : Nat → Int32) (fb : Nat → Int32) (fp : Nat → Int32) (hj : j < 9) : Met l yX7_ratioUp wsX7_ratioUp rm_c_X7_ratioUp (pc_ D cI cJ cZ [.ref m0, .int (nI j)] [(m0, .inr (7, [.int mp, .ref g1, .ref g2, .ref g3, .int mr, .ref g4, .int my, .ref g5, .int mo, .ref g6, .int ml, .ref g7, .ref g8, .ref g9, .ref g10, .ref g11, .ref g12])), (g1, .inl (cI, 9, .inl fg)), (g2, .inl (cI, 9, .inl fb)), (g3, .inl (cI, 9, .inl fp))]) (va_Qi (fun (r : Int32) (_ : Unit) => r = fp j * (fg j + fb j)) (fun _ _ => True) aN) 0 0 aN := by
  refine Met.ofW (cc := cX7_ratioUp) (maxL := 2) (ret := (some .int)) (by decide) rfl ?_
  intro p e s m args below meth c s₁ B hml hv
  obtain ⟨rfl, hP, hKN⟩ := hv
  have hK := hKN.1
  have hx := B.exec
  have hb := B.bytes
  have hr := B.returns
  have hts := atoms_spec (ws := wsX7_ratioUp) B.pre
  have hown : s.vm.findClass RX7 = some m.cls := findClass_of_methodNamed B.named
  have hlocks := B.notSynchronized
  have hiX7 : ∀ w ∈ wsX70, w ∈ wsX7_ratioUp := by decide +kernel
  have hf13 := hts (.fieldLink RX7 13 "LookBenchModel" "good" "[I") (by decide +kernel)
  have hf17 := hts (.fieldLink RX7 17 "LookBenchModel" "bad" "[I") (by decide +kernel)
  have hf20 := hts (.fieldLink RX7 20 "LookBenchModel" "price" "[I") (by decide +kernel)
  have hS : va_S aN s.heap s.heap [] := va_S.rf
  have hl := lv_entry ([.ref m0, .int (nI j)]) (n := 2) (Nat.le_of_ble_eq_true rfl)
  rw [lg_entry_eq]
  generalize (lg_sl ([.ref m0, .int (nI j)]) ++ List.replicate (2 - (lg_sl ([.ref m0, .int (nI j)])).length) Slot.unset).toArray = ls at hl ⊢
  have hl : lv_has ls 2 [(0, .ref m0), (1, .int (nI j))] := hl
  generalize hQ : MQ below _ _ s _ _ _ = Q
  obtain ⟨H, hH⟩ : ∃ z, z = s.heap := ⟨_, rfl⟩
  have hP : va_P D vwCl [(m0, .inr (7, [.int mp, .ref g1, .ref g2, .ref g3, .int mr, .ref g4, .int my, .ref g5, .int mo, .ref g6, .int ml, .ref g7, .ref g8, .ref g9, .ref g10, .ref g11, .ref g12])), (g1, .inl (cI, 9, .inl fg)), (g2, .inl (cI, 9, .inl fb)), (g3, .inl (cI, 9, .inl fp))] H := by rw [hH]; exact hP
  have hS : va_S aN s.heap H [] := by rw [hH]; exact hS
  refine m_heap hH ?_
  clear hH
  refine lv_aload_n hx hb dX7_ratioUp_0 rfl (lv_at hl 0 rfl) ?_
  refine va_get (D := D) (ci := 7) (v := .ref g3) (C := RX7) (T := TX7) (N := 17) hx hb hts hiX7 hown hK hP 0 rfl rfl 3 (by decide) hf20 (fun _ h9 => h9) rfl dX7_ratioUp_1 ?_
  refine lv_iload_n hx hb dX7_ratioUp_4 rfl (lv_at hl 1 rfl) ?_
  refine va_iald hx hb hK hP 3 0 rfl rfl (i := nI j) (vp_in_nI (by omega) (by omega)) dX7_ratioUp_5 ?_
  refine cn_i (y := fp j) (congrArg fp (nI_clamp (by omega))) ?_
  refine lv_aload_n hx hb dX7_ratioUp_6 rfl (lv_at hl 0 rfl) ?_
  refine va_get (D := D) (ci := 7) (v := .ref g1) (C := RX7) (T := TX7) (N := 17) hx hb hts hiX7 hown hK hP 0 rfl rfl 1 (by decide) hf13 (fun _ h9 => h9) rfl dX7_ratioUp_7 ?_
  refine lv_iload_n hx hb dX7_ratioUp_10 rfl (lv_at hl 1 rfl) ?_
  refine va_iald hx hb hK hP 1 0 rfl rfl (i := nI j) (vp_in_nI (by omega) (by omega)) dX7_ratioUp_11 ?_
  refine cn_i (y := fg j) (congrArg fg (nI_clamp (by omega))) ?_
  refine lv_aload_n hx hb dX7_ratioUp_12 rfl (lv_at hl 0 rfl) ?_
  refine va_get (D := D) (ci := 7) (v := .ref g2) (C := RX7) (T := TX7) (N := 17) hx hb hts hiX7 hown hK hP 0 rfl rfl 2 (by decide) hf17 (fun _ h9 => h9) rfl dX7_ratioUp_13 ?_
  refine lv_iload_n hx hb dX7_ratioUp_16 rfl (lv_at hl 1 rfl) ?_
  refine va_iald hx hb hK hP 2 0 rfl rfl (i := nI j) (vp_in_nI (by omega) (by omega)) dX7_ratioUp_17 ?_
  refine cn_i (y := fb j) (congrArg fb (nI_clamp (by omega))) ?_
  refine lv_iadd hx hb dX7_ratioUp_18 ?_
  refine lv_imul hx hb dX7_ratioUp_19 ?_
  rw [← hQ]
  exact W.iret (v := (fp j) * ((fg j) + (fb j))) hx hb hr (fun tS htS hWS => ⟨⟨((fp j) * ((fg j) + (fb j))), (), rfl, rfl, trivial⟩, hS.F htS⟩) hS.2.2 dX7_ratioUp_20
def rm_c_X7_down : Room := { frames := 0, cells := 0, slots := 0, locals := 0 }
set_option maxHeartbeats 400000 in
set_option maxRecDepth 100000 in
theorem c_X7_down (l : Launch) (D : va_G) (cI cJ cZ : ClassId) (m0 : Nat) (g1 : Nat) (g2 : Nat) (g3 : Nat) (g4 : Nat) (g5 : Nat) (g6 : Nat) (g7 : Nat) (g8 : Nat) (g9 : Nat) (g10 : Nat) (g11 : Nat) (g12 : Nat) (j : Nat) (mp : Int32) (mr : Int32) (my : Int32) (mo : Int32) (ml : Int32) (sd : Int32) (fg : Nat → Int32) (fb : Nat → Int32) (hj : j < 9) : Met l yX7_down wsX7_down rm_c_X7_down (pc_ D cI cJ cZ [.ref m0, .int (nI j), .int sd] [(m0, .inr (7, [.int mp, .ref g1, .ref g2, .ref g3, .int mr, .ref g4, .int my, .ref g5, .int mo, .ref g6, .int ml, .ref g7, .ref g8, .ref g9, .ref g10, .ref g11, .ref g12])), (g1, .inl (cI, 9, .inl fg)), (g2, .inl (cI, 9, .inl fb))]) (va_Qi (fun (r : Int32) (_ : Unit) => r = if sd = 0 then fb j else fg j) (fun _ _ => True) aN) 0 0 aN := by
  refine Met.ofW (cc := cX7_down) (maxL := 3) (ret := (some .int)) (by decide) rfl ?_
  intro p e s m args below meth c s₁ B hml hv
  obtain ⟨rfl, hP, hKN⟩ := hv
  have hK := hKN.1
  have hx := B.exec
  have hb := B.bytes
  have hr := B.returns
  have hts := atoms_spec (ws := wsX7_down) B.pre
  have hown : s.vm.findClass RX7 = some m.cls := findClass_of_methodNamed B.named
  have hlocks := B.notSynchronized
  have hiX7 : ∀ w ∈ wsX70, w ∈ wsX7_down := by decide +kernel
  have hf13 := hts (.fieldLink RX7 13 "LookBenchModel" "good" "[I") (by decide +kernel)
  have hf17 := hts (.fieldLink RX7 17 "LookBenchModel" "bad" "[I") (by decide +kernel)
  have hS : va_S aN s.heap s.heap [] := va_S.rf
  have hl := lv_entry ([.ref m0, .int (nI j), .int sd]) (n := 3) (Nat.le_of_ble_eq_true rfl)
  rw [lg_entry_eq]
  generalize (lg_sl ([.ref m0, .int (nI j), .int sd]) ++ List.replicate (3 - (lg_sl ([.ref m0, .int (nI j), .int sd])).length) Slot.unset).toArray = ls at hl ⊢
  have hl : lv_has ls 3 [(0, .ref m0), (1, .int (nI j)), (2, .int sd)] := hl
  generalize hQ : MQ below _ _ s _ _ _ = Q
  obtain ⟨H, hH⟩ : ∃ z, z = s.heap := ⟨_, rfl⟩
  have hP : va_P D vwCl [(m0, .inr (7, [.int mp, .ref g1, .ref g2, .ref g3, .int mr, .ref g4, .int my, .ref g5, .int mo, .ref g6, .int ml, .ref g7, .ref g8, .ref g9, .ref g10, .ref g11, .ref g12])), (g1, .inl (cI, 9, .inl fg)), (g2, .inl (cI, 9, .inl fb))] H := by rw [hH]; exact hP
  have hS : va_S aN s.heap H [] := by rw [hH]; exact hS
  refine m_heap hH ?_
  clear hH
  refine lv_iload_n hx hb dX7_down_0 rfl (lv_at hl 2 rfl) ?_
  refine lv_if_eq (tgt := 13) hx hb dX7_down_1 (by decide) (fun c1 => ?_) (fun c1 => ?_)
  · skip
    refine lv_aload_n hx hb dX7_down_13 rfl (lv_at hl 0 rfl) ?_
    refine va_get (D := D) (ci := 7) (v := .ref g2) (C := RX7) (T := TX7) (N := 17) hx hb hts hiX7 hown hK hP 0 rfl rfl 2 (by decide) hf17 (fun _ h9 => h9) rfl dX7_down_14 ?_
    refine lv_iload_n hx hb dX7_down_17 rfl (lv_at hl 1 rfl) ?_
    refine va_iald hx hb hK hP 2 0 rfl rfl (i := nI j) (vp_in_nI (by omega) (by omega)) dX7_down_18 ?_
    refine cn_i (y := fb j) (congrArg fb (nI_clamp (by omega))) ?_
    rw [← hQ]
    exact W.iret (v := fb j) hx hb hr (fun tS htS hWS => ⟨⟨(fb j), (), rfl, by first | rw [if_pos c1] | rw [if_neg c1], trivial⟩, hS.F htS⟩) hS.2.2 dX7_down_19
  · skip
    refine lv_aload_n hx hb dX7_down_4 rfl (lv_at hl 0 rfl) ?_
    refine va_get (D := D) (ci := 7) (v := .ref g1) (C := RX7) (T := TX7) (N := 17) hx hb hts hiX7 hown hK hP 0 rfl rfl 1 (by decide) hf13 (fun _ h9 => h9) rfl dX7_down_5 ?_
    refine lv_iload_n hx hb dX7_down_8 rfl (lv_at hl 1 rfl) ?_
    refine va_iald hx hb hK hP 1 0 rfl rfl (i := nI j) (vp_in_nI (by omega) (by omega)) dX7_down_9 ?_
    refine cn_i (y := fg j) (congrArg fg (nI_clamp (by omega))) ?_
    refine lv_goto (tgt := 19) hx hb dX7_down_10 (by decide) ?_
    rw [← hQ]
    exact W.iret (v := fg j) hx hb hr (fun tS htS hWS => ⟨⟨(fg j), (), rfl, by first | rw [if_pos c1] | rw [if_neg c1], trivial⟩, hS.F htS⟩) hS.2.2 dX7_down_19
def rm_c_X7_ratios : Room := { frames := 1, cells := 0, slots := 0, locals := 23 }
set_option maxHeartbeats 400000 in
set_option maxRecDepth 100000 in
theorem c_X7_ratios (l : Launch) (D : va_G) (cI cJ cZ : ClassId) (m0 : Nat) (g1 : Nat) (g2 : Nat) (g3 : Nat) (g4 : Nat) (g5 : Nat) (g6 : Nat) (g7 : Nat) (g8 : Nat) (g9 : Nat) (g10 : Nat) (g11 : Nat) (g12 : Nat) (n : Nat) (mr : Int32) (my : Int32) (mo : Int32) (ml : Int32) (sd : Int32) (em : Int32) (fg : Nat → Int32) (fb : Nat → Int32) (fp : Nat → Int32) (fo : Nat → Int32) (hn : n ≤ 9) (h1n : 1 ≤ n) : Met l yX7_ratios wsX7_ratios rm_c_X7_ratios (pm_ D cI cJ cZ [.ref m0, .int sd, .int em] [(m0, .inr (7, [.int (nI n), .ref g1, .ref g2, .ref g3, .int mr, .ref g4, .int my, .ref g5, .int mo, .ref g6, .int ml, .ref g7, .ref g8, .ref g9, .ref g10, .ref g11, .ref g12])), (g1, .inl (cI, 9, .inl fg)), (g2, .inl (cI, 9, .inl fb)), (g3, .inl (cI, 9, .inl fp)), (g6, .inl (cI, 9, .inl fo))]) (va_Qi (fun (r : Int32) (u : Unit) => r = if em = 0 then nI n else nI 0) (fun (u : Unit) tS => True) (aA [m0, g1, g2, g3, g6])) 0 0 (aA [m0, g1, g2, g3, g6]) := by
  refine Met.ofW (cc := cX7_ratios) (maxL := 5) (ret := (some .int)) (by decide) rfl ?_
  intro p e s m args below meth c s₁ B hml hv
  obtain ⟨rfl, hP, hKN, hD0⟩ := hv
  have hK := hKN.1
  have hx := B.exec
  have hb := B.bytes
  have hr := B.returns
  have hts := atoms_spec (ws := wsX7_ratios) B.pre
  have hown : s.vm.findClass RX7 = some m.cls := findClass_of_methodNamed B.named
  have hlocks := B.notSynchronized
  have hiX7 : ∀ w ∈ wsX70, w ∈ wsX7_ratios := by decide +kernel
  have hf7 := hts (.fieldLink RX7 7 "LookBenchModel" "parts" "I") (by decide +kernel)
  have hf33 := hts (.fieldLink RX7 33 "LookBenchModel" "order" "[I") (by decide +kernel)
  have hf64 := hts (.fieldLink RX7 64 "LookBenchModel" "ordered" "I") (by decide +kernel)
  obtain ⟨as, has⟩ : ∃ z : List Nat, z = [m0, g1, g2, g3, g6] := ⟨_, rfl⟩
  have hD := hD0.addr (as := as) (by rw [has]; rfl)
  have hS : va_S (aA as) s.heap s.heap [] := va_S.rf
  have hl := lv_entry ([.ref m0, .int sd, .int em]) (n := 5) (Nat.le_of_ble_eq_true rfl)
  rw [lg_entry_eq]
  generalize (lg_sl ([.ref m0, .int sd, .int em]) ++ List.replicate (5 - (lg_sl ([.ref m0, .int sd, .int em])).length) Slot.unset).toArray = ls at hl ⊢
  have hl : lv_has ls 5 [(0, .ref m0), (1, .int sd), (2, .int em)] := hl
  generalize hQ : MQ below _ _ s _ _ _ = Q
  obtain ⟨H, hH⟩ : ∃ z, z = s.heap := ⟨_, rfl⟩
  have hP : va_P D vwCl [(m0, .inr (7, [.int (nI n), .ref g1, .ref g2, .ref g3, .int mr, .ref g4, .int my, .ref g5, .int mo, .ref g6, .int ml, .ref g7, .ref g8, .ref g9, .ref g10, .ref g11, .ref g12])), (g1, .inl (cI, 9, .inl fg)), (g2, .inl (cI, 9, .inl fb)), (g3, .inl (cI, 9, .inl fp)), (g6, .inl (cI, 9, .inl fo))] H := by rw [hH]; exact hP
  have hS : va_S (aA as) s.heap H [] := by rw [hH]; exact hS
  refine m_heap hH ?_
  clear hH
  refine lv_aload_n hx hb dX7_ratios_0 rfl (lv_at hl 0 rfl) ?_
  refine lv_iconst (v := nI 0) hx hb dX7_ratios_1 (by decide) ?_
  refine va_put (D := D) (ci := 7) (v := .int (nI 0)) (ty := tyX7 8) (C := RX7) (T := TX7) (N := 17) hx hb hts hiX7 tyX7 tyX7_ok nmX7 hown hK hP hD hS 0 rfl rfl 8 (by decide) hf64 (fun _ h9 => h9) rfl (by decide +kernel) rfl rfl (Nat.le_of_ble_eq_true rfl) dX7_ratios_2 (fun H locs hP hD hS => ?_)
  have hP : va_P D vwCl [(m0, .inr (7, [.int (nI n), .ref g1, .ref g2, .ref g3, .int mr, .ref g4, .int my, .ref g5, .int (nI 0), .ref g6, .int ml, .ref g7, .ref g8, .ref g9, .ref g10, .ref g11, .ref g12])), (g1, .inl (cI, 9, .inl fg)), (g2, .inl (cI, 9, .inl fb)), (g3, .inl (cI, 9, .inl fp)), (g6, .inl (cI, 9, .inl fo))] H := hP
  have hD : va_D (aA as) [(m0, .inr (7, [.int (nI n), .ref g1, .ref g2, .ref g3, .int mr, .ref g4, .int my, .ref g5, .int (nI 0), .ref g6, .int ml, .ref g7, .ref g8, .ref g9, .ref g10, .ref g11, .ref g12])), (g1, .inl (cI, 9, .inl fg)), (g2, .inl (cI, 9, .inl fb)), (g3, .inl (cI, 9, .inl fp)), (g6, .inl (cI, 9, .inl fo))] := hD
  have loop1 : ∀ (fu : Nat) (k : Nat) (uo : Nat → Int32) (H : Heap) (locs : List Loc) (ls : Array Slot), (k ≤ n ∧ n < k + fu) → (¬ em = 0 → k = 0) → va_P D vwCl [(m0, .inr (7, [.int (nI n), .ref g1, .ref g2, .ref g3, .int mr, .ref g4, .int my, .ref g5, .int (nI k), .ref g6, .int ml, .ref g7, .ref g8, .ref g9, .ref g10, .ref g11, .ref g12])), (g1, .inl (cI, 9, .inl fg)), (g2, .inl (cI, 9, .inl fb)), (g3, .inl (cI, 9, .inl fp)), (g6, .inl (cI, 9, .inl uo))] H → va_D (aA as) [(m0, .inr (7, [.int (nI n), .ref g1, .ref g2, .ref g3, .int mr, .ref g4, .int my, .ref g5, .int (nI k), .ref g6, .int ml, .ref g7, .ref g8, .ref g9, .ref g10, .ref g11, .ref g12])), (g1, .inl (cI, 9, .inl fg)), (g2, .inl (cI, 9, .inl fb)), (g3, .inl (cI, 9, .inl fp)), (g6, .inl (cI, 9, .inl uo))] → va_S (aA as) s.heap H locs → lv_has ls 5 [(0, .ref m0), (1, .int sd), (2, .int em)] → W p l e (headSpec wsX7_ratios rm_c_X7_ratios).room s m ([.ref m0, .int sd, .int em] : List Value).toArray below meth c H locs 0 0 Q (F0 m 5 ls []) := by
    intro fu
    induction fu with
    | zero => intro k uo H locs ls hk hz; exact absurd hk (by omega)
    | succ fu ih1 =>
      intro k uo H locs ls hk hz hP hD hS hl
      refine lv_iload_n hx hb dX7_ratios_5 rfl (lv_at hl 2 rfl) ?_
      refine lv_if_ne (tgt := 109) hx hb dX7_ratios_6 (by decide) (fun c2 => ?_) (fun c2 => ?_)
      · skip
        refine lv_aload_n hx hb dX7_ratios_109 rfl (lv_at hl 0 rfl) ?_
        refine va_get (D := D) (ci := 7) (v := .int (nI k)) (C := RX7) (T := TX7) (N := 17) hx hb hts hiX7 hown hK hP 0 rfl rfl 8 (by decide) hf64 (fun _ h9 => h9) rfl dX7_ratios_110 ?_
        rw [← hQ]
        exact W.iret (v := nI k) hx hb hr (fun tS htS hWS => ⟨⟨(nI k), (), rfl, by first | rw [if_neg c2, hz c2] | rw [if_pos c2, show k = n by omega], trivial⟩, by rw [← has]; exact hS.F htS⟩) (by rw [← has]; exact hS.2.2) dX7_ratios_113
      · skip
        refine lv_aload_n hx hb dX7_ratios_9 rfl (lv_at hl 0 rfl) ?_
        refine va_get (D := D) (ci := 7) (v := .int (nI k)) (C := RX7) (T := TX7) (N := 17) hx hb hts hiX7 hown hK hP 0 rfl rfl 8 (by decide) hf64 (fun _ h9 => h9) rfl dX7_ratios_10 ?_
        refine lv_aload_n hx hb dX7_ratios_13 rfl (lv_at hl 0 rfl) ?_
        refine va_get (D := D) (ci := 7) (v := .int (nI n)) (C := RX7) (T := TX7) (N := 17) hx hb hts hiX7 hown hK hP 0 rfl rfl 0 (by decide) hf7 (fun _ h9 => h9) rfl dX7_ratios_14 ?_
        refine lv_icmp_ge (tgt := 109) hx hb dX7_ratios_17 (by decide) (fun c3 => ?_) (fun c3 => ?_)
        · skip
          have d3 := c3
          rw [nI_leI (by omega) (by omega)] at d3
          refine lv_aload_n hx hb dX7_ratios_109 rfl (lv_at hl 0 rfl) ?_
          refine va_get (D := D) (ci := 7) (v := .int (nI k)) (C := RX7) (T := TX7) (N := 17) hx hb hts hiX7 hown hK hP 0 rfl rfl 8 (by decide) hf64 (fun _ h9 => h9) rfl dX7_ratios_110 ?_
          rw [← hQ]
          exact W.iret (v := nI k) hx hb hr (fun tS htS hWS => ⟨⟨(nI k), (), rfl, by first | rw [if_neg c2, hz c2] | rw [if_pos c2, show k = n by omega], trivial⟩, by rw [← has]; exact hS.F htS⟩) (by rw [← has]; exact hS.2.2) dX7_ratios_113
        · skip
          have d3 := c3
          rw [nI_leI (by omega) (by omega)] at d3
          refine lv_iconst (v := (-1 : Int32)) hx hb dX7_ratios_20 (by decide) ?_
          refine lv_istore_n (lv' := [(3, .int (-1 : Int32)), (0, .ref m0), (1, .int sd), (2, .int em)]) hx hb dX7_ratios_21 rfl hl (by decide) rfl (fun ls hl => ?_)
          refine lv_iconst (v := nI 0) hx hb dX7_ratios_22 (by decide) ?_
          refine lv_istore (lv' := [(4, .int (nI 0)), (3, .int (-1 : Int32)), (0, .ref m0), (1, .int sd), (2, .int em)]) hx hb dX7_ratios_23 hl (by decide) rfl (fun ls hl => ?_)
          have loop4 : ∀ (fu : Nat) (t : Nat) (nx : Int32) (H : Heap) (locs : List Loc) (ls : Array Slot), (t ≤ n ∧ n < t + fu) → (nx = -1 ∨ ∃ y, y < n ∧ nx = nI y) → va_P D vwCl [(m0, .inr (7, [.int (nI n), .ref g1, .ref g2, .ref g3, .int mr, .ref g4, .int my, .ref g5, .int (nI k), .ref g6, .int ml, .ref g7, .ref g8, .ref g9, .ref g10, .ref g11, .ref g12])), (g1, .inl (cI, 9, .inl fg)), (g2, .inl (cI, 9, .inl fb)), (g3, .inl (cI, 9, .inl fp)), (g6, .inl (cI, 9, .inl uo))] H → va_D (aA as) [(m0, .inr (7, [.int (nI n), .ref g1, .ref g2, .ref g3, .int mr, .ref g4, .int my, .ref g5, .int (nI k), .ref g6, .int ml, .ref g7, .ref g8, .ref g9, .ref g10, .ref g11, .ref g12])), (g1, .inl (cI, 9, .inl fg)), (g2, .inl (cI, 9, .inl fb)), (g3, .inl (cI, 9, .inl fp)), (g6, .inl (cI, 9, .inl uo))] → va_S (aA as) s.heap H locs → lv_has ls 5 [(4, .int (nI t)), (3, .int nx), (0, .ref m0), (1, .int sd), (2, .int em)] → W p l e (headSpec wsX7_ratios rm_c_X7_ratios).room s m ([.ref m0, .int sd, .int em] : List Value).toArray below meth c H locs 0 0 Q (F0 m 25 ls []) := by
            intro fu
            induction fu with
            | zero => intro t nx H locs ls ht hx2; exact absurd ht (by omega)
            | succ fu ih4 =>
              intro t nx H locs ls ht hx2 hP hD hS hl
              refine lv_iload hx hb dX7_ratios_25 (lv_at hl 0 rfl) ?_
              refine lv_aload_n hx hb dX7_ratios_27 rfl (lv_at hl 2 rfl) ?_
              refine va_get (D := D) (ci := 7) (v := .int (nI n)) (C := RX7) (T := TX7) (N := 17) hx hb hts hiX7 hown hK hP 0 rfl rfl 0 (by decide) hf7 (fun _ h9 => h9) rfl dX7_ratios_28 ?_
              refine lv_icmp_ge (tgt := 86) hx hb dX7_ratios_31 (by decide) (fun c5 => ?_) (fun c5 => ?_)
              · skip
                have d5 := c5
                rw [nI_leI (by omega) (by omega)] at d5
                refine lv_aload_n hx hb dX7_ratios_86 rfl (lv_at hl 2 rfl) ?_
                refine va_get (D := D) (ci := 7) (v := .ref g6) (C := RX7) (T := TX7) (N := 17) hx hb hts hiX7 hown hK hP 0 rfl rfl 9 (by decide) hf33 (fun _ h9 => h9) rfl dX7_ratios_87 ?_
                refine lv_aload_n hx hb dX7_ratios_90 rfl (lv_at hl 2 rfl) ?_
                refine va_get (D := D) (ci := 7) (v := .int (nI k)) (C := RX7) (T := TX7) (N := 17) hx hb hts hiX7 hown hK hP 0 rfl rfl 8 (by decide) hf64 (fun _ h9 => h9) rfl dX7_ratios_91 ?_
                refine lv_iload_n hx hb dX7_ratios_94 rfl (lv_at hl 1 rfl) ?_
                refine va_iast hx hb hK hP hD hS 4 0 rfl rfl (i := nI k) (vp_in_nI (by omega) (by omega)) dX7_ratios_95 (fun H locs hP hD hS => ?_)
                have hP : va_P D vwCl [(m0, .inr (7, [.int (nI n), .ref g1, .ref g2, .ref g3, .int mr, .ref g4, .int my, .ref g5, .int (nI k), .ref g6, .int ml, .ref g7, .ref g8, .ref g9, .ref g10, .ref g11, .ref g12])), (g1, .inl (cI, 9, .inl fg)), (g2, .inl (cI, 9, .inl fb)), (g3, .inl (cI, 9, .inl fp)), (g6, .inl (cI, 9, .inl (upd uo (nI k).toNatClampNeg nx)))] H := hP
                have hD : va_D (aA as) [(m0, .inr (7, [.int (nI n), .ref g1, .ref g2, .ref g3, .int mr, .ref g4, .int my, .ref g5, .int (nI k), .ref g6, .int ml, .ref g7, .ref g8, .ref g9, .ref g10, .ref g11, .ref g12])), (g1, .inl (cI, 9, .inl fg)), (g2, .inl (cI, 9, .inl fb)), (g3, .inl (cI, 9, .inl fp)), (g6, .inl (cI, 9, .inl (upd uo (nI k).toNatClampNeg nx)))] := hD
                rw [nI_clamp (n := k) (by omega)] at hP hD
                refine lv_aload_n hx hb dX7_ratios_96 rfl (lv_at hl 2 rfl) ?_
                refine lv_dup hx hb dX7_ratios_97 rfl ?_
                refine va_get (D := D) (ci := 7) (v := .int (nI k)) (C := RX7) (T := TX7) (N := 17) hx hb hts hiX7 hown hK hP 0 rfl rfl 8 (by decide) hf64 (fun _ h9 => h9) rfl dX7_ratios_98 ?_
                refine lv_iconst (v := nI 1) hx hb dX7_ratios_101 (by decide) ?_
                refine lv_iadd hx hb dX7_ratios_102 ?_
                refine cn_i (y := nI (k + 1)) (nI_add k 1) ?_
                refine va_put (D := D) (ci := 7) (v := .int (nI (k + 1))) (ty := tyX7 8) (C := RX7) (T := TX7) (N := 17) hx hb hts hiX7 tyX7 tyX7_ok nmX7 hown hK hP hD hS 0 rfl rfl 8 (by decide) hf64 (fun _ h9 => h9) rfl (by decide +kernel) rfl rfl (Nat.le_of_ble_eq_true rfl) dX7_ratios_103 (fun H locs hP hD hS => ?_)
                have hP : va_P D vwCl [(m0, .inr (7, [.int (nI n), .ref g1, .ref g2, .ref g3, .int mr, .ref g4, .int my, .ref g5, .int (nI (k + 1)), .ref g6, .int ml, .ref g7, .ref g8, .ref g9, .ref g10, .ref g11, .ref g12])), (g1, .inl (cI, 9, .inl fg)), (g2, .inl (cI, 9, .inl fb)), (g3, .inl (cI, 9, .inl fp)), (g6, .inl (cI, 9, .inl (upd uo k nx)))] H := hP
                have hD : va_D (aA as) [(m0, .inr (7, [.int (nI n), .ref g1, .ref g2, .ref g3, .int mr, .ref g4, .int my, .ref g5, .int (nI (k + 1)), .ref g6, .int ml, .ref g7, .ref g8, .ref g9, .ref g10, .ref g11, .ref g12])), (g1, .inl (cI, 9, .inl fg)), (g2, .inl (cI, 9, .inl fb)), (g3, .inl (cI, 9, .inl fp)), (g6, .inl (cI, 9, .inl (upd uo k nx)))] := hD
                refine lv_goto (tgt := 5) hx hb dX7_ratios_106 (by decide) ?_
                exact ih1 (k + 1) (upd uo k nx) _ _ _ (by omega) (fun h => absurd c2 h) hP hD hS (lv_sub hl [2, 3, 4] rfl)
              · skip
                have d5 := c5
                rw [nI_leI (by omega) (by omega)] at d5
                refine lv_aload_n hx hb dX7_ratios_34 rfl (lv_at hl 2 rfl) ?_
                refine lv_iload hx hb dX7_ratios_35 (lv_at hl 0 rfl) ?_
                refine pu_i (va_runV (As := [.int (nI t)]) (rest := []) ⟨hx, hb, hml, hown, hts⟩ (c_X7_placeOf l D cI cJ cZ m0 g1 g2 g3 g4 g5 g6 g7 g8 g9 g10 g11 g12 k (nI n) mr my ml (nI t) uo (by first | assumption | omega)) (cwV 1 hts gX7_ratios_X7_placeOf rfl rfl rfl (by decide +kernel) ⟨Nat.le_of_ble_eq_true rfl, Nat.le_of_ble_eq_true rfl⟩) ⟨pc_blind, va_recv hK hP (ci := 7) (q0 := 0) rfl rfl, fun U hU hW => ⟨rfl, by rw [hU]; exact hP.sub (ws' := [(m0, .inr (7, [.int (nI n), .ref g1, .ref g2, .ref g3, .int mr, .ref g4, .int my, .ref g5, .int (nI k), .ref g6, .int ml, .ref g7, .ref g8, .ref g9, .ref g10, .ref g11, .ref g12])), (g6, .inl (cI, 9, .inl uo))]) [0, 4] rfl, hKN.warm hW⟩⟩ rfl rfl hl.1 rfl (lv_room (Nat.le_of_ble_eq_true rfl)) dX7_ratios_37 ⟨Nat.le_of_ble_eq_true rfl, Nat.le_of_ble_eq_true rfl⟩) hS hP (fun r6 H locs w6r hP hS => ?_)
                have w6 : (r6 = -1 ∧ ∀ z, z < k → ¬ uo z = (nI t)) ∨ (∃ z, z < k ∧ r6 = nI z ∧ uo z = (nI t)) := w6r
                clear w6r
                rcases w6 with ⟨rfl, w6⟩ | ⟨z9, hz9, rfl, w6⟩
                · skip
                  refine lv_if_ge (tgt := 80) hx hb dX7_ratios_40 (by decide) (fun c7 => ?_) (fun c7 => ?_)
                  · exact absurd c7 (by first | decide | exact nz_lt (by omega) | exact fun h => h (nz_ge (by omega)))
                  · skip
                    refine lv_iload_n hx hb dX7_ratios_43 rfl (lv_at hl 1 rfl) ?_
                    refine lv_iconst (v := (-1 : Int32)) hx hb dX7_ratios_44 (by decide) ?_
                    refine lv_icmp_eq (tgt := 77) hx hb dX7_ratios_45 (by decide) (fun c8 => ?_) (fun c8 => ?_)
                    · skip
                      refine lv_iload hx hb dX7_ratios_77 (lv_at hl 0 rfl) ?_
                      refine lv_istore_n (lv' := [(3, .int (nI t)), (4, .int (nI t)), (0, .ref m0), (1, .int sd), (2, .int em)]) hx hb dX7_ratios_79 rfl hl (by decide) rfl (fun ls hl => ?_)
                      refine lv_iinc (v := nI (t + 1)) (lv' := [(4, .int (nI (t + 1))), (3, .int (nI t)), (0, .ref m0), (1, .int sd), (2, .int em)]) hx hb dX7_ratios_80 hl (k := 1) rfl (nI_1 t) (by decide) rfl (fun ls hl => ?_)
                      refine lv_goto (tgt := 25) hx hb dX7_ratios_83 (by decide) ?_
                      exact ih4 (t + 1) (nI t) _ _ _ (by omega) (by first | exact hx2 | exact Or.inr ⟨t, by omega, rfl⟩ | exact Or.inr ⟨y9, hy9, rfl⟩) hP hD hS (lv_sub hl [0, 1, 2, 3, 4] rfl)
                    · skip
                      obtain ⟨y9, hy9, rfl⟩ := hx2.resolve_left c8
                      refine lv_aload_n hx hb dX7_ratios_48 rfl (lv_at hl 2 rfl) ?_
                      refine lv_iload hx hb dX7_ratios_49 (lv_at hl 0 rfl) ?_
                      refine pu_i (va_runV (As := [.int (nI t)]) (rest := []) ⟨hx, hb, hml, hown, hts⟩ (c_X7_ratioUp l D cI cJ cZ m0 g1 g2 g3 g4 g5 g6 g7 g8 g9 g10 g11 g12 t (nI n) mr my (nI k) ml fg fb fp (by first | assumption | omega)) (cwV 1 hts gX7_ratios_X7_ratioUp rfl rfl rfl (by decide +kernel) ⟨Nat.le_of_ble_eq_true rfl, Nat.le_of_ble_eq_true rfl⟩) ⟨pc_blind, va_recv hK hP (ci := 7) (q0 := 0) rfl rfl, fun U hU hW => ⟨rfl, by rw [hU]; exact hP.sub (ws' := [(m0, .inr (7, [.int (nI n), .ref g1, .ref g2, .ref g3, .int mr, .ref g4, .int my, .ref g5, .int (nI k), .ref g6, .int ml, .ref g7, .ref g8, .ref g9, .ref g10, .ref g11, .ref g12])), (g1, .inl (cI, 9, .inl fg)), (g2, .inl (cI, 9, .inl fb)), (g3, .inl (cI, 9, .inl fp))]) [0, 1, 2, 3] rfl, hKN.warm hW⟩⟩ rfl rfl hl.1 rfl (lv_room (Nat.le_of_ble_eq_true rfl)) dX7_ratios_51 ⟨Nat.le_of_ble_eq_true rfl, Nat.le_of_ble_eq_true rfl⟩) hS hP (fun r9 H locs w9r hP hS => ?_)
                      have w9 : r9 = fp t * (fg t + fb t) := w9r
                      clear w9r
                      refine lv_aload_n hx hb dX7_ratios_54 rfl (lv_at hl 2 rfl) ?_
                      refine lv_iload_n hx hb dX7_ratios_55 rfl (lv_at hl 1 rfl) ?_
                      refine lv_iload_n hx hb dX7_ratios_56 rfl (lv_at hl 3 rfl) ?_
                      refine pu_i (va_runV (As := [.int (nI y9), .int sd]) (rest := [.int r9]) ⟨hx, hb, hml, hown, hts⟩ (c_X7_down l D cI cJ cZ m0 g1 g2 g3 g4 g5 g6 g7 g8 g9 g10 g11 g12 y9 (nI n) mr my (nI k) ml sd fg fb (by first | assumption | omega)) (cwV 2 hts gX7_ratios_X7_down rfl rfl rfl (by decide +kernel) ⟨Nat.le_of_ble_eq_true rfl, Nat.le_of_ble_eq_true rfl⟩) ⟨pc_blind, va_recv hK hP (ci := 7) (q0 := 0) rfl rfl, fun U hU hW => ⟨rfl, by rw [hU]; exact hP.sub (ws' := [(m0, .inr (7, [.int (nI n), .ref g1, .ref g2, .ref g3, .int mr, .ref g4, .int my, .ref g5, .int (nI k), .ref g6, .int ml, .ref g7, .ref g8, .ref g9, .ref g10, .ref g11, .ref g12])), (g1, .inl (cI, 9, .inl fg)), (g2, .inl (cI, 9, .inl fb))]) [0, 1, 2] rfl, hKN.warm hW⟩⟩ rfl rfl hl.1 rfl (lv_room (Nat.le_of_ble_eq_true rfl)) dX7_ratios_57 ⟨Nat.le_of_ble_eq_true rfl, Nat.le_of_ble_eq_true rfl⟩) hS hP (fun r10 H locs w10r hP hS => ?_)
                      have w10 : r10 = if sd = 0 then fb y9 else fg y9 := w10r
                      clear w10r
                      refine lv_imul hx hb dX7_ratios_60 ?_
                      refine lv_aload_n hx hb dX7_ratios_61 rfl (lv_at hl 2 rfl) ?_
                      refine lv_iload_n hx hb dX7_ratios_62 rfl (lv_at hl 1 rfl) ?_
                      refine pu_i (va_runV (As := [.int (nI y9)]) (rest := [.int (r9 * r10)]) ⟨hx, hb, hml, hown, hts⟩ (c_X7_ratioUp l D cI cJ cZ m0 g1 g2 g3 g4 g5 g6 g7 g8 g9 g10 g11 g12 y9 (nI n) mr my (nI k) ml fg fb fp (by first | assumption | omega)) (cwV 1 hts gX7_ratios_X7_ratioUp rfl rfl rfl (by decide +kernel) ⟨Nat.le_of_ble_eq_true rfl, Nat.le_of_ble_eq_true rfl⟩) ⟨pc_blind, va_recv hK hP (ci := 7) (q0 := 0) rfl rfl, fun U hU hW => ⟨rfl, by rw [hU]; exact hP.sub (ws' := [(m0, .inr (7, [.int (nI n), .ref g1, .ref g2, .ref g3, .int mr, .ref g4, .int my, .ref g5, .int (nI k), .ref g6, .int ml, .ref g7, .ref g8, .ref g9, .ref g10, .ref g11, .ref g12])), (g1, .inl (cI, 9, .inl fg)), (g2, .inl (cI, 9, .inl fb)), (g3, .inl (cI, 9, .inl fp))]) [0, 1, 2, 3] rfl, hKN.warm hW⟩⟩ rfl rfl hl.1 rfl (lv_room (Nat.le_of_ble_eq_true rfl)) dX7_ratios_63 ⟨Nat.le_of_ble_eq_true rfl, Nat.le_of_ble_eq_true rfl⟩) hS hP (fun r11 H locs w11r hP hS => ?_)
                      have w11 : r11 = fp y9 * (fg y9 + fb y9) := w11r
                      clear w11r
                      refine lv_aload_n hx hb dX7_ratios_66 rfl (lv_at hl 2 rfl) ?_
                      refine lv_iload hx hb dX7_ratios_67 (lv_at hl 0 rfl) ?_
                      refine lv_iload_n hx hb dX7_ratios_69 rfl (lv_at hl 3 rfl) ?_
                      refine pu_i (va_runV (As := [.int (nI t), .int sd]) (rest := [.int r11, .int (r9 * r10)]) ⟨hx, hb, hml, hown, hts⟩ (c_X7_down l D cI cJ cZ m0 g1 g2 g3 g4 g5 g6 g7 g8 g9 g10 g11 g12 t (nI n) mr my (nI k) ml sd fg fb (by first | assumption | omega)) (cwV 2 hts gX7_ratios_X7_down rfl rfl rfl (by decide +kernel) ⟨Nat.le_of_ble_eq_true rfl, Nat.le_of_ble_eq_true rfl⟩) ⟨pc_blind, va_recv hK hP (ci := 7) (q0 := 0) rfl rfl, fun U hU hW => ⟨rfl, by rw [hU]; exact hP.sub (ws' := [(m0, .inr (7, [.int (nI n), .ref g1, .ref g2, .ref g3, .int mr, .ref g4, .int my, .ref g5, .int (nI k), .ref g6, .int ml, .ref g7, .ref g8, .ref g9, .ref g10, .ref g11, .ref g12])), (g1, .inl (cI, 9, .inl fg)), (g2, .inl (cI, 9, .inl fb))]) [0, 1, 2] rfl, hKN.warm hW⟩⟩ rfl rfl hl.1 rfl (lv_room (Nat.le_of_ble_eq_true rfl)) dX7_ratios_70 ⟨Nat.le_of_ble_eq_true rfl, Nat.le_of_ble_eq_true rfl⟩) hS hP (fun r12 H locs w12r hP hS => ?_)
                      have w12 : r12 = if sd = 0 then fb t else fg t := w12r
                      clear w12r
                      refine lv_imul hx hb dX7_ratios_73 ?_
                      refine lv_icmp_ge (tgt := 80) hx hb dX7_ratios_74 (by decide) (fun c13 => ?_) (fun c13 => ?_)
                      · skip
                        refine lv_iinc (v := nI (t + 1)) (lv' := [(4, .int (nI (t + 1))), (3, .int (nI y9)), (0, .ref m0), (1, .int sd), (2, .int em)]) hx hb dX7_ratios_80 hl (k := 0) rfl (nI_1 t) (by decide) rfl (fun ls hl => ?_)
                        refine lv_goto (tgt := 25) hx hb dX7_ratios_83 (by decide) ?_
                        exact ih4 (t + 1) (nI y9) _ _ _ (by omega) (by first | exact hx2 | exact Or.inr ⟨t, by omega, rfl⟩ | exact Or.inr ⟨y9, hy9, rfl⟩) hP hD hS (lv_sub hl [0, 1, 2, 3, 4] rfl)
                      · skip
                        refine lv_iload hx hb dX7_ratios_77 (lv_at hl 0 rfl) ?_
                        refine lv_istore_n (lv' := [(3, .int (nI t)), (4, .int (nI t)), (0, .ref m0), (1, .int sd), (2, .int em)]) hx hb dX7_ratios_79 rfl hl (by decide) rfl (fun ls hl => ?_)
                        refine lv_iinc (v := nI (t + 1)) (lv' := [(4, .int (nI (t + 1))), (3, .int (nI t)), (0, .ref m0), (1, .int sd), (2, .int em)]) hx hb dX7_ratios_80 hl (k := 1) rfl (nI_1 t) (by decide) rfl (fun ls hl => ?_)
                        refine lv_goto (tgt := 25) hx hb dX7_ratios_83 (by decide) ?_
                        exact ih4 (t + 1) (nI t) _ _ _ (by omega) (by first | exact hx2 | exact Or.inr ⟨t, by omega, rfl⟩ | exact Or.inr ⟨y9, hy9, rfl⟩) hP hD hS (lv_sub hl [0, 1, 2, 3, 4] rfl)
                · skip
                  refine lv_if_ge (tgt := 80) hx hb dX7_ratios_40 (by decide) (fun c14 => ?_) (fun c14 => ?_)
                  · skip
                    refine lv_iinc (v := nI (t + 1)) (lv' := [(4, .int (nI (t + 1))), (3, .int nx), (0, .ref m0), (1, .int sd), (2, .int em)]) hx hb dX7_ratios_80 hl (k := 0) rfl (nI_1 t) (by decide) rfl (fun ls hl => ?_)
                    refine lv_goto (tgt := 25) hx hb dX7_ratios_83 (by decide) ?_
                    exact ih4 (t + 1) nx _ _ _ (by omega) (by first | exact hx2 | exact Or.inr ⟨t, by omega, rfl⟩ | exact Or.inr ⟨y9, hy9, rfl⟩) hP hD hS (lv_sub hl [0, 1, 2, 3, 4] rfl)
                  · exact absurd c14 (by first | decide | exact nz_lt (by omega) | exact fun h => h (nz_ge (by omega)))
          exact loop4 (n + 1) 0 (-1 : Int32) _ _ _ (by omega) (Or.inl rfl) hP hD hS (lv_sub hl [0, 1, 2, 3, 4] rfl)
  exact loop1 (n + 1) 0 fo _ _ _ (by omega) (fun _ => rfl) hP hD hS (lv_sub hl [0, 1, 2] rfl)
def rm_c_X7_ordered : Room := { frames := 1, cells := 0, slots := 0, locals := 25 }
set_option maxHeartbeats 400000 in
set_option maxRecDepth 100000 in
theorem c_X7_ordered (l : Launch) (D : va_G) (cI cJ cZ : ClassId) (m0 : Nat) (g1 : Nat) (g2 : Nat) (g3 : Nat) (g4 : Nat) (g5 : Nat) (g6 : Nat) (g7 : Nat) (g8 : Nat) (g9 : Nat) (g10 : Nat) (g11 : Nat) (g12 : Nat) (q : Nat) (mp : Int32) (mr : Int32) (my : Int32) (ml : Int32) (p0 : Int32) (fo : Nat → Int32) (hq : q ≤ 9) : Met l yX7_ordered wsX7_ordered rm_c_X7_ordered (pc_ D cI cJ cZ [.ref m0, .int p0] [(m0, .inr (7, [.int mp, .ref g1, .ref g2, .ref g3, .int mr, .ref g4, .int my, .ref g5, .int (nI q), .ref g6, .int ml, .ref g7, .ref g8, .ref g9, .ref g10, .ref g11, .ref g12])), (g6, .inl (cI, 9, .inl fo))]) (va_Qi (fun (r : Int32) (_ : Unit) => r = oF fo q p0) (fun _ _ => True) aN) 0 0 aN := by
  refine Met.ofW (cc := cX7_ordered) (maxL := 2) (ret := (some .int)) (by decide) rfl ?_
  intro p e s m args below meth c s₁ B hml hv
  obtain ⟨rfl, hP, hKN⟩ := hv
  have hK := hKN.1
  have hx := B.exec
  have hb := B.bytes
  have hr := B.returns
  have hts := atoms_spec (ws := wsX7_ordered) B.pre
  have hown : s.vm.findClass RX7 = some m.cls := findClass_of_methodNamed B.named
  have hlocks := B.notSynchronized
  have hiX7 : ∀ w ∈ wsX70, w ∈ wsX7_ordered := by decide +kernel
  have hf33 := hts (.fieldLink RX7 33 "LookBenchModel" "order" "[I") (by decide +kernel)
  have hf64 := hts (.fieldLink RX7 64 "LookBenchModel" "ordered" "I") (by decide +kernel)
  have hS : va_S aN s.heap s.heap [] := va_S.rf
  have hl := lv_entry ([.ref m0, .int p0]) (n := 2) (Nat.le_of_ble_eq_true rfl)
  rw [lg_entry_eq]
  generalize (lg_sl ([.ref m0, .int p0]) ++ List.replicate (2 - (lg_sl ([.ref m0, .int p0])).length) Slot.unset).toArray = ls at hl ⊢
  have hl : lv_has ls 2 [(0, .ref m0), (1, .int p0)] := hl
  generalize hQ : MQ below _ _ s _ _ _ = Q
  obtain ⟨H, hH⟩ : ∃ z, z = s.heap := ⟨_, rfl⟩
  have hP : va_P D vwCl [(m0, .inr (7, [.int mp, .ref g1, .ref g2, .ref g3, .int mr, .ref g4, .int my, .ref g5, .int (nI q), .ref g6, .int ml, .ref g7, .ref g8, .ref g9, .ref g10, .ref g11, .ref g12])), (g6, .inl (cI, 9, .inl fo))] H := by rw [hH]; exact hP
  have hS : va_S aN s.heap H [] := by rw [hH]; exact hS
  refine m_heap hH ?_
  clear hH
  refine lv_iload_n hx hb dX7_ordered_0 rfl (lv_at hl 1 rfl) ?_
  refine lv_i2l hx hb dX7_ordered_1 rfl ?_
  refine lv_lconst (v := lN 0) hx hb dX7_ordered_2 (by decide) ?_
  refine lv_aload_n hx hb dX7_ordered_3 rfl (lv_at hl 0 rfl) ?_
  refine va_get (D := D) (ci := 7) (v := .int (nI q)) (C := RX7) (T := TX7) (N := 17) hx hb hts hiX7 hown hK hP 0 rfl rfl 8 (by decide) hf64 (fun _ h9 => h9) rfl dX7_ordered_4 ?_
  refine lv_iconst (v := nI 1) hx hb dX7_ordered_7 (by decide) ?_
  refine lv_isub hx hb dX7_ordered_8 ?_
  refine cn_i (y := nI q - nI 1) (rfl) ?_
  refine lv_i2l hx hb dX7_ordered_9 rfl ?_
  refine pu_i (va_runS (As := [.long p0.toInt64, .long (lN 0), .long ((nI q - nI 1).toInt64)]) (rest := []) ⟨hx, hb, hml, hown, hts⟩ (c_X7_in l D cI cJ cZ p0.toInt64 (lN 0) ((nI q - nI 1).toInt64)) (va_cwS 3 hts gX7_ordered_X7_in rfl rfl rfl (by decide +kernel) ⟨Nat.le_of_ble_eq_true rfl, Nat.le_of_ble_eq_true rfl⟩) ⟨pc_blind, fun U hU hW => ⟨rfl, by rw [hU]; exact hP.sub (ws' := []) [] rfl, hKN.warm hW⟩⟩ rfl rfl hl.1 rfl (lv_room (Nat.le_of_ble_eq_true rfl)) dX7_ordered_10 ⟨Nat.le_of_ble_eq_true rfl, Nat.le_of_ble_eq_true rfl⟩) hS hP (fun r1 H locs w1r hP hS => ?_)
  have w1 : B01 r1 ((lN 0).toInt ≤ p0.toInt64.toInt ∧ p0.toInt64.toInt ≤ ((nI q - nI 1).toInt64).toInt) := w1r
  clear w1r
  rw [lN_toInt (n := 0) (by omega), j2 p0, j2 (nI q - nI 1), pk_sub_toInt (a := q) (b := 1) (by omega) (by omega)] at w1
  rcases w1 with ⟨rfl, w1⟩ | ⟨rfl, w1⟩
  · skip
    obtain ⟨j9, hj9, rfl⟩ := m_nat (x := p0) (n := q) (by omega)
    refine lv_if_eq (tgt := 25) hx hb dX7_ordered_13 (by decide) (fun c2 => ?_) (fun c2 => ?_)
    · exact absurd c2 (by first | decide | exact nz_lt (by omega) | exact fun h => h (nz_ge (by omega)))
    · skip
      refine lv_aload_n hx hb dX7_ordered_16 rfl (lv_at hl 0 rfl) ?_
      refine va_get (D := D) (ci := 7) (v := .ref g6) (C := RX7) (T := TX7) (N := 17) hx hb hts hiX7 hown hK hP 0 rfl rfl 9 (by decide) hf33 (fun _ h9 => h9) rfl dX7_ordered_17 ?_
      refine lv_iload_n hx hb dX7_ordered_20 rfl (lv_at hl 1 rfl) ?_
      refine va_iald hx hb hK hP 1 0 rfl rfl (i := nI j9) (vp_in_nI (by omega) (by omega)) dX7_ordered_21 ?_
      refine cn_i (y := fo j9) (congrArg fo (nI_clamp (by omega))) ?_
      refine lv_goto (tgt := 26) hx hb dX7_ordered_22 (by decide) ?_
      rw [← hQ]
      exact W.iret (v := fo j9) hx hb hr (fun tS htS hWS => ⟨⟨(fo j9), (), rfl, by first | exact (oF_in hj9 hq).symm | exact (oF_no (by omega)).symm, trivial⟩, hS.F htS⟩) hS.2.2 dX7_ordered_26
  · skip
    refine lv_if_eq (tgt := 25) hx hb dX7_ordered_13 (by decide) (fun c3 => ?_) (fun c3 => ?_)
    · skip
      refine lv_iconst (v := (-1 : Int32)) hx hb dX7_ordered_25 (by decide) ?_
      rw [← hQ]
      exact W.iret (v := (-1 : Int32)) hx hb hr (fun tS htS hWS => ⟨⟨(-1 : Int32), (), rfl, by first | exact (oF_in hj9 hq).symm | exact (oF_no (by omega)).symm, trivial⟩, hS.F htS⟩) hS.2.2 dX7_ordered_26
    · exact absurd c3 (by first | decide | exact nz_lt (by omega) | exact fun h => h (nz_ge (by omega)))
def rm_c_X7_looked : Room := { frames := 1, cells := 0, slots := 0, locals := 25 }
set_option maxHeartbeats 400000 in
set_option maxRecDepth 100000 in
theorem c_X7_looked (l : Launch) (D : va_G) (cI cJ cZ : ClassId) (m0 : Nat) (g1 : Nat) (g2 : Nat) (g3 : Nat) (g4 : Nat) (g5 : Nat) (g6 : Nat) (g7 : Nat) (g8 : Nat) (g9 : Nat) (g10 : Nat) (g11 : Nat) (g12 : Nat) (q : Nat) (mp : Int32) (mr : Int32) (my : Int32) (mo : Int32) (p0 : Int32) (fl : Nat → Int32) (hq : q ≤ 9) : Met l yX7_looked wsX7_looked rm_c_X7_looked (pc_ D cI cJ cZ [.ref m0, .int p0] [(m0, .inr (7, [.int mp, .ref g1, .ref g2, .ref g3, .int mr, .ref g4, .int my, .ref g5, .int mo, .ref g6, .int (nI q), .ref g7, .ref g8, .ref g9, .ref g10, .ref g11, .ref g12])), (g7, .inl (cI, 9, .inl fl))]) (va_Qi (fun (r : Int32) (_ : Unit) => r = oF fl q p0) (fun _ _ => True) aN) 0 0 aN := by
  refine Met.ofW (cc := cX7_looked) (maxL := 2) (ret := (some .int)) (by decide) rfl ?_
  intro p e s m args below meth c s₁ B hml hv
  obtain ⟨rfl, hP, hKN⟩ := hv
  have hK := hKN.1
  have hx := B.exec
  have hb := B.bytes
  have hr := B.returns
  have hts := atoms_spec (ws := wsX7_looked) B.pre
  have hown : s.vm.findClass RX7 = some m.cls := findClass_of_methodNamed B.named
  have hlocks := B.notSynchronized
  have hiX7 : ∀ w ∈ wsX70, w ∈ wsX7_looked := by decide +kernel
  have hf36 := hts (.fieldLink RX7 36 "LookBenchModel" "looked" "[I") (by decide +kernel)
  have hf67 := hts (.fieldLink RX7 67 "LookBenchModel" "looks" "I") (by decide +kernel)
  have hS : va_S aN s.heap s.heap [] := va_S.rf
  have hl := lv_entry ([.ref m0, .int p0]) (n := 2) (Nat.le_of_ble_eq_true rfl)
  rw [lg_entry_eq]
  generalize (lg_sl ([.ref m0, .int p0]) ++ List.replicate (2 - (lg_sl ([.ref m0, .int p0])).length) Slot.unset).toArray = ls at hl ⊢
  have hl : lv_has ls 2 [(0, .ref m0), (1, .int p0)] := hl
  generalize hQ : MQ below _ _ s _ _ _ = Q
  obtain ⟨H, hH⟩ : ∃ z, z = s.heap := ⟨_, rfl⟩
  have hP : va_P D vwCl [(m0, .inr (7, [.int mp, .ref g1, .ref g2, .ref g3, .int mr, .ref g4, .int my, .ref g5, .int mo, .ref g6, .int (nI q), .ref g7, .ref g8, .ref g9, .ref g10, .ref g11, .ref g12])), (g7, .inl (cI, 9, .inl fl))] H := by rw [hH]; exact hP
  have hS : va_S aN s.heap H [] := by rw [hH]; exact hS
  refine m_heap hH ?_
  clear hH
  refine lv_iload_n hx hb dX7_looked_0 rfl (lv_at hl 1 rfl) ?_
  refine lv_i2l hx hb dX7_looked_1 rfl ?_
  refine lv_lconst (v := lN 0) hx hb dX7_looked_2 (by decide) ?_
  refine lv_aload_n hx hb dX7_looked_3 rfl (lv_at hl 0 rfl) ?_
  refine va_get (D := D) (ci := 7) (v := .int (nI q)) (C := RX7) (T := TX7) (N := 17) hx hb hts hiX7 hown hK hP 0 rfl rfl 10 (by decide) hf67 (fun _ h9 => h9) rfl dX7_looked_4 ?_
  refine lv_iconst (v := nI 1) hx hb dX7_looked_7 (by decide) ?_
  refine lv_isub hx hb dX7_looked_8 ?_
  refine cn_i (y := nI q - nI 1) (rfl) ?_
  refine lv_i2l hx hb dX7_looked_9 rfl ?_
  refine pu_i (va_runS (As := [.long p0.toInt64, .long (lN 0), .long ((nI q - nI 1).toInt64)]) (rest := []) ⟨hx, hb, hml, hown, hts⟩ (c_X7_in l D cI cJ cZ p0.toInt64 (lN 0) ((nI q - nI 1).toInt64)) (va_cwS 3 hts gX7_looked_X7_in rfl rfl rfl (by decide +kernel) ⟨Nat.le_of_ble_eq_true rfl, Nat.le_of_ble_eq_true rfl⟩) ⟨pc_blind, fun U hU hW => ⟨rfl, by rw [hU]; exact hP.sub (ws' := []) [] rfl, hKN.warm hW⟩⟩ rfl rfl hl.1 rfl (lv_room (Nat.le_of_ble_eq_true rfl)) dX7_looked_10 ⟨Nat.le_of_ble_eq_true rfl, Nat.le_of_ble_eq_true rfl⟩) hS hP (fun r1 H locs w1r hP hS => ?_)
  have w1 : B01 r1 ((lN 0).toInt ≤ p0.toInt64.toInt ∧ p0.toInt64.toInt ≤ ((nI q - nI 1).toInt64).toInt) := w1r
  clear w1r
  rw [lN_toInt (n := 0) (by omega), j2 p0, j2 (nI q - nI 1), pk_sub_toInt (a := q) (b := 1) (by omega) (by omega)] at w1
  rcases w1 with ⟨rfl, w1⟩ | ⟨rfl, w1⟩
  · skip
    obtain ⟨j9, hj9, rfl⟩ := m_nat (x := p0) (n := q) (by omega)
    refine lv_if_eq (tgt := 25) hx hb dX7_looked_13 (by decide) (fun c2 => ?_) (fun c2 => ?_)
    · exact absurd c2 (by first | decide | exact nz_lt (by omega) | exact fun h => h (nz_ge (by omega)))
    · skip
      refine lv_aload_n hx hb dX7_looked_16 rfl (lv_at hl 0 rfl) ?_
      refine va_get (D := D) (ci := 7) (v := .ref g7) (C := RX7) (T := TX7) (N := 17) hx hb hts hiX7 hown hK hP 0 rfl rfl 11 (by decide) hf36 (fun _ h9 => h9) rfl dX7_looked_17 ?_
      refine lv_iload_n hx hb dX7_looked_20 rfl (lv_at hl 1 rfl) ?_
      refine va_iald hx hb hK hP 1 0 rfl rfl (i := nI j9) (vp_in_nI (by omega) (by omega)) dX7_looked_21 ?_
      refine cn_i (y := fl j9) (congrArg fl (nI_clamp (by omega))) ?_
      refine lv_goto (tgt := 26) hx hb dX7_looked_22 (by decide) ?_
      rw [← hQ]
      exact W.iret (v := fl j9) hx hb hr (fun tS htS hWS => ⟨⟨(fl j9), (), rfl, by first | exact (oF_in hj9 hq).symm | exact (oF_no (by omega)).symm, trivial⟩, hS.F htS⟩) hS.2.2 dX7_looked_26
  · skip
    refine lv_if_eq (tgt := 25) hx hb dX7_looked_13 (by decide) (fun c3 => ?_) (fun c3 => ?_)
    · skip
      refine lv_iconst (v := (-1 : Int32)) hx hb dX7_looked_25 (by decide) ?_
      rw [← hQ]
      exact W.iret (v := (-1 : Int32)) hx hb hr (fun tS htS hWS => ⟨⟨(-1 : Int32), (), rfl, by first | exact (oF_in hj9 hq).symm | exact (oF_no (by omega)).symm, trivial⟩, hS.F htS⟩) hS.2.2 dX7_looked_26
    · exact absurd c3 (by first | decide | exact nz_lt (by omega) | exact fun h => h (nz_ge (by omega)))
def rm_c_X7_about : Room := { frames := 0, cells := 0, slots := 0, locals := 0 }
set_option maxHeartbeats 400000 in
set_option maxRecDepth 100000 in
theorem c_X7_about (l : Launch) (D : va_G) (cI cJ cZ : ClassId) (m0 : Nat) (g1 : Nat) (g2 : Nat) (g3 : Nat) (g4 : Nat) (g5 : Nat) (g6 : Nat) (g7 : Nat) (g8 : Nat) (g9 : Nat) (g10 : Nat) (g11 : Nat) (g12 : Nat) (mp : Int32) (mr : Int32) (my : Int32) (mo : Int32) (ml : Int32) (wh : Int32)  : Met l yX7_about wsX7_about rm_c_X7_about (pc_ D cI cJ cZ [.ref m0, .int wh] [(m0, .inr (7, [.int mp, .ref g1, .ref g2, .ref g3, .int mr, .ref g4, .int my, .ref g5, .int mo, .ref g6, .int ml, .ref g7, .ref g8, .ref g9, .ref g10, .ref g11, .ref g12]))]) (va_Qi (fun (r : Int32) (_ : Unit) => r = abF mp mr my mo ml wh) (fun _ _ => True) aN) 0 0 aN := by
  refine Met.ofW (cc := cX7_about) (maxL := 2) (ret := (some .int)) (by decide) rfl ?_
  intro p e s m args below meth c s₁ B hml hv
  obtain ⟨rfl, hP, hKN⟩ := hv
  have hK := hKN.1
  have hx := B.exec
  have hb := B.bytes
  have hr := B.returns
  have hts := atoms_spec (ws := wsX7_about) B.pre
  have hown : s.vm.findClass RX7 = some m.cls := findClass_of_methodNamed B.named
  have hlocks := B.notSynchronized
  have hiX7 : ∀ w ∈ wsX70, w ∈ wsX7_about := by decide +kernel
  have hf7 := hts (.fieldLink RX7 7 "LookBenchModel" "parts" "I") (by decide +kernel)
  have hf27 := hts (.fieldLink RX7 27 "LookBenchModel" "system" "I") (by decide +kernel)
  have hf59 := hts (.fieldLink RX7 59 "LookBenchModel" "rules" "I") (by decide +kernel)
  have hf64 := hts (.fieldLink RX7 64 "LookBenchModel" "ordered" "I") (by decide +kernel)
  have hf67 := hts (.fieldLink RX7 67 "LookBenchModel" "looks" "I") (by decide +kernel)
  have hS : va_S aN s.heap s.heap [] := va_S.rf
  have hl := lv_entry ([.ref m0, .int wh]) (n := 2) (Nat.le_of_ble_eq_true rfl)
  rw [lg_entry_eq]
  generalize (lg_sl ([.ref m0, .int wh]) ++ List.replicate (2 - (lg_sl ([.ref m0, .int wh])).length) Slot.unset).toArray = ls at hl ⊢
  have hl : lv_has ls 2 [(0, .ref m0), (1, .int wh)] := hl
  generalize hQ : MQ below _ _ s _ _ _ = Q
  obtain ⟨H, hH⟩ : ∃ z, z = s.heap := ⟨_, rfl⟩
  have hP : va_P D vwCl [(m0, .inr (7, [.int mp, .ref g1, .ref g2, .ref g3, .int mr, .ref g4, .int my, .ref g5, .int mo, .ref g6, .int ml, .ref g7, .ref g8, .ref g9, .ref g10, .ref g11, .ref g12]))] H := by rw [hH]; exact hP
  have hS : va_S aN s.heap H [] := by rw [hH]; exact hS
  refine m_heap hH ?_
  clear hH
  refine lv_iload_n hx hb dX7_about_0 rfl (lv_at hl 1 rfl) ?_
  by_cases c1 : wh.toInt < (0) ∨ (4) < wh.toInt
  · refine lv_tableOut (tgt := 61) hx hb dX7_about_1 c1 (by decide) ?_
    refine lv_iconst (v := (-1 : Int32)) hx hb dX7_about_61 (by decide) ?_
    rw [← hQ]
    exact W.iret (v := (-1 : Int32)) hx hb hr (fun tS htS hWS => ⟨⟨(-1 : Int32), (), rfl, (abF_out c1).symm, trivial⟩, hS.F htS⟩) hS.2.2 dX7_about_62
  · have h1 : wh = nI 0 ∨ wh = nI 1 ∨ wh = nI 2 ∨ wh = nI 3 ∨ wh = nI 4 := m_sw_0_4 c1
    rcases h1 with e1 | e1 | e1 | e1 | e1
    · refine cn_i (y := nI 0) e1 ?_
      refine lv_tableIn (tgt := 36) (off := 35) hx hb dX7_about_1 (by decide) (by decide) (by decide) (by decide) ?_
      refine lv_aload_n hx hb dX7_about_36 rfl (lv_at hl 0 rfl) ?_
      refine va_get (D := D) (ci := 7) (v := .int mp) (C := RX7) (T := TX7) (N := 17) hx hb hts hiX7 hown hK hP 0 rfl rfl 0 (by decide) hf7 (fun _ h9 => h9) rfl dX7_about_37 ?_
      rw [← hQ]
      exact W.iret (v := mp) hx hb hr (fun tS htS hWS => ⟨⟨mp, (), rfl, by rw [e1]; rfl, trivial⟩, hS.F htS⟩) hS.2.2 dX7_about_40
    · refine cn_i (y := nI 1) e1 ?_
      refine lv_tableIn (tgt := 41) (off := 40) hx hb dX7_about_1 (by decide) (by decide) (by decide) (by decide) ?_
      refine lv_aload_n hx hb dX7_about_41 rfl (lv_at hl 0 rfl) ?_
      refine va_get (D := D) (ci := 7) (v := .int mr) (C := RX7) (T := TX7) (N := 17) hx hb hts hiX7 hown hK hP 0 rfl rfl 4 (by decide) hf59 (fun _ h9 => h9) rfl dX7_about_42 ?_
      rw [← hQ]
      exact W.iret (v := mr) hx hb hr (fun tS htS hWS => ⟨⟨mr, (), rfl, by rw [e1]; rfl, trivial⟩, hS.F htS⟩) hS.2.2 dX7_about_45
    · refine cn_i (y := nI 2) e1 ?_
      refine lv_tableIn (tgt := 46) (off := 45) hx hb dX7_about_1 (by decide) (by decide) (by decide) (by decide) ?_
      refine lv_aload_n hx hb dX7_about_46 rfl (lv_at hl 0 rfl) ?_
      refine va_get (D := D) (ci := 7) (v := .int my) (C := RX7) (T := TX7) (N := 17) hx hb hts hiX7 hown hK hP 0 rfl rfl 6 (by decide) hf27 (fun _ h9 => h9) rfl dX7_about_47 ?_
      rw [← hQ]
      exact W.iret (v := my) hx hb hr (fun tS htS hWS => ⟨⟨my, (), rfl, by rw [e1]; rfl, trivial⟩, hS.F htS⟩) hS.2.2 dX7_about_50
    · refine cn_i (y := nI 3) e1 ?_
      refine lv_tableIn (tgt := 51) (off := 50) hx hb dX7_about_1 (by decide) (by decide) (by decide) (by decide) ?_
      refine lv_aload_n hx hb dX7_about_51 rfl (lv_at hl 0 rfl) ?_
      refine va_get (D := D) (ci := 7) (v := .int mo) (C := RX7) (T := TX7) (N := 17) hx hb hts hiX7 hown hK hP 0 rfl rfl 8 (by decide) hf64 (fun _ h9 => h9) rfl dX7_about_52 ?_
      rw [← hQ]
      exact W.iret (v := mo) hx hb hr (fun tS htS hWS => ⟨⟨mo, (), rfl, by rw [e1]; rfl, trivial⟩, hS.F htS⟩) hS.2.2 dX7_about_55
    · refine cn_i (y := nI 4) e1 ?_
      refine lv_tableIn (tgt := 56) (off := 55) hx hb dX7_about_1 (by decide) (by decide) (by decide) (by decide) ?_
      refine lv_aload_n hx hb dX7_about_56 rfl (lv_at hl 0 rfl) ?_
      refine va_get (D := D) (ci := 7) (v := .int ml) (C := RX7) (T := TX7) (N := 17) hx hb hts hiX7 hown hK hP 0 rfl rfl 10 (by decide) hf67 (fun _ h9 => h9) rfl dX7_about_57 ?_
      rw [← hQ]
      exact W.iret (v := ml) hx hb hr (fun tS htS hWS => ⟨⟨ml, (), rfl, by rw [e1]; rfl, trivial⟩, hS.F htS⟩) hS.2.2 dX7_about_60
