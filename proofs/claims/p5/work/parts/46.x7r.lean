def rm_c_X7_shown : Room := { frames := 3, cells := 0, slots := 0, locals := 67 }
set_option maxHeartbeats 400000 in
set_option maxRecDepth 100000 in
theorem c_X7_shown (l : Launch) (D : va_G) (cI cJ cZ : ClassId) (m0 : Nat) (g1 : Nat) (g2 : Nat) (g3 : Nat) (g4 : Nat) (g5 : Nat) (g6 : Nat) (g7 : Nat) (g8 : Nat) (g9 : Nat) (g10 : Nat) (g11 : Nat) (g12 : Nat) (n : Nat) (cv : Nat) (y : Nat) (mr : Int32) (mo : Int32) (ml : Int32) (st : Int32) (fp : Nat → Int32) (fs : Nat → Int32) (th : Nat → Int32) (hn : n ≤ 9) (hcv : cv < 3 ^ n) (hy : y < 40) (hth : ∀ z, z < 9 → th z = nI (3 ^ z)) (h01 : T01 fs) : Met l yX7_shown wsX7_shown rm_c_X7_shown (pc_ D cI cJ cZ [.ref m0, .int st, .int (nI cv)] [(m0, .inr (7, [.int (nI n), .ref g1, .ref g2, .ref g3, .int mr, .ref g4, .int (nI y), .ref g5, .int mo, .ref g6, .int ml, .ref g7, .ref g8, .ref g9, .ref g10, .ref g11, .ref g12])), (g3, .inl (cI, 9, .inl fp)), (g4, .inl (cZ, 20480, .inl fs)), (g12, .inl (cI, 9, .inl th))]) (va_Qi (fun (r : Int32) (_ : Unit) => True) (fun _ _ => True) aN) 0 0 aN := by
  refine Met.ofW (cc := cX7_shown) (maxL := 9) (ret := (some .int)) (by decide) rfl ?_
  intro p e s m args below meth c s₁ B hml hv
  obtain ⟨rfl, hP, hKN⟩ := hv
  have hK := hKN.1
  have hx := B.exec
  have hb := B.bytes
  have hr := B.returns
  have hts := atoms_spec (ws := wsX7_shown) B.pre
  have hown : s.vm.findClass RX7 = some m.cls := findClass_of_methodNamed B.named
  have hlocks := B.notSynchronized
  have hiX7 : ∀ w ∈ wsX70, w ∈ wsX7_shown := by decide +kernel
  have hf7 := hts (.fieldLink RX7 7 "LookBenchModel" "parts" "I") (by decide +kernel)
  have hf20 := hts (.fieldLink RX7 20 "LookBenchModel" "price" "[I") (by decide +kernel)
  have hf52 := hts (.fieldLink RX7 52 "LookBenchModel" "three" "[I") (by decide +kernel)
  have hS : va_S aN s.heap s.heap [] := va_S.rf
  have hl := lv_entry ([.ref m0, .int st, .int (nI cv)]) (n := 9) (Nat.le_of_ble_eq_true rfl)
  rw [lg_entry_eq]
  generalize (lg_sl ([.ref m0, .int st, .int (nI cv)]) ++ List.replicate (9 - (lg_sl ([.ref m0, .int st, .int (nI cv)])).length) Slot.unset).toArray = ls at hl ⊢
  have hl : lv_has ls 9 [(0, .ref m0), (1, .int st), (2, .int (nI cv))] := hl
  generalize hQ : MQ below _ _ s _ _ _ = Q
  obtain ⟨H, hH⟩ : ∃ z, z = s.heap := ⟨_, rfl⟩
  have hP : va_P D vwCl [(m0, .inr (7, [.int (nI n), .ref g1, .ref g2, .ref g3, .int mr, .ref g4, .int (nI y), .ref g5, .int mo, .ref g6, .int ml, .ref g7, .ref g8, .ref g9, .ref g10, .ref g11, .ref g12])), (g3, .inl (cI, 9, .inl fp)), (g4, .inl (cZ, 20480, .inl fs)), (g12, .inl (cI, 9, .inl th))] H := by rw [hH]; exact hP
  have hS : va_S aN s.heap H [] := by rw [hH]; exact hS
  refine m_heap hH ?_
  clear hH
  have h2n := m_pow hn
  have h2p := m_powp n
  have h3n := m_p3 hn
  refine lv_iconst (v := (-1 : Int32)) hx hb dX7_shown_0 (by decide) ?_
  refine lv_istore_n (lv' := [(3, .int (-1 : Int32)), (0, .ref m0), (1, .int st), (2, .int (nI cv))]) hx hb dX7_shown_1 rfl hl (by decide) rfl (fun ls hl => ?_)
  refine lv_iconst (v := nI 0) hx hb dX7_shown_2 (by decide) ?_
  refine lv_istore (lv' := [(4, .int (nI 0)), (3, .int (-1 : Int32)), (0, .ref m0), (1, .int st), (2, .int (nI cv))]) hx hb dX7_shown_3 hl (by decide) rfl (fun ls hl => ?_)
  have loop1 : ∀ (fu : Nat) (k : Nat) (le : Int32) (H : Heap) (locs : List Loc) (ls : Array Slot), (k ≤ 2 ^ n ∧ 2 ^ n < k + fu) → va_P D vwCl [(m0, .inr (7, [.int (nI n), .ref g1, .ref g2, .ref g3, .int mr, .ref g4, .int (nI y), .ref g5, .int mo, .ref g6, .int ml, .ref g7, .ref g8, .ref g9, .ref g10, .ref g11, .ref g12])), (g3, .inl (cI, 9, .inl fp)), (g4, .inl (cZ, 20480, .inl fs)), (g12, .inl (cI, 9, .inl th))] H → va_S aN s.heap H locs → lv_has ls 9 [(4, .int (nI k)), (3, .int le), (0, .ref m0), (1, .int st), (2, .int (nI cv))] → W p l e (headSpec wsX7_shown rm_c_X7_shown).room s m ([.ref m0, .int st, .int (nI cv)] : List Value).toArray below meth c H locs 0 0 Q (F0 m 5 ls []) := by
    intro fu
    induction fu with
    | zero => intro k le H locs ls hk; exact absurd hk (by omega)
    | succ fu ih1 =>
      intro k le H locs ls hk hP hS hl
      refine lv_iload hx hb dX7_shown_5 (lv_at hl 0 rfl) ?_
      refine lv_aload_n hx hb dX7_shown_7 rfl (lv_at hl 2 rfl) ?_
      refine pu_i (va_runV (As := []) (rest := [.int (nI k)]) ⟨hx, hb, hml, hown, hts⟩ (c_X7_settings l D cI cJ cZ m0 g1 g2 g3 g4 g5 g6 g7 g8 g9 g10 g11 g12 n mr (nI y) mo ml (by first | assumption | omega)) (cwV 0 hts gX7_shown_X7_settings rfl rfl rfl (by decide +kernel) ⟨Nat.le_of_ble_eq_true rfl, Nat.le_of_ble_eq_true rfl⟩) ⟨pc_blind, va_recv hK hP (ci := 7) (q0 := 0) rfl rfl, fun U hU hW => ⟨rfl, by rw [hU]; exact hP.sub (ws' := [(m0, .inr (7, [.int (nI n), .ref g1, .ref g2, .ref g3, .int mr, .ref g4, .int (nI y), .ref g5, .int mo, .ref g6, .int ml, .ref g7, .ref g8, .ref g9, .ref g10, .ref g11, .ref g12]))]) [0] rfl, hKN.warm hW⟩⟩ rfl rfl hl.1 rfl (lv_room (Nat.le_of_ble_eq_true rfl)) dX7_shown_8 ⟨Nat.le_of_ble_eq_true rfl, Nat.le_of_ble_eq_true rfl⟩) hS hP (fun r2 H locs w2r hP hS => ?_)
      have w2 : r2 = nI (2 ^ n) := w2r
      clear w2r
      obtain rfl : r2 = nI (2 ^ n) := w2
      refine lv_icmp_ge (tgt := 163) hx hb dX7_shown_11 (by decide) (fun c3 => ?_) (fun c3 => ?_)
      · skip
        have d3 := c3
        rw [nI_leI (by omega) (by omega)] at d3
        refine lv_iload_n hx hb dX7_shown_163 rfl (lv_at hl 1 rfl) ?_
        rw [← hQ]
        exact W.iret (v := le) hx hb hr (fun tS htS hWS => ⟨⟨le, (), rfl, trivial, trivial⟩, hS.F htS⟩) hS.2.2 dX7_shown_164
      · skip
        have d3 := c3
        rw [nI_leI (by omega) (by omega)] at d3
        refine lv_iload_n hx hb dX7_shown_14 rfl (lv_at hl 4 rfl) ?_
        refine lv_istore (lv' := [(5, .int (nI cv)), (4, .int (nI k)), (3, .int le), (0, .ref m0), (1, .int st), (2, .int (nI cv))]) hx hb dX7_shown_15 hl (by decide) rfl (fun ls hl => ?_)
        refine lv_iconst (v := nI 0) hx hb dX7_shown_17 (by decide) ?_
        refine lv_istore (lv' := [(6, .int (nI 0)), (5, .int (nI cv)), (4, .int (nI k)), (3, .int le), (0, .ref m0), (1, .int st), (2, .int (nI cv))]) hx hb dX7_shown_18 hl (by decide) rfl (fun ls hl => ?_)
        refine lv_iconst (v := nI 1) hx hb dX7_shown_20 (by decide) ?_
        refine lv_istore (lv' := [(7, .int (nI 1)), (6, .int (nI 0)), (5, .int (nI cv)), (4, .int (nI k)), (3, .int le), (0, .ref m0), (1, .int st), (2, .int (nI cv))]) hx hb dX7_shown_21 hl (by decide) rfl (fun ls hl => ?_)
        refine lv_iconst (v := nI 0) hx hb dX7_shown_23 (by decide) ?_
        refine lv_istore (lv' := [(8, .int (nI 0)), (7, .int (nI 1)), (6, .int (nI 0)), (5, .int (nI cv)), (4, .int (nI k)), (3, .int le), (0, .ref m0), (1, .int st), (2, .int (nI cv))]) hx hb dX7_shown_24 hl (by decide) rfl (fun ls hl => ?_)
        have loop4 : ∀ (fu : Nat) (t : Nat) (c2 : Nat) (v6 : Int32) (v7 : Int32) (H : Heap) (locs : List Loc) (ls : Array Slot), (t ≤ n ∧ n < t + fu) → (c2 < 3 ^ n ∧ ∀ z, t ≤ z → c2 / 3 ^ z % 3 = cv / 3 ^ z % 3) → va_P D vwCl [(m0, .inr (7, [.int (nI n), .ref g1, .ref g2, .ref g3, .int mr, .ref g4, .int (nI y), .ref g5, .int mo, .ref g6, .int ml, .ref g7, .ref g8, .ref g9, .ref g10, .ref g11, .ref g12])), (g3, .inl (cI, 9, .inl fp)), (g4, .inl (cZ, 20480, .inl fs)), (g12, .inl (cI, 9, .inl th))] H → va_S aN s.heap H locs → lv_has ls 9 [(8, .int (nI t)), (7, .int v7), (6, .int v6), (5, .int (nI c2)), (4, .int (nI k)), (3, .int le), (0, .ref m0), (1, .int st), (2, .int (nI cv))] → W p l e (headSpec wsX7_shown rm_c_X7_shown).room s m ([.ref m0, .int st, .int (nI cv)] : List Value).toArray below meth c H locs 0 0 Q (F0 m 26 ls []) := by
          intro fu
          induction fu with
          | zero => intro t c2 v6 v7 H locs ls ht hc; exact absurd ht (by omega)
          | succ fu ih4 =>
            intro t c2 v6 v7 H locs ls ht hc hP hS hl
            refine lv_iload hx hb dX7_shown_26 (lv_at hl 0 rfl) ?_
            refine lv_aload_n hx hb dX7_shown_28 rfl (lv_at hl 6 rfl) ?_
            refine va_get (D := D) (ci := 7) (v := .int (nI n)) (C := RX7) (T := TX7) (N := 17) hx hb hts hiX7 hown hK hP 0 rfl rfl 0 (by decide) hf7 (fun _ h9 => h9) rfl dX7_shown_29 ?_
            refine lv_icmp_ge (tgt := 128) hx hb dX7_shown_32 (by decide) (fun c5 => ?_) (fun c5 => ?_)
            · skip
              have d5 := c5
              rw [nI_leI (by omega) (by omega)] at d5
              refine lv_iload hx hb dX7_shown_128 (lv_at hl 1 rfl) ?_
              refine lv_if_eq (tgt := 157) hx hb dX7_shown_130 (by decide) (fun c6 => ?_) (fun c6 => ?_)
              · skip
                refine lv_iinc (v := nI (k + 1)) (lv' := [(4, .int (nI (k + 1))), (8, .int (nI t)), (7, .int v7), (6, .int v6), (5, .int (nI c2)), (3, .int le), (0, .ref m0), (1, .int st), (2, .int (nI cv))]) hx hb dX7_shown_157 hl (k := 4) rfl (nI_1 k) (by decide) rfl (fun ls hl => ?_)
                refine lv_goto (tgt := 5) hx hb dX7_shown_160 (by decide) ?_
                exact ih1 (k + 1) le _ _ _ (by omega) hP hS (lv_sub hl [0, 5, 6, 7, 8] rfl)
              · skip
                refine lv_iload_n hx hb dX7_shown_133 rfl (lv_at hl 5 rfl) ?_
                refine lv_iconst (v := (-1 : Int32)) hx hb dX7_shown_134 (by decide) ?_
                refine lv_icmp_eq (tgt := 144) hx hb dX7_shown_135 (by decide) (fun c7 => ?_) (fun c7 => ?_)
                · skip
                  refine lv_aload_n hx hb dX7_shown_144 rfl (lv_at hl 6 rfl) ?_
                  refine lv_iload hx hb dX7_shown_145 (lv_at hl 3 rfl) ?_
                  refine pu_i (va_runV (As := [.int (nI c2)]) (rest := []) ⟨hx, hb, hml, hown, hts⟩ (c_X7_sureAt l D cI cJ cZ m0 g1 g2 g3 g4 g5 g6 g7 g8 g9 g10 g11 g12 n c2 y mr mo ml fs th (by first | assumption | omega) (by first | assumption | omega) (by first | assumption | omega) (by first | assumption | omega) (by first | assumption | omega)) (cwV 1 hts gX7_shown_X7_sureAt rfl rfl rfl (by decide +kernel) ⟨Nat.le_of_ble_eq_true rfl, Nat.le_of_ble_eq_true rfl⟩) ⟨pc_blind, va_recv hK hP (ci := 7) (q0 := 0) rfl rfl, fun U hU hW => ⟨rfl, by rw [hU]; exact hP.sub (ws' := [(m0, .inr (7, [.int (nI n), .ref g1, .ref g2, .ref g3, .int mr, .ref g4, .int (nI y), .ref g5, .int mo, .ref g6, .int ml, .ref g7, .ref g8, .ref g9, .ref g10, .ref g11, .ref g12])), (g4, .inl (cZ, 20480, .inl fs)), (g12, .inl (cI, 9, .inl th))]) [0, 2, 3] rfl, hKN.warm hW⟩⟩ rfl rfl hl.1 rfl (lv_room (Nat.le_of_ble_eq_true rfl)) dX7_shown_147 ⟨Nat.le_of_ble_eq_true rfl, Nat.le_of_ble_eq_true rfl⟩) hS hP (fun r8 H locs w8r hP hS => ?_)
                  have w8 : (r8 = nI 1 ∧ Sg fs y (setN c2 1 n)) ∨ (r8 = -1 ∧ ¬ Sg fs y (setN c2 1 n) ∧ Sg fs y (2 ^ n - 1 - setN c2 2 n)) ∨ (r8 = nI 0 ∧ ¬ Sg fs y (setN c2 1 n) ∧ ¬ Sg fs y (2 ^ n - 1 - setN c2 2 n)) := w8r
                  clear w8r
                  rcases w8 with ⟨rfl, w8⟩ | ⟨rfl, w8⟩ | ⟨rfl, w8⟩
                  · skip
                    refine lv_iconst (v := (-1 : Int32)) hx hb dX7_shown_150 (by decide) ?_
                    refine lv_icmp_eq (tgt := 157) hx hb dX7_shown_151 (by decide) (fun c9 => ?_) (fun c9 => ?_)
                    · exact absurd c9 (by first | decide | exact nz_lt (by omega) | exact fun h => h (nz_ge (by omega)))
                    · skip
                      refine lv_iload hx hb dX7_shown_154 (lv_at hl 2 rfl) ?_
                      refine lv_istore_n (lv' := [(3, .int v6), (8, .int (nI t)), (7, .int v7), (6, .int v6), (5, .int (nI c2)), (4, .int (nI k)), (0, .ref m0), (1, .int st), (2, .int (nI cv))]) hx hb dX7_shown_156 rfl hl (by decide) rfl (fun ls hl => ?_)
                      refine lv_iinc (v := nI (k + 1)) (lv' := [(4, .int (nI (k + 1))), (3, .int v6), (8, .int (nI t)), (7, .int v7), (6, .int v6), (5, .int (nI c2)), (0, .ref m0), (1, .int st), (2, .int (nI cv))]) hx hb dX7_shown_157 hl (k := 5) rfl (nI_1 k) (by decide) rfl (fun ls hl => ?_)
                      refine lv_goto (tgt := 5) hx hb dX7_shown_160 (by decide) ?_
                      exact ih1 (k + 1) v6 _ _ _ (by omega) hP hS (lv_sub hl [0, 1, 6, 7, 8] rfl)
                  · skip
                    refine lv_iconst (v := (-1 : Int32)) hx hb dX7_shown_150 (by decide) ?_
                    refine lv_icmp_eq (tgt := 157) hx hb dX7_shown_151 (by decide) (fun c10 => ?_) (fun c10 => ?_)
                    · skip
                      refine lv_iinc (v := nI (k + 1)) (lv' := [(4, .int (nI (k + 1))), (8, .int (nI t)), (7, .int v7), (6, .int v6), (5, .int (nI c2)), (3, .int le), (0, .ref m0), (1, .int st), (2, .int (nI cv))]) hx hb dX7_shown_157 hl (k := 4) rfl (nI_1 k) (by decide) rfl (fun ls hl => ?_)
                      refine lv_goto (tgt := 5) hx hb dX7_shown_160 (by decide) ?_
                      exact ih1 (k + 1) le _ _ _ (by omega) hP hS (lv_sub hl [0, 5, 6, 7, 8] rfl)
                    · exact absurd c10 (by first | decide | exact nz_lt (by omega) | exact fun h => h (nz_ge (by omega)))
                  · skip
                    refine lv_iconst (v := (-1 : Int32)) hx hb dX7_shown_150 (by decide) ?_
                    refine lv_icmp_eq (tgt := 157) hx hb dX7_shown_151 (by decide) (fun c11 => ?_) (fun c11 => ?_)
                    · exact absurd c11 (by first | decide | exact nz_lt (by omega) | exact fun h => h (nz_ge (by omega)))
                    · skip
                      refine lv_iload hx hb dX7_shown_154 (lv_at hl 2 rfl) ?_
                      refine lv_istore_n (lv' := [(3, .int v6), (8, .int (nI t)), (7, .int v7), (6, .int v6), (5, .int (nI c2)), (4, .int (nI k)), (0, .ref m0), (1, .int st), (2, .int (nI cv))]) hx hb dX7_shown_156 rfl hl (by decide) rfl (fun ls hl => ?_)
                      refine lv_iinc (v := nI (k + 1)) (lv' := [(4, .int (nI (k + 1))), (3, .int v6), (8, .int (nI t)), (7, .int v7), (6, .int v6), (5, .int (nI c2)), (0, .ref m0), (1, .int st), (2, .int (nI cv))]) hx hb dX7_shown_157 hl (k := 5) rfl (nI_1 k) (by decide) rfl (fun ls hl => ?_)
                      refine lv_goto (tgt := 5) hx hb dX7_shown_160 (by decide) ?_
                      exact ih1 (k + 1) v6 _ _ _ (by omega) hP hS (lv_sub hl [0, 1, 6, 7, 8] rfl)
                · skip
                  refine lv_iload hx hb dX7_shown_138 (lv_at hl 2 rfl) ?_
                  refine lv_iload_n hx hb dX7_shown_140 rfl (lv_at hl 5 rfl) ?_
                  refine lv_icmp_ge (tgt := 157) hx hb dX7_shown_141 (by decide) (fun c12 => ?_) (fun c12 => ?_)
                  · skip
                    refine lv_iinc (v := nI (k + 1)) (lv' := [(4, .int (nI (k + 1))), (8, .int (nI t)), (7, .int v7), (6, .int v6), (5, .int (nI c2)), (3, .int le), (0, .ref m0), (1, .int st), (2, .int (nI cv))]) hx hb dX7_shown_157 hl (k := 4) rfl (nI_1 k) (by decide) rfl (fun ls hl => ?_)
                    refine lv_goto (tgt := 5) hx hb dX7_shown_160 (by decide) ?_
                    exact ih1 (k + 1) le _ _ _ (by omega) hP hS (lv_sub hl [0, 5, 6, 7, 8] rfl)
                  · skip
                    refine lv_aload_n hx hb dX7_shown_144 rfl (lv_at hl 6 rfl) ?_
                    refine lv_iload hx hb dX7_shown_145 (lv_at hl 3 rfl) ?_
                    refine pu_i (va_runV (As := [.int (nI c2)]) (rest := []) ⟨hx, hb, hml, hown, hts⟩ (c_X7_sureAt l D cI cJ cZ m0 g1 g2 g3 g4 g5 g6 g7 g8 g9 g10 g11 g12 n c2 y mr mo ml fs th (by first | assumption | omega) (by first | assumption | omega) (by first | assumption | omega) (by first | assumption | omega) (by first | assumption | omega)) (cwV 1 hts gX7_shown_X7_sureAt rfl rfl rfl (by decide +kernel) ⟨Nat.le_of_ble_eq_true rfl, Nat.le_of_ble_eq_true rfl⟩) ⟨pc_blind, va_recv hK hP (ci := 7) (q0 := 0) rfl rfl, fun U hU hW => ⟨rfl, by rw [hU]; exact hP.sub (ws' := [(m0, .inr (7, [.int (nI n), .ref g1, .ref g2, .ref g3, .int mr, .ref g4, .int (nI y), .ref g5, .int mo, .ref g6, .int ml, .ref g7, .ref g8, .ref g9, .ref g10, .ref g11, .ref g12])), (g4, .inl (cZ, 20480, .inl fs)), (g12, .inl (cI, 9, .inl th))]) [0, 2, 3] rfl, hKN.warm hW⟩⟩ rfl rfl hl.1 rfl (lv_room (Nat.le_of_ble_eq_true rfl)) dX7_shown_147 ⟨Nat.le_of_ble_eq_true rfl, Nat.le_of_ble_eq_true rfl⟩) hS hP (fun r13 H locs w13r hP hS => ?_)
                    have w13 : (r13 = nI 1 ∧ Sg fs y (setN c2 1 n)) ∨ (r13 = -1 ∧ ¬ Sg fs y (setN c2 1 n) ∧ Sg fs y (2 ^ n - 1 - setN c2 2 n)) ∨ (r13 = nI 0 ∧ ¬ Sg fs y (setN c2 1 n) ∧ ¬ Sg fs y (2 ^ n - 1 - setN c2 2 n)) := w13r
                    clear w13r
                    rcases w13 with ⟨rfl, w13⟩ | ⟨rfl, w13⟩ | ⟨rfl, w13⟩
                    · skip
                      refine lv_iconst (v := (-1 : Int32)) hx hb dX7_shown_150 (by decide) ?_
                      refine lv_icmp_eq (tgt := 157) hx hb dX7_shown_151 (by decide) (fun c14 => ?_) (fun c14 => ?_)
                      · exact absurd c14 (by first | decide | exact nz_lt (by omega) | exact fun h => h (nz_ge (by omega)))
                      · skip
                        refine lv_iload hx hb dX7_shown_154 (lv_at hl 2 rfl) ?_
                        refine lv_istore_n (lv' := [(3, .int v6), (8, .int (nI t)), (7, .int v7), (6, .int v6), (5, .int (nI c2)), (4, .int (nI k)), (0, .ref m0), (1, .int st), (2, .int (nI cv))]) hx hb dX7_shown_156 rfl hl (by decide) rfl (fun ls hl => ?_)
                        refine lv_iinc (v := nI (k + 1)) (lv' := [(4, .int (nI (k + 1))), (3, .int v6), (8, .int (nI t)), (7, .int v7), (6, .int v6), (5, .int (nI c2)), (0, .ref m0), (1, .int st), (2, .int (nI cv))]) hx hb dX7_shown_157 hl (k := 5) rfl (nI_1 k) (by decide) rfl (fun ls hl => ?_)
                        refine lv_goto (tgt := 5) hx hb dX7_shown_160 (by decide) ?_
                        exact ih1 (k + 1) v6 _ _ _ (by omega) hP hS (lv_sub hl [0, 1, 6, 7, 8] rfl)
                    · skip
                      refine lv_iconst (v := (-1 : Int32)) hx hb dX7_shown_150 (by decide) ?_
                      refine lv_icmp_eq (tgt := 157) hx hb dX7_shown_151 (by decide) (fun c15 => ?_) (fun c15 => ?_)
                      · skip
                        refine lv_iinc (v := nI (k + 1)) (lv' := [(4, .int (nI (k + 1))), (8, .int (nI t)), (7, .int v7), (6, .int v6), (5, .int (nI c2)), (3, .int le), (0, .ref m0), (1, .int st), (2, .int (nI cv))]) hx hb dX7_shown_157 hl (k := 4) rfl (nI_1 k) (by decide) rfl (fun ls hl => ?_)
                        refine lv_goto (tgt := 5) hx hb dX7_shown_160 (by decide) ?_
                        exact ih1 (k + 1) le _ _ _ (by omega) hP hS (lv_sub hl [0, 5, 6, 7, 8] rfl)
                      · exact absurd c15 (by first | decide | exact nz_lt (by omega) | exact fun h => h (nz_ge (by omega)))
                    · skip
                      refine lv_iconst (v := (-1 : Int32)) hx hb dX7_shown_150 (by decide) ?_
                      refine lv_icmp_eq (tgt := 157) hx hb dX7_shown_151 (by decide) (fun c16 => ?_) (fun c16 => ?_)
                      · exact absurd c16 (by first | decide | exact nz_lt (by omega) | exact fun h => h (nz_ge (by omega)))
                      · skip
                        refine lv_iload hx hb dX7_shown_154 (lv_at hl 2 rfl) ?_
                        refine lv_istore_n (lv' := [(3, .int v6), (8, .int (nI t)), (7, .int v7), (6, .int v6), (5, .int (nI c2)), (4, .int (nI k)), (0, .ref m0), (1, .int st), (2, .int (nI cv))]) hx hb dX7_shown_156 rfl hl (by decide) rfl (fun ls hl => ?_)
                        refine lv_iinc (v := nI (k + 1)) (lv' := [(4, .int (nI (k + 1))), (3, .int v6), (8, .int (nI t)), (7, .int v7), (6, .int v6), (5, .int (nI c2)), (0, .ref m0), (1, .int st), (2, .int (nI cv))]) hx hb dX7_shown_157 hl (k := 5) rfl (nI_1 k) (by decide) rfl (fun ls hl => ?_)
                        refine lv_goto (tgt := 5) hx hb dX7_shown_160 (by decide) ?_
                        exact ih1 (k + 1) v6 _ _ _ (by omega) hP hS (lv_sub hl [0, 1, 6, 7, 8] rfl)
            · skip
              have d5 := c5
              rw [nI_leI (by omega) (by omega)] at d5
              refine lv_iload hx hb dX7_shown_35 (lv_at hl 4 rfl) ?_
              refine lv_iload hx hb dX7_shown_37 (lv_at hl 0 rfl) ?_
              refine lv_ishr hx hb dX7_shown_39 ?_
              refine cn_i (y := nI (k / 2 ^ t)) (m_shr (by omega) (by omega)) ?_
              refine lv_iconst (v := nI 1) hx hb dX7_shown_40 (by decide) ?_
              refine lv_iand hx hb dX7_shown_41 ?_
              refine cn_i (y := nI ((k / 2 ^ t) % 2)) (m_andn1 (by first | omega | exact Nat.lt_of_le_of_lt (Nat.div_le_self _ _) (by omega))) ?_
              refine lv_iconst (v := nI 1) hx hb dX7_shown_42 (by decide) ?_
              refine lv_icmp_ne (tgt := 122) hx hb dX7_shown_43 (by decide) (fun c17 => ?_) (fun c17 => ?_)
              · skip
                have d17 := c17
                rw [nI_eq (by omega) (by omega)] at d17
                refine lv_iinc (v := nI (t + 1)) (lv' := [(8, .int (nI (t + 1))), (7, .int v7), (6, .int v6), (5, .int (nI c2)), (4, .int (nI k)), (3, .int le), (0, .ref m0), (1, .int st), (2, .int (nI cv))]) hx hb dX7_shown_122 hl (k := 0) rfl (nI_1 t) (by decide) rfl (fun ls hl => ?_)
                refine lv_goto (tgt := 26) hx hb dX7_shown_125 (by decide) ?_
                exact ih4 (t + 1) c2 v6 v7 _ _ _ (by omega) (by first | exact ⟨hc.1, fun z hz => hc.2 z (by omega)⟩ | (have h7 : c2 / 3 ^ t % 3 = 0 := (by rw [hc.2 t (by omega)]; omega); have h8 := m_up (n := n) hc.1 (by omega) h7; have h9 := m_p3p t; exact ⟨by omega, fun z hz => by rw [dig_up h7 (by omega) z, if_neg (by omega)]; exact hc.2 z (by omega)⟩)) hP hS (lv_sub hl [0, 1, 2, 3, 4, 5, 6, 7, 8] rfl)
              · skip
                have d17 := c17
                rw [nI_eq (by omega) (by omega)] at d17
                refine lv_iload hx hb dX7_shown_46 (lv_at hl 1 rfl) ?_
                refine lv_if_eq (tgt := 65) hx hb dX7_shown_48 (by decide) (fun c18 => ?_) (fun c18 => ?_)
                · skip
                  refine lv_iconst (v := nI 0) hx hb dX7_shown_65 (by decide) ?_
                  refine lv_istore (lv' := [(7, .int (nI 0)), (8, .int (nI t)), (6, .int v6), (5, .int (nI c2)), (4, .int (nI k)), (3, .int le), (0, .ref m0), (1, .int st), (2, .int (nI cv))]) hx hb dX7_shown_66 hl (by decide) rfl (fun ls hl => ?_)
                  refine lv_iload hx hb dX7_shown_68 (lv_at hl 3 rfl) ?_
                  refine lv_aload_n hx hb dX7_shown_70 rfl (lv_at hl 6 rfl) ?_
                  refine lv_iload_n hx hb dX7_shown_71 rfl (lv_at hl 8 rfl) ?_
                  refine lv_iload hx hb dX7_shown_72 (lv_at hl 1 rfl) ?_
                  refine pu_i (va_runV (As := [.int (nI cv), .int (nI t)]) (rest := [.int (nI c2)]) ⟨hx, hb, hml, hown, hts⟩ (c_X7_digit_g l D cI cJ cZ m0 g1 g2 g3 g4 g5 g6 g7 g8 g9 g10 g11 g12 t cv (nI n) mr (nI y) mo ml th (by first | assumption | omega) (by first | assumption | omega) (by first | assumption | omega)) (cwV 2 hts gX7_shown_X7_digit rfl rfl rfl (by decide +kernel) ⟨Nat.le_of_ble_eq_true rfl, Nat.le_of_ble_eq_true rfl⟩) ⟨pc_blind, va_recv hK hP (ci := 7) (q0 := 0) rfl rfl, fun U hU hW => ⟨rfl, by rw [hU]; exact hP.sub (ws' := [(m0, .inr (7, [.int (nI n), .ref g1, .ref g2, .ref g3, .int mr, .ref g4, .int (nI y), .ref g5, .int mo, .ref g6, .int ml, .ref g7, .ref g8, .ref g9, .ref g10, .ref g11, .ref g12])), (g12, .inl (cI, 9, .inl th))]) [0, 3] rfl, hKN.warm hW⟩⟩ rfl rfl hl.1 rfl (lv_room (Nat.le_of_ble_eq_true rfl)) dX7_shown_74 ⟨Nat.le_of_ble_eq_true rfl, Nat.le_of_ble_eq_true rfl⟩) hS hP (fun r19 H locs w19r hP hS => ?_)
                  have w19 : r19 = nI (cv / 3 ^ t % 3) := w19r
                  clear w19r
                  obtain rfl : r19 = nI (cv / 3 ^ t % 3) := w19
                  refine lv_if_ne (tgt := 106) hx hb dX7_shown_77 (by decide) (fun c20 => ?_) (fun c20 => ?_)
                  · skip
                    have d20 := c20
                    rw [nz_eq (by omega)] at d20
                    refine lv_iconst (v := nI 0) hx hb dX7_shown_106 (by decide) ?_
                    refine lv_iadd hx hb dX7_shown_107 ?_
                    refine cn_i (y := nI (c2 + 0)) (nI_add c2 0) ?_
                    refine lv_istore (lv' := [(5, .int (nI (c2 + 0))), (7, .int (nI 0)), (8, .int (nI t)), (6, .int v6), (4, .int (nI k)), (3, .int le), (0, .ref m0), (1, .int st), (2, .int (nI cv))]) hx hb dX7_shown_108 hl (by decide) rfl (fun ls hl => ?_)
                    refine lv_iload hx hb dX7_shown_110 (lv_at hl 3 rfl) ?_
                    refine lv_aload_n hx hb dX7_shown_112 rfl (lv_at hl 6 rfl) ?_
                    refine va_get (D := D) (ci := 7) (v := .ref g3) (C := RX7) (T := TX7) (N := 17) hx hb hts hiX7 hown hK hP 0 rfl rfl 3 (by decide) hf20 (fun _ h9 => h9) rfl dX7_shown_113 ?_
                    refine lv_iload hx hb dX7_shown_116 (lv_at hl 2 rfl) ?_
                    refine va_iald hx hb hK hP 1 0 rfl rfl (i := nI t) (vp_in_nI (by omega) (by omega)) dX7_shown_118 ?_
                    refine cn_i (y := fp t) (congrArg fp (nI_clamp (by omega))) ?_
                    refine lv_iadd hx hb dX7_shown_119 ?_
                    refine lv_istore (lv' := [(6, .int (v6 + (fp t))), (5, .int (nI (c2 + 0))), (7, .int (nI 0)), (8, .int (nI t)), (4, .int (nI k)), (3, .int le), (0, .ref m0), (1, .int st), (2, .int (nI cv))]) hx hb dX7_shown_120 hl (by decide) rfl (fun ls hl => ?_)
                    refine lv_iinc (v := nI (t + 1)) (lv' := [(8, .int (nI (t + 1))), (6, .int (v6 + (fp t))), (5, .int (nI (c2 + 0))), (7, .int (nI 0)), (4, .int (nI k)), (3, .int le), (0, .ref m0), (1, .int st), (2, .int (nI cv))]) hx hb dX7_shown_122 hl (k := 3) rfl (nI_1 t) (by decide) rfl (fun ls hl => ?_)
                    refine lv_goto (tgt := 26) hx hb dX7_shown_125 (by decide) ?_
                    exact ih4 (t + 1) (c2 + 0) (v6 + (fp t)) (nI 0) _ _ _ (by omega) (by first | exact ⟨hc.1, fun z hz => hc.2 z (by omega)⟩ | (have h7 : c2 / 3 ^ t % 3 = 0 := (by rw [hc.2 t (by omega)]; omega); have h8 := m_up (n := n) hc.1 (by omega) h7; have h9 := m_p3p t; exact ⟨by omega, fun z hz => by rw [dig_up h7 (by omega) z, if_neg (by omega)]; exact hc.2 z (by omega)⟩)) hP hS (lv_sub hl [0, 3, 1, 2, 4, 5, 6, 7, 8] rfl)
                  · skip
                    have d20 := c20
                    rw [nz_eq (by omega)] at d20
                    refine lv_aload_n hx hb dX7_shown_80 rfl (lv_at hl 6 rfl) ?_
                    refine va_get (D := D) (ci := 7) (v := .ref g12) (C := RX7) (T := TX7) (N := 17) hx hb hts hiX7 hown hK hP 0 rfl rfl 16 (by decide) hf52 (fun _ h9 => h9) rfl dX7_shown_81 ?_
                    refine lv_iload hx hb dX7_shown_84 (lv_at hl 1 rfl) ?_
                    refine va_iald hx hb hK hP 3 0 rfl rfl (i := nI t) (vp_in_nI (by omega) (by omega)) dX7_shown_86 ?_
                    refine cn_i (y := nI (3 ^ t)) ((congrArg th (nI_clamp (by omega))).trans (hth t (by omega))) ?_
                    have hs1 := sb_lt st t
                    refine lv_iload_n hx hb dX7_shown_87 rfl (lv_at hl 7 rfl) ?_
                    refine lv_iload hx hb dX7_shown_88 (lv_at hl 1 rfl) ?_
                    refine lv_ishr hx hb dX7_shown_90 ?_
                    refine lv_iconst (v := nI 1) hx hb dX7_shown_91 (by decide) ?_
                    refine lv_iand hx hb dX7_shown_92 ?_
                    refine cn_i (y := nI (sb st t)) (sb_ok st t) ?_
                    refine lv_iconst (v := nI 1) hx hb dX7_shown_93 (by decide) ?_
                    refine lv_icmp_ne (tgt := 101) hx hb dX7_shown_94 (by decide) (fun c21 => ?_) (fun c21 => ?_)
                    · skip
                      have d21 := c21
                      rw [nI_eq (by omega) (by omega)] at d21
                      refine lv_iconst (v := nI 2) hx hb dX7_shown_101 (by decide) ?_
                      refine lv_imul hx hb dX7_shown_102 ?_
                      refine cn_i (y := nI ((3 ^ t) * 2)) (pk_mul (3 ^ t) 2) ?_
                      refine lv_goto (tgt := 107) hx hb dX7_shown_103 (by decide) ?_
                      refine lv_iadd hx hb dX7_shown_107 ?_
                      refine cn_i (y := nI (c2 + ((3 ^ t) * 2))) (nI_add c2 ((3 ^ t) * 2)) ?_
                      refine lv_istore (lv' := [(5, .int (nI (c2 + ((3 ^ t) * 2)))), (7, .int (nI 0)), (8, .int (nI t)), (6, .int v6), (4, .int (nI k)), (3, .int le), (0, .ref m0), (1, .int st), (2, .int (nI cv))]) hx hb dX7_shown_108 hl (by decide) rfl (fun ls hl => ?_)
                      refine lv_iload hx hb dX7_shown_110 (lv_at hl 3 rfl) ?_
                      refine lv_aload_n hx hb dX7_shown_112 rfl (lv_at hl 6 rfl) ?_
                      refine va_get (D := D) (ci := 7) (v := .ref g3) (C := RX7) (T := TX7) (N := 17) hx hb hts hiX7 hown hK hP 0 rfl rfl 3 (by decide) hf20 (fun _ h9 => h9) rfl dX7_shown_113 ?_
                      refine lv_iload hx hb dX7_shown_116 (lv_at hl 2 rfl) ?_
                      refine va_iald hx hb hK hP 1 0 rfl rfl (i := nI t) (vp_in_nI (by omega) (by omega)) dX7_shown_118 ?_
                      refine cn_i (y := fp t) (congrArg fp (nI_clamp (by omega))) ?_
                      refine lv_iadd hx hb dX7_shown_119 ?_
                      refine lv_istore (lv' := [(6, .int (v6 + (fp t))), (5, .int (nI (c2 + ((3 ^ t) * 2)))), (7, .int (nI 0)), (8, .int (nI t)), (4, .int (nI k)), (3, .int le), (0, .ref m0), (1, .int st), (2, .int (nI cv))]) hx hb dX7_shown_120 hl (by decide) rfl (fun ls hl => ?_)
                      refine lv_iinc (v := nI (t + 1)) (lv' := [(8, .int (nI (t + 1))), (6, .int (v6 + (fp t))), (5, .int (nI (c2 + ((3 ^ t) * 2)))), (7, .int (nI 0)), (4, .int (nI k)), (3, .int le), (0, .ref m0), (1, .int st), (2, .int (nI cv))]) hx hb dX7_shown_122 hl (k := 3) rfl (nI_1 t) (by decide) rfl (fun ls hl => ?_)
                      refine lv_goto (tgt := 26) hx hb dX7_shown_125 (by decide) ?_
                      exact ih4 (t + 1) (c2 + ((3 ^ t) * 2)) (v6 + (fp t)) (nI 0) _ _ _ (by omega) (by first | exact ⟨hc.1, fun z hz => hc.2 z (by omega)⟩ | (have h7 : c2 / 3 ^ t % 3 = 0 := (by rw [hc.2 t (by omega)]; omega); have h8 := m_up (n := n) hc.1 (by omega) h7; have h9 := m_p3p t; exact ⟨by omega, fun z hz => by rw [dig_up h7 (by omega) z, if_neg (by omega)]; exact hc.2 z (by omega)⟩)) hP hS (lv_sub hl [0, 3, 1, 2, 4, 5, 6, 7, 8] rfl)
                    · skip
                      have d21 := c21
                      rw [nI_eq (by omega) (by omega)] at d21
                      refine lv_iconst (v := nI 1) hx hb dX7_shown_97 (by decide) ?_
                      refine lv_goto (tgt := 102) hx hb dX7_shown_98 (by decide) ?_
                      refine lv_imul hx hb dX7_shown_102 ?_
                      refine cn_i (y := nI ((3 ^ t) * 1)) (pk_mul (3 ^ t) 1) ?_
                      refine lv_goto (tgt := 107) hx hb dX7_shown_103 (by decide) ?_
                      refine lv_iadd hx hb dX7_shown_107 ?_
                      refine cn_i (y := nI (c2 + ((3 ^ t) * 1))) (nI_add c2 ((3 ^ t) * 1)) ?_
                      refine lv_istore (lv' := [(5, .int (nI (c2 + ((3 ^ t) * 1)))), (7, .int (nI 0)), (8, .int (nI t)), (6, .int v6), (4, .int (nI k)), (3, .int le), (0, .ref m0), (1, .int st), (2, .int (nI cv))]) hx hb dX7_shown_108 hl (by decide) rfl (fun ls hl => ?_)
                      refine lv_iload hx hb dX7_shown_110 (lv_at hl 3 rfl) ?_
                      refine lv_aload_n hx hb dX7_shown_112 rfl (lv_at hl 6 rfl) ?_
                      refine va_get (D := D) (ci := 7) (v := .ref g3) (C := RX7) (T := TX7) (N := 17) hx hb hts hiX7 hown hK hP 0 rfl rfl 3 (by decide) hf20 (fun _ h9 => h9) rfl dX7_shown_113 ?_
                      refine lv_iload hx hb dX7_shown_116 (lv_at hl 2 rfl) ?_
                      refine va_iald hx hb hK hP 1 0 rfl rfl (i := nI t) (vp_in_nI (by omega) (by omega)) dX7_shown_118 ?_
                      refine cn_i (y := fp t) (congrArg fp (nI_clamp (by omega))) ?_
                      refine lv_iadd hx hb dX7_shown_119 ?_
                      refine lv_istore (lv' := [(6, .int (v6 + (fp t))), (5, .int (nI (c2 + ((3 ^ t) * 1)))), (7, .int (nI 0)), (8, .int (nI t)), (4, .int (nI k)), (3, .int le), (0, .ref m0), (1, .int st), (2, .int (nI cv))]) hx hb dX7_shown_120 hl (by decide) rfl (fun ls hl => ?_)
                      refine lv_iinc (v := nI (t + 1)) (lv' := [(8, .int (nI (t + 1))), (6, .int (v6 + (fp t))), (5, .int (nI (c2 + ((3 ^ t) * 1)))), (7, .int (nI 0)), (4, .int (nI k)), (3, .int le), (0, .ref m0), (1, .int st), (2, .int (nI cv))]) hx hb dX7_shown_122 hl (k := 3) rfl (nI_1 t) (by decide) rfl (fun ls hl => ?_)
                      refine lv_goto (tgt := 26) hx hb dX7_shown_125 (by decide) ?_
                      exact ih4 (t + 1) (c2 + ((3 ^ t) * 1)) (v6 + (fp t)) (nI 0) _ _ _ (by omega) (by first | exact ⟨hc.1, fun z hz => hc.2 z (by omega)⟩ | (have h7 : c2 / 3 ^ t % 3 = 0 := (by rw [hc.2 t (by omega)]; omega); have h8 := m_up (n := n) hc.1 (by omega) h7; have h9 := m_p3p t; exact ⟨by omega, fun z hz => by rw [dig_up h7 (by omega) z, if_neg (by omega)]; exact hc.2 z (by omega)⟩)) hP hS (lv_sub hl [0, 3, 1, 2, 4, 5, 6, 7, 8] rfl)
                · skip
                  refine lv_aload_n hx hb dX7_shown_51 rfl (lv_at hl 6 rfl) ?_
                  refine lv_iload_n hx hb dX7_shown_52 rfl (lv_at hl 8 rfl) ?_
                  refine lv_iload hx hb dX7_shown_53 (lv_at hl 0 rfl) ?_
                  refine pu_i (va_runV (As := [.int (nI cv), .int (nI t)]) (rest := []) ⟨hx, hb, hml, hown, hts⟩ (c_X7_digit_g l D cI cJ cZ m0 g1 g2 g3 g4 g5 g6 g7 g8 g9 g10 g11 g12 t cv (nI n) mr (nI y) mo ml th (by first | assumption | omega) (by first | assumption | omega) (by first | assumption | omega)) (cwV 2 hts gX7_shown_X7_digit rfl rfl rfl (by decide +kernel) ⟨Nat.le_of_ble_eq_true rfl, Nat.le_of_ble_eq_true rfl⟩) ⟨pc_blind, va_recv hK hP (ci := 7) (q0 := 0) rfl rfl, fun U hU hW => ⟨rfl, by rw [hU]; exact hP.sub (ws' := [(m0, .inr (7, [.int (nI n), .ref g1, .ref g2, .ref g3, .int mr, .ref g4, .int (nI y), .ref g5, .int mo, .ref g6, .int ml, .ref g7, .ref g8, .ref g9, .ref g10, .ref g11, .ref g12])), (g12, .inl (cI, 9, .inl th))]) [0, 3] rfl, hKN.warm hW⟩⟩ rfl rfl hl.1 rfl (lv_room (Nat.le_of_ble_eq_true rfl)) dX7_shown_55 ⟨Nat.le_of_ble_eq_true rfl, Nat.le_of_ble_eq_true rfl⟩) hS hP (fun r22 H locs w22r hP hS => ?_)
                  have w22 : r22 = nI (cv / 3 ^ t % 3) := w22r
                  clear w22r
                  obtain rfl : r22 = nI (cv / 3 ^ t % 3) := w22
                  refine lv_if_ne (tgt := 65) hx hb dX7_shown_58 (by decide) (fun c23 => ?_) (fun c23 => ?_)
                  · skip
                    have d23 := c23
                    rw [nz_eq (by omega)] at d23
                    refine lv_iconst (v := nI 0) hx hb dX7_shown_65 (by decide) ?_
                    refine lv_istore (lv' := [(7, .int (nI 0)), (8, .int (nI t)), (6, .int v6), (5, .int (nI c2)), (4, .int (nI k)), (3, .int le), (0, .ref m0), (1, .int st), (2, .int (nI cv))]) hx hb dX7_shown_66 hl (by decide) rfl (fun ls hl => ?_)
                    refine lv_iload hx hb dX7_shown_68 (lv_at hl 3 rfl) ?_
                    refine lv_aload_n hx hb dX7_shown_70 rfl (lv_at hl 6 rfl) ?_
                    refine lv_iload_n hx hb dX7_shown_71 rfl (lv_at hl 8 rfl) ?_
                    refine lv_iload hx hb dX7_shown_72 (lv_at hl 1 rfl) ?_
                    refine pu_i (va_runV (As := [.int (nI cv), .int (nI t)]) (rest := [.int (nI c2)]) ⟨hx, hb, hml, hown, hts⟩ (c_X7_digit_g l D cI cJ cZ m0 g1 g2 g3 g4 g5 g6 g7 g8 g9 g10 g11 g12 t cv (nI n) mr (nI y) mo ml th (by first | assumption | omega) (by first | assumption | omega) (by first | assumption | omega)) (cwV 2 hts gX7_shown_X7_digit rfl rfl rfl (by decide +kernel) ⟨Nat.le_of_ble_eq_true rfl, Nat.le_of_ble_eq_true rfl⟩) ⟨pc_blind, va_recv hK hP (ci := 7) (q0 := 0) rfl rfl, fun U hU hW => ⟨rfl, by rw [hU]; exact hP.sub (ws' := [(m0, .inr (7, [.int (nI n), .ref g1, .ref g2, .ref g3, .int mr, .ref g4, .int (nI y), .ref g5, .int mo, .ref g6, .int ml, .ref g7, .ref g8, .ref g9, .ref g10, .ref g11, .ref g12])), (g12, .inl (cI, 9, .inl th))]) [0, 3] rfl, hKN.warm hW⟩⟩ rfl rfl hl.1 rfl (lv_room (Nat.le_of_ble_eq_true rfl)) dX7_shown_74 ⟨Nat.le_of_ble_eq_true rfl, Nat.le_of_ble_eq_true rfl⟩) hS hP (fun r24 H locs w24r hP hS => ?_)
                    have w24 : r24 = nI (cv / 3 ^ t % 3) := w24r
                    clear w24r
                    obtain rfl : r24 = nI (cv / 3 ^ t % 3) := w24
                    refine lv_if_ne (tgt := 106) hx hb dX7_shown_77 (by decide) (fun c25 => ?_) (fun c25 => ?_)
                    · skip
                      have d25 := c25
                      rw [nz_eq (by omega)] at d25
                      refine lv_iconst (v := nI 0) hx hb dX7_shown_106 (by decide) ?_
                      refine lv_iadd hx hb dX7_shown_107 ?_
                      refine cn_i (y := nI (c2 + 0)) (nI_add c2 0) ?_
                      refine lv_istore (lv' := [(5, .int (nI (c2 + 0))), (7, .int (nI 0)), (8, .int (nI t)), (6, .int v6), (4, .int (nI k)), (3, .int le), (0, .ref m0), (1, .int st), (2, .int (nI cv))]) hx hb dX7_shown_108 hl (by decide) rfl (fun ls hl => ?_)
                      refine lv_iload hx hb dX7_shown_110 (lv_at hl 3 rfl) ?_
                      refine lv_aload_n hx hb dX7_shown_112 rfl (lv_at hl 6 rfl) ?_
                      refine va_get (D := D) (ci := 7) (v := .ref g3) (C := RX7) (T := TX7) (N := 17) hx hb hts hiX7 hown hK hP 0 rfl rfl 3 (by decide) hf20 (fun _ h9 => h9) rfl dX7_shown_113 ?_
                      refine lv_iload hx hb dX7_shown_116 (lv_at hl 2 rfl) ?_
                      refine va_iald hx hb hK hP 1 0 rfl rfl (i := nI t) (vp_in_nI (by omega) (by omega)) dX7_shown_118 ?_
                      refine cn_i (y := fp t) (congrArg fp (nI_clamp (by omega))) ?_
                      refine lv_iadd hx hb dX7_shown_119 ?_
                      refine lv_istore (lv' := [(6, .int (v6 + (fp t))), (5, .int (nI (c2 + 0))), (7, .int (nI 0)), (8, .int (nI t)), (4, .int (nI k)), (3, .int le), (0, .ref m0), (1, .int st), (2, .int (nI cv))]) hx hb dX7_shown_120 hl (by decide) rfl (fun ls hl => ?_)
                      refine lv_iinc (v := nI (t + 1)) (lv' := [(8, .int (nI (t + 1))), (6, .int (v6 + (fp t))), (5, .int (nI (c2 + 0))), (7, .int (nI 0)), (4, .int (nI k)), (3, .int le), (0, .ref m0), (1, .int st), (2, .int (nI cv))]) hx hb dX7_shown_122 hl (k := 3) rfl (nI_1 t) (by decide) rfl (fun ls hl => ?_)
                      refine lv_goto (tgt := 26) hx hb dX7_shown_125 (by decide) ?_
                      exact ih4 (t + 1) (c2 + 0) (v6 + (fp t)) (nI 0) _ _ _ (by omega) (by first | exact ⟨hc.1, fun z hz => hc.2 z (by omega)⟩ | (have h7 : c2 / 3 ^ t % 3 = 0 := (by rw [hc.2 t (by omega)]; omega); have h8 := m_up (n := n) hc.1 (by omega) h7; have h9 := m_p3p t; exact ⟨by omega, fun z hz => by rw [dig_up h7 (by omega) z, if_neg (by omega)]; exact hc.2 z (by omega)⟩)) hP hS (lv_sub hl [0, 3, 1, 2, 4, 5, 6, 7, 8] rfl)
                    · skip
                      have d25 := c25
                      rw [nz_eq (by omega)] at d25
                      refine lv_aload_n hx hb dX7_shown_80 rfl (lv_at hl 6 rfl) ?_
                      refine va_get (D := D) (ci := 7) (v := .ref g12) (C := RX7) (T := TX7) (N := 17) hx hb hts hiX7 hown hK hP 0 rfl rfl 16 (by decide) hf52 (fun _ h9 => h9) rfl dX7_shown_81 ?_
                      refine lv_iload hx hb dX7_shown_84 (lv_at hl 1 rfl) ?_
                      refine va_iald hx hb hK hP 3 0 rfl rfl (i := nI t) (vp_in_nI (by omega) (by omega)) dX7_shown_86 ?_
                      refine cn_i (y := nI (3 ^ t)) ((congrArg th (nI_clamp (by omega))).trans (hth t (by omega))) ?_
                      have hs1 := sb_lt st t
                      refine lv_iload_n hx hb dX7_shown_87 rfl (lv_at hl 7 rfl) ?_
                      refine lv_iload hx hb dX7_shown_88 (lv_at hl 1 rfl) ?_
                      refine lv_ishr hx hb dX7_shown_90 ?_
                      refine lv_iconst (v := nI 1) hx hb dX7_shown_91 (by decide) ?_
                      refine lv_iand hx hb dX7_shown_92 ?_
                      refine cn_i (y := nI (sb st t)) (sb_ok st t) ?_
                      refine lv_iconst (v := nI 1) hx hb dX7_shown_93 (by decide) ?_
                      refine lv_icmp_ne (tgt := 101) hx hb dX7_shown_94 (by decide) (fun c26 => ?_) (fun c26 => ?_)
                      · skip
                        have d26 := c26
                        rw [nI_eq (by omega) (by omega)] at d26
                        refine lv_iconst (v := nI 2) hx hb dX7_shown_101 (by decide) ?_
                        refine lv_imul hx hb dX7_shown_102 ?_
                        refine cn_i (y := nI ((3 ^ t) * 2)) (pk_mul (3 ^ t) 2) ?_
                        refine lv_goto (tgt := 107) hx hb dX7_shown_103 (by decide) ?_
                        refine lv_iadd hx hb dX7_shown_107 ?_
                        refine cn_i (y := nI (c2 + ((3 ^ t) * 2))) (nI_add c2 ((3 ^ t) * 2)) ?_
                        refine lv_istore (lv' := [(5, .int (nI (c2 + ((3 ^ t) * 2)))), (7, .int (nI 0)), (8, .int (nI t)), (6, .int v6), (4, .int (nI k)), (3, .int le), (0, .ref m0), (1, .int st), (2, .int (nI cv))]) hx hb dX7_shown_108 hl (by decide) rfl (fun ls hl => ?_)
                        refine lv_iload hx hb dX7_shown_110 (lv_at hl 3 rfl) ?_
                        refine lv_aload_n hx hb dX7_shown_112 rfl (lv_at hl 6 rfl) ?_
                        refine va_get (D := D) (ci := 7) (v := .ref g3) (C := RX7) (T := TX7) (N := 17) hx hb hts hiX7 hown hK hP 0 rfl rfl 3 (by decide) hf20 (fun _ h9 => h9) rfl dX7_shown_113 ?_
                        refine lv_iload hx hb dX7_shown_116 (lv_at hl 2 rfl) ?_
                        refine va_iald hx hb hK hP 1 0 rfl rfl (i := nI t) (vp_in_nI (by omega) (by omega)) dX7_shown_118 ?_
                        refine cn_i (y := fp t) (congrArg fp (nI_clamp (by omega))) ?_
                        refine lv_iadd hx hb dX7_shown_119 ?_
                        refine lv_istore (lv' := [(6, .int (v6 + (fp t))), (5, .int (nI (c2 + ((3 ^ t) * 2)))), (7, .int (nI 0)), (8, .int (nI t)), (4, .int (nI k)), (3, .int le), (0, .ref m0), (1, .int st), (2, .int (nI cv))]) hx hb dX7_shown_120 hl (by decide) rfl (fun ls hl => ?_)
                        refine lv_iinc (v := nI (t + 1)) (lv' := [(8, .int (nI (t + 1))), (6, .int (v6 + (fp t))), (5, .int (nI (c2 + ((3 ^ t) * 2)))), (7, .int (nI 0)), (4, .int (nI k)), (3, .int le), (0, .ref m0), (1, .int st), (2, .int (nI cv))]) hx hb dX7_shown_122 hl (k := 3) rfl (nI_1 t) (by decide) rfl (fun ls hl => ?_)
                        refine lv_goto (tgt := 26) hx hb dX7_shown_125 (by decide) ?_
                        exact ih4 (t + 1) (c2 + ((3 ^ t) * 2)) (v6 + (fp t)) (nI 0) _ _ _ (by omega) (by first | exact ⟨hc.1, fun z hz => hc.2 z (by omega)⟩ | (have h7 : c2 / 3 ^ t % 3 = 0 := (by rw [hc.2 t (by omega)]; omega); have h8 := m_up (n := n) hc.1 (by omega) h7; have h9 := m_p3p t; exact ⟨by omega, fun z hz => by rw [dig_up h7 (by omega) z, if_neg (by omega)]; exact hc.2 z (by omega)⟩)) hP hS (lv_sub hl [0, 3, 1, 2, 4, 5, 6, 7, 8] rfl)
                      · skip
                        have d26 := c26
                        rw [nI_eq (by omega) (by omega)] at d26
                        refine lv_iconst (v := nI 1) hx hb dX7_shown_97 (by decide) ?_
                        refine lv_goto (tgt := 102) hx hb dX7_shown_98 (by decide) ?_
                        refine lv_imul hx hb dX7_shown_102 ?_
                        refine cn_i (y := nI ((3 ^ t) * 1)) (pk_mul (3 ^ t) 1) ?_
                        refine lv_goto (tgt := 107) hx hb dX7_shown_103 (by decide) ?_
                        refine lv_iadd hx hb dX7_shown_107 ?_
                        refine cn_i (y := nI (c2 + ((3 ^ t) * 1))) (nI_add c2 ((3 ^ t) * 1)) ?_
                        refine lv_istore (lv' := [(5, .int (nI (c2 + ((3 ^ t) * 1)))), (7, .int (nI 0)), (8, .int (nI t)), (6, .int v6), (4, .int (nI k)), (3, .int le), (0, .ref m0), (1, .int st), (2, .int (nI cv))]) hx hb dX7_shown_108 hl (by decide) rfl (fun ls hl => ?_)
                        refine lv_iload hx hb dX7_shown_110 (lv_at hl 3 rfl) ?_
                        refine lv_aload_n hx hb dX7_shown_112 rfl (lv_at hl 6 rfl) ?_
                        refine va_get (D := D) (ci := 7) (v := .ref g3) (C := RX7) (T := TX7) (N := 17) hx hb hts hiX7 hown hK hP 0 rfl rfl 3 (by decide) hf20 (fun _ h9 => h9) rfl dX7_shown_113 ?_
                        refine lv_iload hx hb dX7_shown_116 (lv_at hl 2 rfl) ?_
                        refine va_iald hx hb hK hP 1 0 rfl rfl (i := nI t) (vp_in_nI (by omega) (by omega)) dX7_shown_118 ?_
                        refine cn_i (y := fp t) (congrArg fp (nI_clamp (by omega))) ?_
                        refine lv_iadd hx hb dX7_shown_119 ?_
                        refine lv_istore (lv' := [(6, .int (v6 + (fp t))), (5, .int (nI (c2 + ((3 ^ t) * 1)))), (7, .int (nI 0)), (8, .int (nI t)), (4, .int (nI k)), (3, .int le), (0, .ref m0), (1, .int st), (2, .int (nI cv))]) hx hb dX7_shown_120 hl (by decide) rfl (fun ls hl => ?_)
                        refine lv_iinc (v := nI (t + 1)) (lv' := [(8, .int (nI (t + 1))), (6, .int (v6 + (fp t))), (5, .int (nI (c2 + ((3 ^ t) * 1)))), (7, .int (nI 0)), (4, .int (nI k)), (3, .int le), (0, .ref m0), (1, .int st), (2, .int (nI cv))]) hx hb dX7_shown_122 hl (k := 3) rfl (nI_1 t) (by decide) rfl (fun ls hl => ?_)
                        refine lv_goto (tgt := 26) hx hb dX7_shown_125 (by decide) ?_
                        exact ih4 (t + 1) (c2 + ((3 ^ t) * 1)) (v6 + (fp t)) (nI 0) _ _ _ (by omega) (by first | exact ⟨hc.1, fun z hz => hc.2 z (by omega)⟩ | (have h7 : c2 / 3 ^ t % 3 = 0 := (by rw [hc.2 t (by omega)]; omega); have h8 := m_up (n := n) hc.1 (by omega) h7; have h9 := m_p3p t; exact ⟨by omega, fun z hz => by rw [dig_up h7 (by omega) z, if_neg (by omega)]; exact hc.2 z (by omega)⟩)) hP hS (lv_sub hl [0, 3, 1, 2, 4, 5, 6, 7, 8] rfl)
                  · skip
                    have d23 := c23
                    rw [nz_eq (by omega)] at d23
                    refine lv_iconst (v := nI 1) hx hb dX7_shown_61 (by decide) ?_
                    refine lv_goto (tgt := 66) hx hb dX7_shown_62 (by decide) ?_
                    refine lv_istore (lv' := [(7, .int (nI 1)), (8, .int (nI t)), (6, .int v6), (5, .int (nI c2)), (4, .int (nI k)), (3, .int le), (0, .ref m0), (1, .int st), (2, .int (nI cv))]) hx hb dX7_shown_66 hl (by decide) rfl (fun ls hl => ?_)
                    refine lv_iload hx hb dX7_shown_68 (lv_at hl 3 rfl) ?_
                    refine lv_aload_n hx hb dX7_shown_70 rfl (lv_at hl 6 rfl) ?_
                    refine lv_iload_n hx hb dX7_shown_71 rfl (lv_at hl 8 rfl) ?_
                    refine lv_iload hx hb dX7_shown_72 (lv_at hl 1 rfl) ?_
                    refine pu_i (va_runV (As := [.int (nI cv), .int (nI t)]) (rest := [.int (nI c2)]) ⟨hx, hb, hml, hown, hts⟩ (c_X7_digit_g l D cI cJ cZ m0 g1 g2 g3 g4 g5 g6 g7 g8 g9 g10 g11 g12 t cv (nI n) mr (nI y) mo ml th (by first | assumption | omega) (by first | assumption | omega) (by first | assumption | omega)) (cwV 2 hts gX7_shown_X7_digit rfl rfl rfl (by decide +kernel) ⟨Nat.le_of_ble_eq_true rfl, Nat.le_of_ble_eq_true rfl⟩) ⟨pc_blind, va_recv hK hP (ci := 7) (q0 := 0) rfl rfl, fun U hU hW => ⟨rfl, by rw [hU]; exact hP.sub (ws' := [(m0, .inr (7, [.int (nI n), .ref g1, .ref g2, .ref g3, .int mr, .ref g4, .int (nI y), .ref g5, .int mo, .ref g6, .int ml, .ref g7, .ref g8, .ref g9, .ref g10, .ref g11, .ref g12])), (g12, .inl (cI, 9, .inl th))]) [0, 3] rfl, hKN.warm hW⟩⟩ rfl rfl hl.1 rfl (lv_room (Nat.le_of_ble_eq_true rfl)) dX7_shown_74 ⟨Nat.le_of_ble_eq_true rfl, Nat.le_of_ble_eq_true rfl⟩) hS hP (fun r27 H locs w27r hP hS => ?_)
                    have w27 : r27 = nI (cv / 3 ^ t % 3) := w27r
                    clear w27r
                    obtain rfl : r27 = nI (cv / 3 ^ t % 3) := w27
                    refine lv_if_ne (tgt := 106) hx hb dX7_shown_77 (by decide) (fun c28 => ?_) (fun c28 => ?_)
                    · skip
                      have d28 := c28
                      rw [nz_eq (by omega)] at d28
                      refine lv_iconst (v := nI 0) hx hb dX7_shown_106 (by decide) ?_
                      refine lv_iadd hx hb dX7_shown_107 ?_
                      refine cn_i (y := nI (c2 + 0)) (nI_add c2 0) ?_
                      refine lv_istore (lv' := [(5, .int (nI (c2 + 0))), (7, .int (nI 1)), (8, .int (nI t)), (6, .int v6), (4, .int (nI k)), (3, .int le), (0, .ref m0), (1, .int st), (2, .int (nI cv))]) hx hb dX7_shown_108 hl (by decide) rfl (fun ls hl => ?_)
                      refine lv_iload hx hb dX7_shown_110 (lv_at hl 3 rfl) ?_
                      refine lv_aload_n hx hb dX7_shown_112 rfl (lv_at hl 6 rfl) ?_
                      refine va_get (D := D) (ci := 7) (v := .ref g3) (C := RX7) (T := TX7) (N := 17) hx hb hts hiX7 hown hK hP 0 rfl rfl 3 (by decide) hf20 (fun _ h9 => h9) rfl dX7_shown_113 ?_
                      refine lv_iload hx hb dX7_shown_116 (lv_at hl 2 rfl) ?_
                      refine va_iald hx hb hK hP 1 0 rfl rfl (i := nI t) (vp_in_nI (by omega) (by omega)) dX7_shown_118 ?_
                      refine cn_i (y := fp t) (congrArg fp (nI_clamp (by omega))) ?_
                      refine lv_iadd hx hb dX7_shown_119 ?_
                      refine lv_istore (lv' := [(6, .int (v6 + (fp t))), (5, .int (nI (c2 + 0))), (7, .int (nI 1)), (8, .int (nI t)), (4, .int (nI k)), (3, .int le), (0, .ref m0), (1, .int st), (2, .int (nI cv))]) hx hb dX7_shown_120 hl (by decide) rfl (fun ls hl => ?_)
                      refine lv_iinc (v := nI (t + 1)) (lv' := [(8, .int (nI (t + 1))), (6, .int (v6 + (fp t))), (5, .int (nI (c2 + 0))), (7, .int (nI 1)), (4, .int (nI k)), (3, .int le), (0, .ref m0), (1, .int st), (2, .int (nI cv))]) hx hb dX7_shown_122 hl (k := 3) rfl (nI_1 t) (by decide) rfl (fun ls hl => ?_)
                      refine lv_goto (tgt := 26) hx hb dX7_shown_125 (by decide) ?_
                      exact ih4 (t + 1) (c2 + 0) (v6 + (fp t)) (nI 1) _ _ _ (by omega) (by first | exact ⟨hc.1, fun z hz => hc.2 z (by omega)⟩ | (have h7 : c2 / 3 ^ t % 3 = 0 := (by rw [hc.2 t (by omega)]; omega); have h8 := m_up (n := n) hc.1 (by omega) h7; have h9 := m_p3p t; exact ⟨by omega, fun z hz => by rw [dig_up h7 (by omega) z, if_neg (by omega)]; exact hc.2 z (by omega)⟩)) hP hS (lv_sub hl [0, 3, 1, 2, 4, 5, 6, 7, 8] rfl)
                    · skip
                      have d28 := c28
                      rw [nz_eq (by omega)] at d28
                      refine lv_aload_n hx hb dX7_shown_80 rfl (lv_at hl 6 rfl) ?_
                      refine va_get (D := D) (ci := 7) (v := .ref g12) (C := RX7) (T := TX7) (N := 17) hx hb hts hiX7 hown hK hP 0 rfl rfl 16 (by decide) hf52 (fun _ h9 => h9) rfl dX7_shown_81 ?_
                      refine lv_iload hx hb dX7_shown_84 (lv_at hl 1 rfl) ?_
                      refine va_iald hx hb hK hP 3 0 rfl rfl (i := nI t) (vp_in_nI (by omega) (by omega)) dX7_shown_86 ?_
                      refine cn_i (y := nI (3 ^ t)) ((congrArg th (nI_clamp (by omega))).trans (hth t (by omega))) ?_
                      have hs1 := sb_lt st t
                      refine lv_iload_n hx hb dX7_shown_87 rfl (lv_at hl 7 rfl) ?_
                      refine lv_iload hx hb dX7_shown_88 (lv_at hl 1 rfl) ?_
                      refine lv_ishr hx hb dX7_shown_90 ?_
                      refine lv_iconst (v := nI 1) hx hb dX7_shown_91 (by decide) ?_
                      refine lv_iand hx hb dX7_shown_92 ?_
                      refine cn_i (y := nI (sb st t)) (sb_ok st t) ?_
                      refine lv_iconst (v := nI 1) hx hb dX7_shown_93 (by decide) ?_
                      refine lv_icmp_ne (tgt := 101) hx hb dX7_shown_94 (by decide) (fun c29 => ?_) (fun c29 => ?_)
                      · skip
                        have d29 := c29
                        rw [nI_eq (by omega) (by omega)] at d29
                        refine lv_iconst (v := nI 2) hx hb dX7_shown_101 (by decide) ?_
                        refine lv_imul hx hb dX7_shown_102 ?_
                        refine cn_i (y := nI ((3 ^ t) * 2)) (pk_mul (3 ^ t) 2) ?_
                        refine lv_goto (tgt := 107) hx hb dX7_shown_103 (by decide) ?_
                        refine lv_iadd hx hb dX7_shown_107 ?_
                        refine cn_i (y := nI (c2 + ((3 ^ t) * 2))) (nI_add c2 ((3 ^ t) * 2)) ?_
                        refine lv_istore (lv' := [(5, .int (nI (c2 + ((3 ^ t) * 2)))), (7, .int (nI 1)), (8, .int (nI t)), (6, .int v6), (4, .int (nI k)), (3, .int le), (0, .ref m0), (1, .int st), (2, .int (nI cv))]) hx hb dX7_shown_108 hl (by decide) rfl (fun ls hl => ?_)
                        refine lv_iload hx hb dX7_shown_110 (lv_at hl 3 rfl) ?_
                        refine lv_aload_n hx hb dX7_shown_112 rfl (lv_at hl 6 rfl) ?_
                        refine va_get (D := D) (ci := 7) (v := .ref g3) (C := RX7) (T := TX7) (N := 17) hx hb hts hiX7 hown hK hP 0 rfl rfl 3 (by decide) hf20 (fun _ h9 => h9) rfl dX7_shown_113 ?_
                        refine lv_iload hx hb dX7_shown_116 (lv_at hl 2 rfl) ?_
                        refine va_iald hx hb hK hP 1 0 rfl rfl (i := nI t) (vp_in_nI (by omega) (by omega)) dX7_shown_118 ?_
                        refine cn_i (y := fp t) (congrArg fp (nI_clamp (by omega))) ?_
                        refine lv_iadd hx hb dX7_shown_119 ?_
                        refine lv_istore (lv' := [(6, .int (v6 + (fp t))), (5, .int (nI (c2 + ((3 ^ t) * 2)))), (7, .int (nI 1)), (8, .int (nI t)), (4, .int (nI k)), (3, .int le), (0, .ref m0), (1, .int st), (2, .int (nI cv))]) hx hb dX7_shown_120 hl (by decide) rfl (fun ls hl => ?_)
                        refine lv_iinc (v := nI (t + 1)) (lv' := [(8, .int (nI (t + 1))), (6, .int (v6 + (fp t))), (5, .int (nI (c2 + ((3 ^ t) * 2)))), (7, .int (nI 1)), (4, .int (nI k)), (3, .int le), (0, .ref m0), (1, .int st), (2, .int (nI cv))]) hx hb dX7_shown_122 hl (k := 3) rfl (nI_1 t) (by decide) rfl (fun ls hl => ?_)
                        refine lv_goto (tgt := 26) hx hb dX7_shown_125 (by decide) ?_
                        exact ih4 (t + 1) (c2 + ((3 ^ t) * 2)) (v6 + (fp t)) (nI 1) _ _ _ (by omega) (by first | exact ⟨hc.1, fun z hz => hc.2 z (by omega)⟩ | (have h7 : c2 / 3 ^ t % 3 = 0 := (by rw [hc.2 t (by omega)]; omega); have h8 := m_up (n := n) hc.1 (by omega) h7; have h9 := m_p3p t; exact ⟨by omega, fun z hz => by rw [dig_up h7 (by omega) z, if_neg (by omega)]; exact hc.2 z (by omega)⟩)) hP hS (lv_sub hl [0, 3, 1, 2, 4, 5, 6, 7, 8] rfl)
                      · skip
                        have d29 := c29
                        rw [nI_eq (by omega) (by omega)] at d29
                        refine lv_iconst (v := nI 1) hx hb dX7_shown_97 (by decide) ?_
                        refine lv_goto (tgt := 102) hx hb dX7_shown_98 (by decide) ?_
                        refine lv_imul hx hb dX7_shown_102 ?_
                        refine cn_i (y := nI ((3 ^ t) * 1)) (pk_mul (3 ^ t) 1) ?_
                        refine lv_goto (tgt := 107) hx hb dX7_shown_103 (by decide) ?_
                        refine lv_iadd hx hb dX7_shown_107 ?_
                        refine cn_i (y := nI (c2 + ((3 ^ t) * 1))) (nI_add c2 ((3 ^ t) * 1)) ?_
                        refine lv_istore (lv' := [(5, .int (nI (c2 + ((3 ^ t) * 1)))), (7, .int (nI 1)), (8, .int (nI t)), (6, .int v6), (4, .int (nI k)), (3, .int le), (0, .ref m0), (1, .int st), (2, .int (nI cv))]) hx hb dX7_shown_108 hl (by decide) rfl (fun ls hl => ?_)
                        refine lv_iload hx hb dX7_shown_110 (lv_at hl 3 rfl) ?_
                        refine lv_aload_n hx hb dX7_shown_112 rfl (lv_at hl 6 rfl) ?_
                        refine va_get (D := D) (ci := 7) (v := .ref g3) (C := RX7) (T := TX7) (N := 17) hx hb hts hiX7 hown hK hP 0 rfl rfl 3 (by decide) hf20 (fun _ h9 => h9) rfl dX7_shown_113 ?_
                        refine lv_iload hx hb dX7_shown_116 (lv_at hl 2 rfl) ?_
                        refine va_iald hx hb hK hP 1 0 rfl rfl (i := nI t) (vp_in_nI (by omega) (by omega)) dX7_shown_118 ?_
                        refine cn_i (y := fp t) (congrArg fp (nI_clamp (by omega))) ?_
                        refine lv_iadd hx hb dX7_shown_119 ?_
                        refine lv_istore (lv' := [(6, .int (v6 + (fp t))), (5, .int (nI (c2 + ((3 ^ t) * 1)))), (7, .int (nI 1)), (8, .int (nI t)), (4, .int (nI k)), (3, .int le), (0, .ref m0), (1, .int st), (2, .int (nI cv))]) hx hb dX7_shown_120 hl (by decide) rfl (fun ls hl => ?_)
                        refine lv_iinc (v := nI (t + 1)) (lv' := [(8, .int (nI (t + 1))), (6, .int (v6 + (fp t))), (5, .int (nI (c2 + ((3 ^ t) * 1)))), (7, .int (nI 1)), (4, .int (nI k)), (3, .int le), (0, .ref m0), (1, .int st), (2, .int (nI cv))]) hx hb dX7_shown_122 hl (k := 3) rfl (nI_1 t) (by decide) rfl (fun ls hl => ?_)
                        refine lv_goto (tgt := 26) hx hb dX7_shown_125 (by decide) ?_
                        exact ih4 (t + 1) (c2 + ((3 ^ t) * 1)) (v6 + (fp t)) (nI 1) _ _ _ (by omega) (by first | exact ⟨hc.1, fun z hz => hc.2 z (by omega)⟩ | (have h7 : c2 / 3 ^ t % 3 = 0 := (by rw [hc.2 t (by omega)]; omega); have h8 := m_up (n := n) hc.1 (by omega) h7; have h9 := m_p3p t; exact ⟨by omega, fun z hz => by rw [dig_up h7 (by omega) z, if_neg (by omega)]; exact hc.2 z (by omega)⟩)) hP hS (lv_sub hl [0, 3, 1, 2, 4, 5, 6, 7, 8] rfl)
        exact loop4 (n + 1) 0 cv (nI 0) (nI 1) _ _ _ (by omega) (⟨hcv, fun _ _ => rfl⟩) hP hS (lv_sub hl [0, 1, 2, 3, 4, 5, 6, 7, 8] rfl)
  exact loop1 (2 ^ n + 1) 0 (-1 : Int32) _ _ _ (by omega) hP hS (lv_sub hl [0, 1, 2, 3, 4] rfl)
