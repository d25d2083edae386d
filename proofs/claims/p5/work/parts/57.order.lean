
theorem nI_ne1 {x : Nat} (h : x < 2 ^ 31) : ¬ nI x = -1 := by
  intro e
  have g := congrArg Int32.toInt e
  rw [nI_toInt h, show ((-1 : Int32)).toInt = -1 by decide] at g
  omega
/-- how many of the first parts were not looked at -/
def cz (lk : Nat) : Nat → Nat
  | 0 => 0
  | k + 1 => cz lk k + (if lk / 2 ^ k % 2 = 0 then 1 else 0)
theorem cz_le (lk : Nat) : ∀ k, cz lk k ≤ k
  | 0 => Nat.le_refl _
  | k + 1 => by
    have g := cz_le lk k
    show cz lk k + _ ≤ k + 1
    split <;> omega
theorem cz_pos {lk x : Nat} (h : lk / 2 ^ x % 2 = 0) : ∀ k, x < k → 0 < cz lk k
  | 0, hk => absurd hk (by omega)
  | k + 1, hk => by
    show 0 < cz lk k + _
    by_cases e : x = k
    · subst e
      rw [if_pos h]
      omega
    · have := cz_pos h k (by omega)
      omega
theorem or_bit (lk x z : Nat) : (lk ||| 2 ^ x) / 2 ^ z % 2 = 0 ↔ lk / 2 ^ z % 2 = 0 ∧ ¬ x = z := by
  have g : (lk ||| 2 ^ x).testBit z = (lk.testBit z || decide (x = z)) := by rw [Nat.testBit_or, Nat.testBit_two_pow]
  rw [m_tb, m_tb] at g
  by_cases a : (lk ||| 2 ^ x) / 2 ^ z % 2 = 1 <;> by_cases b : lk / 2 ^ z % 2 = 1 <;> by_cases c : x = z <;> simp [a, b, c] at g ⊢ <;> omega
theorem cz_or {lk x : Nat} (h : lk / 2 ^ x % 2 = 0) : ∀ k, (k ≤ x → cz (lk ||| 2 ^ x) k = cz lk k) ∧ (x < k → cz (lk ||| 2 ^ x) k + 1 = cz lk k)
  | 0 => ⟨fun _ => rfl, fun g => absurd g (by omega)⟩
  | k + 1 => by
    obtain ⟨a, b⟩ := cz_or h k
    have o := or_bit lk x k
    refine ⟨fun g => ?_, fun g => ?_⟩
    · show cz _ k + _ = cz lk k + _
      rw [a (by omega)]
      by_cases e : lk / 2 ^ k % 2 = 0
      · rw [if_pos e, if_pos (o.mpr ⟨e, by omega⟩)]
      · rw [if_neg e, if_neg (fun q => e (o.mp q).1)]
    · show cz _ k + _ + 1 = cz lk k + _
      by_cases e : x = k
      · subst e
        rw [a (Nat.le_refl _), if_pos h, if_neg (fun q => (o.mp q).2 rfl)]
      · have b' := b (by omega)
        by_cases e2 : lk / 2 ^ k % 2 = 0
        · rw [if_pos e2, if_pos (o.mpr ⟨e2, e⟩)]
          omega
        · rw [if_neg e2, if_neg (fun q => e2 (o.mp q).1)]
          omega
theorem m_p2n {x n : Nat} (h : x < n) : 2 ^ x < 2 ^ n := Nat.pow_lt_pow_right (by decide) h
def rm_c_X1_next_o : Room := { frames := 3, cells := 0, slots := 0, locals := 65 }
set_option maxHeartbeats 400000 in
set_option maxRecDepth 100000 in
theorem c_X1_next_o (l : Launch) (D : va_G) (cI cJ cZ : ClassId) (h0 : Nat) (h4 : Nat) (s2 : Nat) (s3 : Nat) (p4 : Nat) (p5 : Nat) (p6 : Nat) (a1 : Nat) (a2 : Nat) (a3 : Nat) (n : Nat) (b1 : Nat) (b2 : Nat) (y : Nat) (ra : Nat) (q : Nat) (lk : Nat) (gd : Nat) (pt : Int32) (rc : Int32) (sn : Int32) (sg : Int32) (fr : Int32) (fw : Nat → Int64) (qr : Nat → Int32) (hn : n ≤ 9) (hy : y < 40) (hq : q ≤ 9) (hlk : lk < 2 ^ n) (hgd : gd < 512) (hrow : ∀ z, z < q → ∃ x, x < n ∧ qr z = nI x) : Met l yX1_next wsX1_next rm_c_X1_next_o (pc_ D cI cJ cZ [.ref h0, .int (nI 2), .int (nI lk), .int (nI gd)] [(h0, .inr (1, [.ref h4, .ref s2, .ref s3, .ref p4, .ref p5, .ref p6, .int fr])), (h4, .inr (4, [.ref a1, .ref a2, .ref a3, .int (nI n), .int sn, .int sg])), (s2, .inr (3, [.ref b1, .ref b2, .int pt, .int rc, .int (nI y)])), (b1, .inl (cJ, 320, .inr (.inl fw))), (s3, .inr (2, [.ref ra, .int (nI q)])), (ra, .inl (cI, 9, .inl qr))]) (va_Qi (fun (r : Int32) (_ : Unit) => r = -1 ∨ ∃ x, x < n ∧ r = nI x ∧ lk / 2 ^ x % 2 = 0) (fun _ _ => True) aN) 0 0 aN := by
  refine Met.ofW (cc := cX1_next) (maxL := 6) (ret := (some .int)) (by decide) rfl ?_
  intro p e s m args below meth c s₁ B hml hv
  obtain ⟨rfl, hP, hKN⟩ := hv
  have hK := hKN.1
  have hx := B.exec
  have hb := B.bytes
  have hr := B.returns
  have hts := atoms_spec (ws := wsX1_next) B.pre
  have hown : s.vm.findClass RX1 = some m.cls := findClass_of_methodNamed B.named
  have hlocks := B.notSynchronized
  have hiX1 : ∀ w ∈ wsX10, w ∈ wsX1_next := by decide +kernel
  have hiX4 : ∀ w ∈ wsX40, w ∈ wsX1_next := by decide +kernel
  have hf22 := hts (.fieldLink RX1 22 "LookBench$Plans" "shelf" "LLookBench$Shelf;") (by decide +kernel)
  have hf26 := hts (.fieldLink RX1 26 "LookBench$Plans" "rules" "LLookBench$Rules;") (by decide +kernel)
  have hf30 := hts (.fieldLink RX1 30 "LookBench$Plans" "queue" "LLookBench$Queue;") (by decide +kernel)
  have hf57 := va_Nw.use (A := [.ref h0, .int (nI 2), .int (nI lk), .int (nI gd)].toArray) rfl (hKN.2 (.fieldLinkNest RX1 57 RX4 "count" "I" RX6) (by decide +kernel))
  have hS : va_S aN s.heap s.heap [] := va_S.rf
  have hl := lv_entry ([.ref h0, .int (nI 2), .int (nI lk), .int (nI gd)]) (n := 6) (Nat.le_of_ble_eq_true rfl)
  rw [lg_entry_eq]
  generalize (lg_sl ([.ref h0, .int (nI 2), .int (nI lk), .int (nI gd)]) ++ List.replicate (6 - (lg_sl ([.ref h0, .int (nI 2), .int (nI lk), .int (nI gd)])).length) Slot.unset).toArray = ls at hl ⊢
  have hl : lv_has ls 6 [(0, .ref h0), (1, .int (nI 2)), (2, .int (nI lk)), (3, .int (nI gd))] := hl
  generalize hQ : MQ below _ _ s _ _ _ = Q
  obtain ⟨H, hH⟩ : ∃ z, z = s.heap := ⟨_, rfl⟩
  have hP : va_P D vwCl [(h0, .inr (1, [.ref h4, .ref s2, .ref s3, .ref p4, .ref p5, .ref p6, .int fr])), (h4, .inr (4, [.ref a1, .ref a2, .ref a3, .int (nI n), .int sn, .int sg])), (s2, .inr (3, [.ref b1, .ref b2, .int pt, .int rc, .int (nI y)])), (b1, .inl (cJ, 320, .inr (.inl fw))), (s3, .inr (2, [.ref ra, .int (nI q)])), (ra, .inl (cI, 9, .inl qr))] H := by rw [hH]; exact hP
  have hS : va_S aN s.heap H [] := by rw [hH]; exact hS
  refine m_heap hH ?_
  clear hH
  have h2n := m_pow hn
  have h2p := m_powp n
  have hu9 : (2 ^ n - 1) ^^^ lk < 512 := m_x512 (by omega) (by omega)
  refine lv_iconst (v := nI 1) hx hb dX1_next_0 (by decide) ?_
  refine lv_aload_n hx hb dX1_next_1 rfl (lv_at hl 0 rfl) ?_
  refine va_get (D := D) (ci := 1) (v := .ref h4) (C := RX1) (T := TX1) (N := 7) hx hb hts hiX1 hown hK hP 0 rfl rfl 0 (by decide) hf22 (fun _ h9 => h9) rfl dX1_next_2 ?_
  refine va_getN (D := D) (ci := 4) (v := .int (nI n)) (C := RX4) (T := TX4) (N := 6) hx hb hts hiX4 hown hK hP 1 rfl rfl 3 (by decide) hf57 (fun _ h9 => h9) rfl dX1_next_5 ?_
  refine lv_ishl hx hb dX1_next_8 ?_
  refine cn_i (y := nI (2 ^ n)) (m_shl1 (by omega)) ?_
  refine lv_iconst (v := nI 1) hx hb dX1_next_9 (by decide) ?_
  refine lv_isub hx hb dX1_next_10 ?_
  refine cn_i (y := nI ((2 ^ n) - 1)) (pk_sub (a := (2 ^ n)) (b := 1) (by omega)) ?_
  refine lv_iload_n hx hb dX1_next_11 rfl (lv_at hl 2 rfl) ?_
  refine lv_iconst (v := (-1 : Int32)) hx hb dX1_next_12 (by decide) ?_
  refine lv_ixor hx hb dX1_next_13 ?_
  refine lv_iand hx hb dX1_next_14 ?_
  refine cn_i (y := nI ((2 ^ n - 1) ^^^ lk)) (mb_not hlk hn) ?_
  refine lv_istore (lv' := [(4, .int (nI ((2 ^ n - 1) ^^^ lk))), (0, .ref h0), (1, .int (nI 2)), (2, .int (nI lk)), (3, .int (nI gd))]) hx hb dX1_next_15 hl (by decide) rfl (fun ls hl => ?_)
  refine lv_aload_n hx hb dX1_next_17 rfl (lv_at hl 1 rfl) ?_
  refine va_get (D := D) (ci := 1) (v := .ref s2) (C := RX1) (T := TX1) (N := 7) hx hb hts hiX1 hown hK hP 0 rfl rfl 1 (by decide) hf26 (fun _ h9 => h9) rfl dX1_next_18 ?_
  refine lv_iload_n hx hb dX1_next_21 rfl (lv_at hl 4 rfl) ?_
  refine lv_iload hx hb dX1_next_22 (lv_at hl 0 rfl) ?_
  refine pu_i (va_runV (As := [.int (nI gd), .int (nI ((2 ^ n - 1) ^^^ lk))]) (rest := []) ⟨hx, hb, hml, hown, hts⟩ (c_X3_verdict l D cI cJ cZ s2 b1 b2 y gd ((2 ^ n - 1) ^^^ lk) pt rc fw (by first | assumption | omega) (by first | assumption | omega) (by first | assumption | omega)) (cwV 2 hts gX1_next_X3_verdict rfl rfl rfl (by decide +kernel) ⟨Nat.le_of_ble_eq_true rfl, Nat.le_of_ble_eq_true rfl⟩) ⟨pc_blind, va_recv hK hP (ci := 3) (q0 := 2) rfl rfl, fun U hU hW => ⟨rfl, by rw [hU]; exact hP.sub (ws' := [(s2, .inr (3, [.ref b1, .ref b2, .int pt, .int rc, .int (nI y)])), (b1, .inl (cJ, 320, .inr (.inl fw)))]) [2, 3] rfl, hKN.warm hW⟩⟩ rfl rfl hl.1 rfl (lv_room (Nat.le_of_ble_eq_true rfl)) dX1_next_24 ⟨Nat.le_of_ble_eq_true rfl, Nat.le_of_ble_eq_true rfl⟩) hS hP (fun r1 H locs w1r hP hS => ?_)
  have w1 : VD r1 fw y gd ((2 ^ n - 1) ^^^ lk) := w1r
  clear w1r
  refine lv_iconst (v := (-1 : Int32)) hx hb dX1_next_27 (by decide) ?_
  refine lv_icmp_eq (tgt := 33) hx hb dX1_next_28 (by decide) (fun c2 => ?_) (fun c2 => ?_)
  · skip
    refine lv_iload_n hx hb dX1_next_33 rfl (lv_at hl 2 rfl) ?_
    refine lv_iconst (v := nI 2) hx hb dX1_next_34 (by decide) ?_
    refine lv_icmp_ne (tgt := 54) hx hb dX1_next_35 (by decide) (fun c3 => ?_) (fun c3 => ?_)
    · exact absurd c3 (by first | decide | exact nz_lt (by omega) | exact fun h => h (nz_ge (by omega)))
    · skip
      refine lv_aload_n hx hb dX1_next_38 rfl (lv_at hl 1 rfl) ?_
      refine va_get (D := D) (ci := 1) (v := .ref s3) (C := RX1) (T := TX1) (N := 7) hx hb hts hiX1 hown hK hP 0 rfl rfl 2 (by decide) hf30 (fun _ h9 => h9) rfl dX1_next_39 ?_
      refine lv_iload_n hx hb dX1_next_42 rfl (lv_at hl 3 rfl) ?_
      refine lv_aload_n hx hb dX1_next_43 rfl (lv_at hl 1 rfl) ?_
      refine va_get (D := D) (ci := 1) (v := .ref h4) (C := RX1) (T := TX1) (N := 7) hx hb hts hiX1 hown hK hP 0 rfl rfl 0 (by decide) hf22 (fun _ h9 => h9) rfl dX1_next_44 ?_
      refine va_getN (D := D) (ci := 4) (v := .int (nI n)) (C := RX4) (T := TX4) (N := 6) hx hb hts hiX4 hown hK hP 1 rfl rfl 3 (by decide) hf57 (fun _ h9 => h9) rfl dX1_next_47 ?_
      refine pu_i (va_runV (As := [.int (nI lk), .int (nI n)]) (rest := []) ⟨hx, hb, hml, hown, hts⟩ (c_X2_firstOutside l D cI cJ cZ s3 ra q n lk qr (by first | assumption | omega) (by first | assumption | omega) (by first | assumption | omega) (by first | assumption | omega)) (cwV 2 hts gX1_next_X2_firstOutside rfl rfl rfl (by decide +kernel) ⟨Nat.le_of_ble_eq_true rfl, Nat.le_of_ble_eq_true rfl⟩) ⟨pc_blind, va_recv hK hP (ci := 2) (q0 := 4) rfl rfl, fun U hU hW => ⟨rfl, by rw [hU]; exact hP.sub (ws' := [(s3, .inr (2, [.ref ra, .int (nI q)])), (ra, .inl (cI, 9, .inl qr))]) [4, 5] rfl, hKN.warm hW⟩⟩ rfl rfl hl.1 rfl (lv_room (Nat.le_of_ble_eq_true rfl)) dX1_next_50 ⟨Nat.le_of_ble_eq_true rfl, Nat.le_of_ble_eq_true rfl⟩) hS hP (fun r4 H locs w4r hP hS => ?_)
      have w4 : (r4 = -1 ∧ ∀ z, z < n → ¬ lk / 2 ^ z % 2 = 0) ∨ (∃ x, x < n ∧ r4 = nI x ∧ lk / 2 ^ x % 2 = 0) := w4r
      clear w4r
      rw [← hQ]
      exact W.iret (v := r4) hx hb hr (fun tS htS hWS => ⟨⟨r4, (), rfl, by rcases w4 with ⟨h, _⟩ | h; exact Or.inl h; exact Or.inr h, trivial⟩, hS.F htS⟩) hS.2.2 dX1_next_53
  · skip
    refine lv_iconst (v := (-1 : Int32)) hx hb dX1_next_31 (by decide) ?_
    rw [← hQ]
    exact W.iret (v := (-1 : Int32)) hx hb hr (fun tS htS hWS => ⟨⟨(-1 : Int32), (), rfl, Or.inl rfl, trivial⟩, hS.F htS⟩) hS.2.2 dX1_next_32
def rm_c_X1_orderMeanFrom (k : Nat) : Room := { frames := k + 4, cells := 0, slots := 0, locals := k * 26 + 90 }
set_option maxHeartbeats 400000 in
set_option maxRecDepth 100000 in
theorem c_X1_orderMeanFrom (l : Launch) (D : va_G) (cI cJ cZ : ClassId) : ∀ (k : Nat) (h0 : Nat) (h4 : Nat) (s2 : Nat) (s3 : Nat) (p4 : Nat) (p5 : Nat) (p6 : Nat) (a1 : Nat) (a2 : Nat) (a3 : Nat) (n : Nat) (b1 : Nat) (b2 : Nat) (y : Nat) (ra : Nat) (q : Nat) (lk : Nat) (gd : Nat) (pt : Int32) (rc : Int32) (sn : Int32) (sg : Int32) (fr : Int32) (fw : Nat → Int64) (qr : Nat → Int32) (pd : Int32) (fg : Nat → Int32) (fb : Nat → Int32) (fp : Nat → Int32) (hn : n ≤ 9) (hy : y < 40) (hq : q ≤ 9) (hlk : lk < 2 ^ n) (hgd : gd < 512) (hrow : ∀ z, z < q → ∃ x, x < n ∧ qr z = nI x) (hcnt : cz lk n ≤ k), Met l yX1_orderMeanFrom wsX1_orderMeanFrom (rm_c_X1_orderMeanFrom k) (pc_ D cI cJ cZ [.ref h0, .int (nI lk), .int (nI gd), .int pd] [(h0, .inr (1, [.ref h4, .ref s2, .ref s3, .ref p4, .ref p5, .ref p6, .int fr])), (h4, .inr (4, [.ref a1, .ref a2, .ref a3, .int (nI n), .int sn, .int sg])), (a1, .inl (cI, 9, .inl fg)), (a2, .inl (cI, 9, .inl fb)), (a3, .inl (cI, 9, .inl fp)), (s2, .inr (3, [.ref b1, .ref b2, .int pt, .int rc, .int (nI y)])), (b1, .inl (cJ, 320, .inr (.inl fw))), (s3, .inr (2, [.ref ra, .int (nI q)])), (ra, .inl (cI, 9, .inl qr))]) (va_Ql (fun (r : Int64) (_ : Unit) => True) (fun _ _ => True) aN) 0 0 aN := by
  intro k
  induction k with
  | zero =>
    intro h0 h4 s2 s3 p4 p5 p6 a1 a2 a3 n b1 b2 y ra q lk gd pt rc sn sg fr fw qr pd fg fb fp hn hy hq hlk hgd hrow hcnt
    show Met l yX1_orderMeanFrom wsX1_orderMeanFrom (rm_c_X1_orderMeanFrom 0) (pc_ D cI cJ cZ [.ref h0, .int (nI lk), .int (nI gd), .int pd] [(h0, .inr (1, [.ref h4, .ref s2, .ref s3, .ref p4, .ref p5, .ref p6, .int fr])), (h4, .inr (4, [.ref a1, .ref a2, .ref a3, .int (nI n), .int sn, .int sg])), (a1, .inl (cI, 9, .inl fg)), (a2, .inl (cI, 9, .inl fb)), (a3, .inl (cI, 9, .inl fp)), (s2, .inr (3, [.ref b1, .ref b2, .int pt, .int rc, .int (nI y)])), (b1, .inl (cJ, 320, .inr (.inl fw))), (s3, .inr (2, [.ref ra, .int (nI q)])), (ra, .inl (cI, 9, .inl qr))]) (va_Ql (fun (r : Int64) (_ : Unit) => True) (fun _ _ => True) aN) 0 0 aN
    refine Met.ofW (cc := cX1_orderMeanFrom) (maxL := 7) (ret := (some .long)) (by decide) rfl ?_
    intro p e s m args below meth c s₁ B hml hv
    obtain ⟨rfl, hP, hKN⟩ := hv
    have hK := hKN.1
    have hx := B.exec
    have hb := B.bytes
    have hr := B.returns
    have hts := atoms_spec (ws := wsX1_orderMeanFrom) B.pre
    have hown : s.vm.findClass RX1 = some m.cls := findClass_of_methodNamed B.named
    have hlocks := B.notSynchronized
    have hiX1 : ∀ w ∈ wsX10, w ∈ wsX1_orderMeanFrom := by decide +kernel
    have hf22 := hts (.fieldLink RX1 22 "LookBench$Plans" "shelf" "LLookBench$Shelf;") (by decide +kernel)
    have hS : va_S aN s.heap s.heap [] := va_S.rf
    have hl := lv_entry ([.ref h0, .int (nI lk), .int (nI gd), .int pd]) (n := 7) (Nat.le_of_ble_eq_true rfl)
    rw [lg_entry_eq]
    generalize (lg_sl ([.ref h0, .int (nI lk), .int (nI gd), .int pd]) ++ List.replicate (7 - (lg_sl ([.ref h0, .int (nI lk), .int (nI gd), .int pd])).length) Slot.unset).toArray = ls at hl ⊢
    have hl : lv_has ls 7 [(0, .ref h0), (1, .int (nI lk)), (2, .int (nI gd)), (3, .int pd)] := hl
    generalize hQ : MQ below _ _ s _ _ _ = Q
    obtain ⟨H, hH⟩ : ∃ z, z = s.heap := ⟨_, rfl⟩
    have hP : va_P D vwCl [(h0, .inr (1, [.ref h4, .ref s2, .ref s3, .ref p4, .ref p5, .ref p6, .int fr])), (h4, .inr (4, [.ref a1, .ref a2, .ref a3, .int (nI n), .int sn, .int sg])), (a1, .inl (cI, 9, .inl fg)), (a2, .inl (cI, 9, .inl fb)), (a3, .inl (cI, 9, .inl fp)), (s2, .inr (3, [.ref b1, .ref b2, .int pt, .int rc, .int (nI y)])), (b1, .inl (cJ, 320, .inr (.inl fw))), (s3, .inr (2, [.ref ra, .int (nI q)])), (ra, .inl (cI, 9, .inl qr))] H := by rw [hH]; exact hP
    have hS : va_S aN s.heap H [] := by rw [hH]; exact hS
    refine m_heap hH ?_
    clear hH
    refine lv_aload_n hx hb dX1_orderMeanFrom_0 rfl (lv_at hl 0 rfl) ?_
    refine lv_iconst (v := nI 2) hx hb dX1_orderMeanFrom_1 (by decide) ?_
    refine lv_iload_n hx hb dX1_orderMeanFrom_2 rfl (lv_at hl 1 rfl) ?_
    refine lv_iload_n hx hb dX1_orderMeanFrom_3 rfl (lv_at hl 2 rfl) ?_
    refine pu_i (va_runV (As := [.int (nI 2), .int (nI lk), .int (nI gd)]) (rest := []) ⟨hx, hb, hml, hown, hts⟩ (c_X1_next_o l D cI cJ cZ h0 h4 s2 s3 p4 p5 p6 a1 a2 a3 n b1 b2 y ra q lk gd pt rc sn sg fr fw qr (by first | assumption | omega) (by first | assumption | omega) (by first | assumption | omega) (by first | assumption | omega) (by first | assumption | omega) (by first | assumption | omega)) (cwV 3 hts gX1_orderMeanFrom_X1_next rfl rfl rfl (by decide +kernel) ⟨(show 3 + 1 ≤ 0 + 4 by omega), (show 8 + (6 + 11) + (65) ≤ 0 * 26 + 90 by omega)⟩) ⟨pc_blind, va_recv hK hP (ci := 1) (q0 := 0) rfl rfl, fun U hU hW => ⟨rfl, by rw [hU]; exact hP.sub (ws' := [(h0, .inr (1, [.ref h4, .ref s2, .ref s3, .ref p4, .ref p5, .ref p6, .int fr])), (h4, .inr (4, [.ref a1, .ref a2, .ref a3, .int (nI n), .int sn, .int sg])), (s2, .inr (3, [.ref b1, .ref b2, .int pt, .int rc, .int (nI y)])), (b1, .inl (cJ, 320, .inr (.inl fw))), (s3, .inr (2, [.ref ra, .int (nI q)])), (ra, .inl (cI, 9, .inl qr))]) [0, 1, 5, 6, 7, 8] rfl, hKN.warm hW⟩⟩ rfl rfl hl.1 rfl (lv_room (Nat.le_of_ble_eq_true rfl)) dX1_orderMeanFrom_4 ⟨Nat.le_of_ble_eq_true rfl, Nat.le_of_ble_eq_true rfl⟩) hS hP (fun r1 H locs w1r hP hS => ?_)
    have w1 : r1 = -1 ∨ ∃ x, x < n ∧ r1 = nI x ∧ lk / 2 ^ x % 2 = 0 := w1r
    clear w1r
    rcases w1 with rfl | ⟨x9, hx9, rfl, hb9⟩
    · skip
      refine lv_istore (lv' := [(4, .int (-1 : Int32)), (0, .ref h0), (1, .int (nI lk)), (2, .int (nI gd)), (3, .int pd)]) hx hb dX1_orderMeanFrom_7 hl (by decide) rfl (fun ls hl => ?_)
      refine lv_iload hx hb dX1_orderMeanFrom_9 (lv_at hl 0 rfl) ?_
      refine lv_iconst (v := (-1 : Int32)) hx hb dX1_orderMeanFrom_11 (by decide) ?_
      refine lv_icmp_ne (tgt := 28) hx hb dX1_orderMeanFrom_12 (by decide) (fun c2 => ?_) (fun c2 => ?_)
      · exact absurd c2 (by first | decide | exact nz_lt (by omega) | exact fun h => h (nz_ge (by omega)))
      · skip
        refine lv_iload_n hx hb dX1_orderMeanFrom_15 rfl (lv_at hl 4 rfl) ?_
        refine lv_i2l hx hb dX1_orderMeanFrom_16 rfl ?_
        refine lv_aload_n hx hb dX1_orderMeanFrom_17 rfl (lv_at hl 1 rfl) ?_
        refine va_get (D := D) (ci := 1) (v := .ref h4) (C := RX1) (T := TX1) (N := 7) hx hb hts hiX1 hown hK hP 0 rfl rfl 0 (by decide) hf22 (fun _ h9 => h9) rfl dX1_orderMeanFrom_18 ?_
        refine lv_iload_n hx hb dX1_orderMeanFrom_21 rfl (lv_at hl 2 rfl) ?_
        refine lv_iload_n hx hb dX1_orderMeanFrom_22 rfl (lv_at hl 3 rfl) ?_
        refine pu_l (va_runV (As := [.int (nI lk), .int (nI gd)]) (rest := [.long pd.toInt64]) ⟨hx, hb, hml, hown, hts⟩ (c_X4_left l D cI cJ cZ h4 a1 a2 a3 n sn sg (nI lk) (nI gd) fg fb (by first | assumption | omega)) (cwV 2 hts gX1_orderMeanFrom_X4_left rfl rfl rfl (by decide +kernel) ⟨(show 0 + 1 ≤ 0 + 4 by omega), (show 8 + (6 + 11) + (0) ≤ 0 * 26 + 90 by omega)⟩) ⟨pc_blind, va_recv hK hP (ci := 4) (q0 := 1) rfl rfl, fun U hU hW => ⟨rfl, by rw [hU]; exact hP.sub (ws' := [(h4, .inr (4, [.ref a1, .ref a2, .ref a3, .int (nI n), .int sn, .int sg])), (a1, .inl (cI, 9, .inl fg)), (a2, .inl (cI, 9, .inl fb))]) [1, 2, 3] rfl, hKN.warm hW⟩⟩ rfl rfl hl.1 rfl (lv_room (Nat.le_of_ble_eq_true rfl)) dX1_orderMeanFrom_23 ⟨Nat.le_of_ble_eq_true rfl, Nat.le_of_ble_eq_true rfl⟩) hS hP (fun r3 H locs w3r hP hS => ?_)
        have w3 : r3 = lf fg fb (nI lk) (nI gd) n := w3r
        clear w3r
        refine lv_lmul hx hb dX1_orderMeanFrom_26 ?_
        rw [← hQ]
        exact W.lret (v := pd.toInt64 * r3) hx hb hr (fun tS htS hWS => ⟨⟨(pd.toInt64 * r3), (), rfl, trivial, trivial⟩, hS.F htS⟩) hS.2.2 dX1_orderMeanFrom_27
    · skip
      refine lv_istore (lv' := [(4, .int (nI x9)), (0, .ref h0), (1, .int (nI lk)), (2, .int (nI gd)), (3, .int pd)]) hx hb dX1_orderMeanFrom_7 hl (by decide) rfl (fun ls hl => ?_)
      refine lv_iload hx hb dX1_orderMeanFrom_9 (lv_at hl 0 rfl) ?_
      refine lv_iconst (v := (-1 : Int32)) hx hb dX1_orderMeanFrom_11 (by decide) ?_
      refine lv_icmp_ne (tgt := 28) hx hb dX1_orderMeanFrom_12 (by decide) (fun c4 => ?_) (fun c4 => ?_)
      · skip
        exact absurd (cz_pos hb9 n hx9) (by omega)
      · exact absurd c4 (nI_ne1 (by omega))
  | succ k ih =>
    intro h0 h4 s2 s3 p4 p5 p6 a1 a2 a3 n b1 b2 y ra q lk gd pt rc sn sg fr fw qr pd fg fb fp hn hy hq hlk hgd hrow hcnt
    show Met l yX1_orderMeanFrom wsX1_orderMeanFrom (rm_c_X1_orderMeanFrom (k + 1)) (pc_ D cI cJ cZ [.ref h0, .int (nI lk), .int (nI gd), .int pd] [(h0, .inr (1, [.ref h4, .ref s2, .ref s3, .ref p4, .ref p5, .ref p6, .int fr])), (h4, .inr (4, [.ref a1, .ref a2, .ref a3, .int (nI n), .int sn, .int sg])), (a1, .inl (cI, 9, .inl fg)), (a2, .inl (cI, 9, .inl fb)), (a3, .inl (cI, 9, .inl fp)), (s2, .inr (3, [.ref b1, .ref b2, .int pt, .int rc, .int (nI y)])), (b1, .inl (cJ, 320, .inr (.inl fw))), (s3, .inr (2, [.ref ra, .int (nI q)])), (ra, .inl (cI, 9, .inl qr))]) (va_Ql (fun (r : Int64) (_ : Unit) => True) (fun _ _ => True) aN) 0 0 aN
    refine Met.ofW (cc := cX1_orderMeanFrom) (maxL := 7) (ret := (some .long)) (by decide) rfl ?_
    intro p e s m args below meth c s₁ B hml hv
    obtain ⟨rfl, hP, hKN⟩ := hv
    have hK := hKN.1
    have hx := B.exec
    have hb := B.bytes
    have hr := B.returns
    have hts := atoms_spec (ws := wsX1_orderMeanFrom) B.pre
    have hown : s.vm.findClass RX1 = some m.cls := findClass_of_methodNamed B.named
    have hlocks := B.notSynchronized
    have hiX1 : ∀ w ∈ wsX10, w ∈ wsX1_orderMeanFrom := by decide +kernel
    have hiX4 : ∀ w ∈ wsX40, w ∈ wsX1_orderMeanFrom := by decide +kernel
    have hf22 := hts (.fieldLink RX1 22 "LookBench$Plans" "shelf" "LLookBench$Shelf;") (by decide +kernel)
    have hf92 := va_Nw.use (A := [.ref h0, .int (nI lk), .int (nI gd), .int pd].toArray) rfl (hKN.2 (.fieldLinkNest RX1 92 RX4 "prices" "[I" RX6) (by decide +kernel))
    have hS : va_S aN s.heap s.heap [] := va_S.rf
    have hl := lv_entry ([.ref h0, .int (nI lk), .int (nI gd), .int pd]) (n := 7) (Nat.le_of_ble_eq_true rfl)
    rw [lg_entry_eq]
    generalize (lg_sl ([.ref h0, .int (nI lk), .int (nI gd), .int pd]) ++ List.replicate (7 - (lg_sl ([.ref h0, .int (nI lk), .int (nI gd), .int pd])).length) Slot.unset).toArray = ls at hl ⊢
    have hl : lv_has ls 7 [(0, .ref h0), (1, .int (nI lk)), (2, .int (nI gd)), (3, .int pd)] := hl
    generalize hQ : MQ below _ _ s _ _ _ = Q
    obtain ⟨H, hH⟩ : ∃ z, z = s.heap := ⟨_, rfl⟩
    have hP : va_P D vwCl [(h0, .inr (1, [.ref h4, .ref s2, .ref s3, .ref p4, .ref p5, .ref p6, .int fr])), (h4, .inr (4, [.ref a1, .ref a2, .ref a3, .int (nI n), .int sn, .int sg])), (a1, .inl (cI, 9, .inl fg)), (a2, .inl (cI, 9, .inl fb)), (a3, .inl (cI, 9, .inl fp)), (s2, .inr (3, [.ref b1, .ref b2, .int pt, .int rc, .int (nI y)])), (b1, .inl (cJ, 320, .inr (.inl fw))), (s3, .inr (2, [.ref ra, .int (nI q)])), (ra, .inl (cI, 9, .inl qr))] H := by rw [hH]; exact hP
    have hS : va_S aN s.heap H [] := by rw [hH]; exact hS
    refine m_heap hH ?_
    clear hH
    refine lv_aload_n hx hb dX1_orderMeanFrom_0 rfl (lv_at hl 0 rfl) ?_
    refine lv_iconst (v := nI 2) hx hb dX1_orderMeanFrom_1 (by decide) ?_
    refine lv_iload_n hx hb dX1_orderMeanFrom_2 rfl (lv_at hl 1 rfl) ?_
    refine lv_iload_n hx hb dX1_orderMeanFrom_3 rfl (lv_at hl 2 rfl) ?_
    refine pu_i (va_runV (As := [.int (nI 2), .int (nI lk), .int (nI gd)]) (rest := []) ⟨hx, hb, hml, hown, hts⟩ (c_X1_next_o l D cI cJ cZ h0 h4 s2 s3 p4 p5 p6 a1 a2 a3 n b1 b2 y ra q lk gd pt rc sn sg fr fw qr (by first | assumption | omega) (by first | assumption | omega) (by first | assumption | omega) (by first | assumption | omega) (by first | assumption | omega) (by first | assumption | omega)) (cwV 3 hts gX1_orderMeanFrom_X1_next rfl rfl rfl (by decide +kernel) ⟨(show 3 + 1 ≤ (k + 1) + 4 by omega), (show 8 + (6 + 11) + (65) ≤ (k + 1) * 26 + 90 by omega)⟩) ⟨pc_blind, va_recv hK hP (ci := 1) (q0 := 0) rfl rfl, fun U hU hW => ⟨rfl, by rw [hU]; exact hP.sub (ws' := [(h0, .inr (1, [.ref h4, .ref s2, .ref s3, .ref p4, .ref p5, .ref p6, .int fr])), (h4, .inr (4, [.ref a1, .ref a2, .ref a3, .int (nI n), .int sn, .int sg])), (s2, .inr (3, [.ref b1, .ref b2, .int pt, .int rc, .int (nI y)])), (b1, .inl (cJ, 320, .inr (.inl fw))), (s3, .inr (2, [.ref ra, .int (nI q)])), (ra, .inl (cI, 9, .inl qr))]) [0, 1, 5, 6, 7, 8] rfl, hKN.warm hW⟩⟩ rfl rfl hl.1 rfl (lv_room (Nat.le_of_ble_eq_true rfl)) dX1_orderMeanFrom_4 ⟨Nat.le_of_ble_eq_true rfl, Nat.le_of_ble_eq_true rfl⟩) hS hP (fun r1 H locs w1r hP hS => ?_)
    have w1 : r1 = -1 ∨ ∃ x, x < n ∧ r1 = nI x ∧ lk / 2 ^ x % 2 = 0 := w1r
    clear w1r
    rcases w1 with rfl | ⟨x9, hx9, rfl, hb9⟩
    · skip
      refine lv_istore (lv' := [(4, .int (-1 : Int32)), (0, .ref h0), (1, .int (nI lk)), (2, .int (nI gd)), (3, .int pd)]) hx hb dX1_orderMeanFrom_7 hl (by decide) rfl (fun ls hl => ?_)
      refine lv_iload hx hb dX1_orderMeanFrom_9 (lv_at hl 0 rfl) ?_
      refine lv_iconst (v := (-1 : Int32)) hx hb dX1_orderMeanFrom_11 (by decide) ?_
      refine lv_icmp_ne (tgt := 28) hx hb dX1_orderMeanFrom_12 (by decide) (fun c2 => ?_) (fun c2 => ?_)
      · exact absurd c2 (by first | decide | exact nz_lt (by omega) | exact fun h => h (nz_ge (by omega)))
      · skip
        refine lv_iload_n hx hb dX1_orderMeanFrom_15 rfl (lv_at hl 4 rfl) ?_
        refine lv_i2l hx hb dX1_orderMeanFrom_16 rfl ?_
        refine lv_aload_n hx hb dX1_orderMeanFrom_17 rfl (lv_at hl 1 rfl) ?_
        refine va_get (D := D) (ci := 1) (v := .ref h4) (C := RX1) (T := TX1) (N := 7) hx hb hts hiX1 hown hK hP 0 rfl rfl 0 (by decide) hf22 (fun _ h9 => h9) rfl dX1_orderMeanFrom_18 ?_
        refine lv_iload_n hx hb dX1_orderMeanFrom_21 rfl (lv_at hl 2 rfl) ?_
        refine lv_iload_n hx hb dX1_orderMeanFrom_22 rfl (lv_at hl 3 rfl) ?_
        refine pu_l (va_runV (As := [.int (nI lk), .int (nI gd)]) (rest := [.long pd.toInt64]) ⟨hx, hb, hml, hown, hts⟩ (c_X4_left l D cI cJ cZ h4 a1 a2 a3 n sn sg (nI lk) (nI gd) fg fb (by first | assumption | omega)) (cwV 2 hts gX1_orderMeanFrom_X4_left rfl rfl rfl (by decide +kernel) ⟨(show 0 + 1 ≤ (k + 1) + 4 by omega), (show 8 + (6 + 11) + (0) ≤ (k + 1) * 26 + 90 by omega)⟩) ⟨pc_blind, va_recv hK hP (ci := 4) (q0 := 1) rfl rfl, fun U hU hW => ⟨rfl, by rw [hU]; exact hP.sub (ws' := [(h4, .inr (4, [.ref a1, .ref a2, .ref a3, .int (nI n), .int sn, .int sg])), (a1, .inl (cI, 9, .inl fg)), (a2, .inl (cI, 9, .inl fb))]) [1, 2, 3] rfl, hKN.warm hW⟩⟩ rfl rfl hl.1 rfl (lv_room (Nat.le_of_ble_eq_true rfl)) dX1_orderMeanFrom_23 ⟨Nat.le_of_ble_eq_true rfl, Nat.le_of_ble_eq_true rfl⟩) hS hP (fun r3 H locs w3r hP hS => ?_)
        have w3 : r3 = lf fg fb (nI lk) (nI gd) n := w3r
        clear w3r
        refine lv_lmul hx hb dX1_orderMeanFrom_26 ?_
        rw [← hQ]
        exact W.lret (v := pd.toInt64 * r3) hx hb hr (fun tS htS hWS => ⟨⟨(pd.toInt64 * r3), (), rfl, trivial, trivial⟩, hS.F htS⟩) hS.2.2 dX1_orderMeanFrom_27
    · skip
      refine lv_istore (lv' := [(4, .int (nI x9)), (0, .ref h0), (1, .int (nI lk)), (2, .int (nI gd)), (3, .int pd)]) hx hb dX1_orderMeanFrom_7 hl (by decide) rfl (fun ls hl => ?_)
      refine lv_iload hx hb dX1_orderMeanFrom_9 (lv_at hl 0 rfl) ?_
      refine lv_iconst (v := (-1 : Int32)) hx hb dX1_orderMeanFrom_11 (by decide) ?_
      refine lv_icmp_ne (tgt := 28) hx hb dX1_orderMeanFrom_12 (by decide) (fun c4 => ?_) (fun c4 => ?_)
      · skip
        refine lv_iload_n hx hb dX1_orderMeanFrom_28 rfl (lv_at hl 2 rfl) ?_
        refine lv_iconst (v := nI 1) hx hb dX1_orderMeanFrom_29 (by decide) ?_
        refine lv_iload hx hb dX1_orderMeanFrom_30 (lv_at hl 0 rfl) ?_
        refine lv_ishl hx hb dX1_orderMeanFrom_32 ?_
        refine cn_i (y := nI (2 ^ x9)) (m_shl1 (by omega)) ?_
        refine lv_ior hx hb dX1_orderMeanFrom_33 ?_
        refine cn_i (y := nI (lk ||| (2 ^ x9))) (mb_or lk (2 ^ x9)) ?_
        refine lv_istore (lv' := [(5, .int (nI (lk ||| (2 ^ x9)))), (4, .int (nI x9)), (0, .ref h0), (1, .int (nI lk)), (2, .int (nI gd)), (3, .int pd)]) hx hb dX1_orderMeanFrom_34 hl (by decide) rfl (fun ls hl => ?_)
        refine lv_iload_n hx hb dX1_orderMeanFrom_36 rfl (lv_at hl 5 rfl) ?_
        refine lv_aload_n hx hb dX1_orderMeanFrom_37 rfl (lv_at hl 2 rfl) ?_
        refine va_get (D := D) (ci := 1) (v := .ref h4) (C := RX1) (T := TX1) (N := 7) hx hb hts hiX1 hown hK hP 0 rfl rfl 0 (by decide) hf22 (fun _ h9 => h9) rfl dX1_orderMeanFrom_38 ?_
        refine va_getN (D := D) (ci := 4) (v := .ref a3) (C := RX4) (T := TX4) (N := 6) hx hb hts hiX4 hown hK hP 1 rfl rfl 2 (by decide) hf92 (fun _ h9 => h9) rfl dX1_orderMeanFrom_41 ?_
        refine lv_iload hx hb dX1_orderMeanFrom_44 (lv_at hl 1 rfl) ?_
        refine va_iald hx hb hK hP 4 0 rfl rfl (i := nI x9) (vp_in_nI (by omega) (by omega)) dX1_orderMeanFrom_46 ?_
        refine cn_i (y := fp x9) (congrArg fp (nI_clamp (by omega))) ?_
        refine lv_iadd hx hb dX1_orderMeanFrom_47 ?_
        refine lv_istore (lv' := [(6, .int (pd + (fp x9))), (5, .int (nI (lk ||| (2 ^ x9)))), (4, .int (nI x9)), (0, .ref h0), (1, .int (nI lk)), (2, .int (nI gd)), (3, .int pd)]) hx hb dX1_orderMeanFrom_48 hl (by decide) rfl (fun ls hl => ?_)
        refine lv_aload_n hx hb dX1_orderMeanFrom_50 rfl (lv_at hl 3 rfl) ?_
        refine lv_iload hx hb dX1_orderMeanFrom_51 (lv_at hl 1 rfl) ?_
        refine lv_iload_n hx hb dX1_orderMeanFrom_53 rfl (lv_at hl 5 rfl) ?_
        refine lv_iconst (v := nI 1) hx hb dX1_orderMeanFrom_54 (by decide) ?_
        refine lv_iload hx hb dX1_orderMeanFrom_55 (lv_at hl 2 rfl) ?_
        refine lv_ishl hx hb dX1_orderMeanFrom_57 ?_
        refine cn_i (y := nI (2 ^ x9)) (m_shl1 (by omega)) ?_
        refine lv_ior hx hb dX1_orderMeanFrom_58 ?_
        refine cn_i (y := nI (gd ||| (2 ^ x9))) (mb_or gd (2 ^ x9)) ?_
        refine lv_iload hx hb dX1_orderMeanFrom_59 (lv_at hl 0 rfl) ?_
        refine pu_l (va_runV (As := [.int (nI (lk ||| (2 ^ x9))), .int (nI (gd ||| (2 ^ x9))), .int (pd + (fp x9))]) (rest := []) ⟨hx, hb, hml, hown, hts⟩ (ih h0 h4 s2 s3 p4 p5 p6 a1 a2 a3 n b1 b2 y ra q (lk ||| (2 ^ x9)) (gd ||| (2 ^ x9)) pt rc sn sg fr fw qr (pd + (fp x9)) fg fb fp (by first | assumption | omega) (by first | assumption | omega) (by first | assumption | omega) (by exact m_or9 hlk (m_p2n hx9)) (by first | assumption | exact m_o512 hgd (m_p512 (by omega))) (by first | assumption | omega) (by have := (cz_or hb9 n).2 hx9; omega)) (cwV 3 hts gX1_orderMeanFrom_X1_orderMeanFrom rfl rfl rfl (by decide +kernel) ⟨(show k + 4 + 1 ≤ (k + 1) + 4 by omega), (show 8 + (7 + 11) + (k * 26 + 90) ≤ (k + 1) * 26 + 90 by omega)⟩) ⟨pc_blind, va_recv hK hP (ci := 1) (q0 := 0) rfl rfl, fun U hU hW => ⟨rfl, by rw [hU]; exact hP.sub (ws' := [(h0, .inr (1, [.ref h4, .ref s2, .ref s3, .ref p4, .ref p5, .ref p6, .int fr])), (h4, .inr (4, [.ref a1, .ref a2, .ref a3, .int (nI n), .int sn, .int sg])), (a1, .inl (cI, 9, .inl fg)), (a2, .inl (cI, 9, .inl fb)), (a3, .inl (cI, 9, .inl fp)), (s2, .inr (3, [.ref b1, .ref b2, .int pt, .int rc, .int (nI y)])), (b1, .inl (cJ, 320, .inr (.inl fw))), (s3, .inr (2, [.ref ra, .int (nI q)])), (ra, .inl (cI, 9, .inl qr))]) [0, 1, 2, 3, 4, 5, 6, 7, 8] rfl, hKN.warm hW⟩⟩ rfl rfl hl.1 rfl (lv_room (Nat.le_of_ble_eq_true rfl)) dX1_orderMeanFrom_61 ⟨Nat.le_of_ble_eq_true rfl, Nat.le_of_ble_eq_true rfl⟩) hS hP (fun r5 H locs w5r hP hS => ?_)
        have w5 : True := w5r
        clear w5r
        refine lv_aload_n hx hb dX1_orderMeanFrom_64 rfl (lv_at hl 3 rfl) ?_
        refine lv_iload hx hb dX1_orderMeanFrom_65 (lv_at hl 1 rfl) ?_
        refine lv_iload_n hx hb dX1_orderMeanFrom_67 rfl (lv_at hl 5 rfl) ?_
        refine lv_iload hx hb dX1_orderMeanFrom_68 (lv_at hl 0 rfl) ?_
        refine pu_l (va_runV (As := [.int (nI (lk ||| (2 ^ x9))), .int (nI gd), .int (pd + (fp x9))]) (rest := [.long r5]) ⟨hx, hb, hml, hown, hts⟩ (ih h0 h4 s2 s3 p4 p5 p6 a1 a2 a3 n b1 b2 y ra q (lk ||| (2 ^ x9)) gd pt rc sn sg fr fw qr (pd + (fp x9)) fg fb fp (by first | assumption | omega) (by first | assumption | omega) (by first | assumption | omega) (by exact m_or9 hlk (m_p2n hx9)) (by first | assumption | exact m_o512 hgd (m_p512 (by omega))) (by first | assumption | omega) (by have := (cz_or hb9 n).2 hx9; omega)) (cwV 3 hts gX1_orderMeanFrom_X1_orderMeanFrom rfl rfl rfl (by decide +kernel) ⟨(show k + 4 + 1 ≤ (k + 1) + 4 by omega), (show 8 + (7 + 11) + (k * 26 + 90) ≤ (k + 1) * 26 + 90 by omega)⟩) ⟨pc_blind, va_recv hK hP (ci := 1) (q0 := 0) rfl rfl, fun U hU hW => ⟨rfl, by rw [hU]; exact hP.sub (ws' := [(h0, .inr (1, [.ref h4, .ref s2, .ref s3, .ref p4, .ref p5, .ref p6, .int fr])), (h4, .inr (4, [.ref a1, .ref a2, .ref a3, .int (nI n), .int sn, .int sg])), (a1, .inl (cI, 9, .inl fg)), (a2, .inl (cI, 9, .inl fb)), (a3, .inl (cI, 9, .inl fp)), (s2, .inr (3, [.ref b1, .ref b2, .int pt, .int rc, .int (nI y)])), (b1, .inl (cJ, 320, .inr (.inl fw))), (s3, .inr (2, [.ref ra, .int (nI q)])), (ra, .inl (cI, 9, .inl qr))]) [0, 1, 2, 3, 4, 5, 6, 7, 8] rfl, hKN.warm hW⟩⟩ rfl rfl hl.1 rfl (lv_room (Nat.le_of_ble_eq_true rfl)) dX1_orderMeanFrom_70 ⟨Nat.le_of_ble_eq_true rfl, Nat.le_of_ble_eq_true rfl⟩) hS hP (fun r6 H locs w6r hP hS => ?_)
        have w6 : True := w6r
        clear w6r
        refine lv_ladd hx hb dX1_orderMeanFrom_73 ?_
        rw [← hQ]
        exact W.lret (v := r5 + r6) hx hb hr (fun tS htS hWS => ⟨⟨(r5 + r6), (), rfl, trivial, trivial⟩, hS.F htS⟩) hS.2.2 dX1_orderMeanFrom_74
      · exact absurd c4 (nI_ne1 (by omega))
def rm_c_X1_orderWorstFrom (k : Nat) : Room := { frames := k + 4, cells := 0, slots := 0, locals := k * 26 + 90 }
set_option maxHeartbeats 400000 in
set_option maxRecDepth 100000 in
theorem c_X1_orderWorstFrom (l : Launch) (D : va_G) (cI cJ cZ : ClassId) : ∀ (k : Nat) (h0 : Nat) (h4 : Nat) (s2 : Nat) (s3 : Nat) (p4 : Nat) (p5 : Nat) (p6 : Nat) (a1 : Nat) (a2 : Nat) (a3 : Nat) (n : Nat) (b1 : Nat) (b2 : Nat) (y : Nat) (ra : Nat) (q : Nat) (lk : Nat) (gd : Nat) (pt : Int32) (rc : Int32) (sn : Int32) (sg : Int32) (fr : Int32) (fw : Nat → Int64) (qr : Nat → Int32) (pd : Int32) (fg : Nat → Int32) (fb : Nat → Int32) (fp : Nat → Int32) (hn : n ≤ 9) (hy : y < 40) (hq : q ≤ 9) (hlk : lk < 2 ^ n) (hgd : gd < 512) (hrow : ∀ z, z < q → ∃ x, x < n ∧ qr z = nI x) (hcnt : cz lk n ≤ k), Met l yX1_orderWorstFrom wsX1_orderWorstFrom (rm_c_X1_orderWorstFrom k) (pc_ D cI cJ cZ [.ref h0, .int (nI lk), .int (nI gd), .int pd] [(h0, .inr (1, [.ref h4, .ref s2, .ref s3, .ref p4, .ref p5, .ref p6, .int fr])), (h4, .inr (4, [.ref a1, .ref a2, .ref a3, .int (nI n), .int sn, .int sg])), (a1, .inl (cI, 9, .inl fg)), (a2, .inl (cI, 9, .inl fb)), (a3, .inl (cI, 9, .inl fp)), (s2, .inr (3, [.ref b1, .ref b2, .int pt, .int rc, .int (nI y)])), (b1, .inl (cJ, 320, .inr (.inl fw))), (s3, .inr (2, [.ref ra, .int (nI q)])), (ra, .inl (cI, 9, .inl qr))]) (va_Qi (fun (r : Int32) (_ : Unit) => True) (fun _ _ => True) aN) 0 0 aN := by
  intro k
  induction k with
  | zero =>
    intro h0 h4 s2 s3 p4 p5 p6 a1 a2 a3 n b1 b2 y ra q lk gd pt rc sn sg fr fw qr pd fg fb fp hn hy hq hlk hgd hrow hcnt
    show Met l yX1_orderWorstFrom wsX1_orderWorstFrom (rm_c_X1_orderWorstFrom 0) (pc_ D cI cJ cZ [.ref h0, .int (nI lk), .int (nI gd), .int pd] [(h0, .inr (1, [.ref h4, .ref s2, .ref s3, .ref p4, .ref p5, .ref p6, .int fr])), (h4, .inr (4, [.ref a1, .ref a2, .ref a3, .int (nI n), .int sn, .int sg])), (a1, .inl (cI, 9, .inl fg)), (a2, .inl (cI, 9, .inl fb)), (a3, .inl (cI, 9, .inl fp)), (s2, .inr (3, [.ref b1, .ref b2, .int pt, .int rc, .int (nI y)])), (b1, .inl (cJ, 320, .inr (.inl fw))), (s3, .inr (2, [.ref ra, .int (nI q)])), (ra, .inl (cI, 9, .inl qr))]) (va_Qi (fun (r : Int32) (_ : Unit) => True) (fun _ _ => True) aN) 0 0 aN
    refine Met.ofW (cc := cX1_orderWorstFrom) (maxL := 7) (ret := (some .int)) (by decide) rfl ?_
    intro p e s m args below meth c s₁ B hml hv
    obtain ⟨rfl, hP, hKN⟩ := hv
    have hK := hKN.1
    have hx := B.exec
    have hb := B.bytes
    have hr := B.returns
    have hts := atoms_spec (ws := wsX1_orderWorstFrom) B.pre
    have hown : s.vm.findClass RX1 = some m.cls := findClass_of_methodNamed B.named
    have hlocks := B.notSynchronized
    have hS : va_S aN s.heap s.heap [] := va_S.rf
    have hl := lv_entry ([.ref h0, .int (nI lk), .int (nI gd), .int pd]) (n := 7) (Nat.le_of_ble_eq_true rfl)
    rw [lg_entry_eq]
    generalize (lg_sl ([.ref h0, .int (nI lk), .int (nI gd), .int pd]) ++ List.replicate (7 - (lg_sl ([.ref h0, .int (nI lk), .int (nI gd), .int pd])).length) Slot.unset).toArray = ls at hl ⊢
    have hl : lv_has ls 7 [(0, .ref h0), (1, .int (nI lk)), (2, .int (nI gd)), (3, .int pd)] := hl
    generalize hQ : MQ below _ _ s _ _ _ = Q
    obtain ⟨H, hH⟩ : ∃ z, z = s.heap := ⟨_, rfl⟩
    have hP : va_P D vwCl [(h0, .inr (1, [.ref h4, .ref s2, .ref s3, .ref p4, .ref p5, .ref p6, .int fr])), (h4, .inr (4, [.ref a1, .ref a2, .ref a3, .int (nI n), .int sn, .int sg])), (a1, .inl (cI, 9, .inl fg)), (a2, .inl (cI, 9, .inl fb)), (a3, .inl (cI, 9, .inl fp)), (s2, .inr (3, [.ref b1, .ref b2, .int pt, .int rc, .int (nI y)])), (b1, .inl (cJ, 320, .inr (.inl fw))), (s3, .inr (2, [.ref ra, .int (nI q)])), (ra, .inl (cI, 9, .inl qr))] H := by rw [hH]; exact hP
    have hS : va_S aN s.heap H [] := by rw [hH]; exact hS
    refine m_heap hH ?_
    clear hH
    refine lv_aload_n hx hb dX1_orderWorstFrom_0 rfl (lv_at hl 0 rfl) ?_
    refine lv_iconst (v := nI 2) hx hb dX1_orderWorstFrom_1 (by decide) ?_
    refine lv_iload_n hx hb dX1_orderWorstFrom_2 rfl (lv_at hl 1 rfl) ?_
    refine lv_iload_n hx hb dX1_orderWorstFrom_3 rfl (lv_at hl 2 rfl) ?_
    refine pu_i (va_runV (As := [.int (nI 2), .int (nI lk), .int (nI gd)]) (rest := []) ⟨hx, hb, hml, hown, hts⟩ (c_X1_next_o l D cI cJ cZ h0 h4 s2 s3 p4 p5 p6 a1 a2 a3 n b1 b2 y ra q lk gd pt rc sn sg fr fw qr (by first | assumption | omega) (by first | assumption | omega) (by first | assumption | omega) (by first | assumption | omega) (by first | assumption | omega) (by first | assumption | omega)) (cwV 3 hts gX1_orderWorstFrom_X1_next rfl rfl rfl (by decide +kernel) ⟨(show 3 + 1 ≤ 0 + 4 by omega), (show 8 + (6 + 11) + (65) ≤ 0 * 26 + 90 by omega)⟩) ⟨pc_blind, va_recv hK hP (ci := 1) (q0 := 0) rfl rfl, fun U hU hW => ⟨rfl, by rw [hU]; exact hP.sub (ws' := [(h0, .inr (1, [.ref h4, .ref s2, .ref s3, .ref p4, .ref p5, .ref p6, .int fr])), (h4, .inr (4, [.ref a1, .ref a2, .ref a3, .int (nI n), .int sn, .int sg])), (s2, .inr (3, [.ref b1, .ref b2, .int pt, .int rc, .int (nI y)])), (b1, .inl (cJ, 320, .inr (.inl fw))), (s3, .inr (2, [.ref ra, .int (nI q)])), (ra, .inl (cI, 9, .inl qr))]) [0, 1, 5, 6, 7, 8] rfl, hKN.warm hW⟩⟩ rfl rfl hl.1 rfl (lv_room (Nat.le_of_ble_eq_true rfl)) dX1_orderWorstFrom_4 ⟨Nat.le_of_ble_eq_true rfl, Nat.le_of_ble_eq_true rfl⟩) hS hP (fun r1 H locs w1r hP hS => ?_)
    have w1 : r1 = -1 ∨ ∃ x, x < n ∧ r1 = nI x ∧ lk / 2 ^ x % 2 = 0 := w1r
    clear w1r
    rcases w1 with rfl | ⟨x9, hx9, rfl, hb9⟩
    · skip
      refine lv_istore (lv' := [(4, .int (-1 : Int32)), (0, .ref h0), (1, .int (nI lk)), (2, .int (nI gd)), (3, .int pd)]) hx hb dX1_orderWorstFrom_7 hl (by decide) rfl (fun ls hl => ?_)
      refine lv_iload hx hb dX1_orderWorstFrom_9 (lv_at hl 0 rfl) ?_
      refine lv_iconst (v := (-1 : Int32)) hx hb dX1_orderWorstFrom_11 (by decide) ?_
      refine lv_icmp_ne (tgt := 17) hx hb dX1_orderWorstFrom_12 (by decide) (fun c2 => ?_) (fun c2 => ?_)
      · exact absurd c2 (by first | decide | exact nz_lt (by omega) | exact fun h => h (nz_ge (by omega)))
      · skip
        refine lv_iload_n hx hb dX1_orderWorstFrom_15 rfl (lv_at hl 4 rfl) ?_
        rw [← hQ]
        exact W.iret (v := pd) hx hb hr (fun tS htS hWS => ⟨⟨pd, (), rfl, trivial, trivial⟩, hS.F htS⟩) hS.2.2 dX1_orderWorstFrom_16
    · skip
      refine lv_istore (lv' := [(4, .int (nI x9)), (0, .ref h0), (1, .int (nI lk)), (2, .int (nI gd)), (3, .int pd)]) hx hb dX1_orderWorstFrom_7 hl (by decide) rfl (fun ls hl => ?_)
      refine lv_iload hx hb dX1_orderWorstFrom_9 (lv_at hl 0 rfl) ?_
      refine lv_iconst (v := (-1 : Int32)) hx hb dX1_orderWorstFrom_11 (by decide) ?_
      refine lv_icmp_ne (tgt := 17) hx hb dX1_orderWorstFrom_12 (by decide) (fun c3 => ?_) (fun c3 => ?_)
      · skip
        exact absurd (cz_pos hb9 n hx9) (by omega)
      · exact absurd c3 (nI_ne1 (by omega))
  | succ k ih =>
    intro h0 h4 s2 s3 p4 p5 p6 a1 a2 a3 n b1 b2 y ra q lk gd pt rc sn sg fr fw qr pd fg fb fp hn hy hq hlk hgd hrow hcnt
    show Met l yX1_orderWorstFrom wsX1_orderWorstFrom (rm_c_X1_orderWorstFrom (k + 1)) (pc_ D cI cJ cZ [.ref h0, .int (nI lk), .int (nI gd), .int pd] [(h0, .inr (1, [.ref h4, .ref s2, .ref s3, .ref p4, .ref p5, .ref p6, .int fr])), (h4, .inr (4, [.ref a1, .ref a2, .ref a3, .int (nI n), .int sn, .int sg])), (a1, .inl (cI, 9, .inl fg)), (a2, .inl (cI, 9, .inl fb)), (a3, .inl (cI, 9, .inl fp)), (s2, .inr (3, [.ref b1, .ref b2, .int pt, .int rc, .int (nI y)])), (b1, .inl (cJ, 320, .inr (.inl fw))), (s3, .inr (2, [.ref ra, .int (nI q)])), (ra, .inl (cI, 9, .inl qr))]) (va_Qi (fun (r : Int32) (_ : Unit) => True) (fun _ _ => True) aN) 0 0 aN
    refine Met.ofW (cc := cX1_orderWorstFrom) (maxL := 7) (ret := (some .int)) (by decide) rfl ?_
    intro p e s m args below meth c s₁ B hml hv
    obtain ⟨rfl, hP, hKN⟩ := hv
    have hK := hKN.1
    have hx := B.exec
    have hb := B.bytes
    have hr := B.returns
    have hts := atoms_spec (ws := wsX1_orderWorstFrom) B.pre
    have hown : s.vm.findClass RX1 = some m.cls := findClass_of_methodNamed B.named
    have hlocks := B.notSynchronized
    have hiX1 : ∀ w ∈ wsX10, w ∈ wsX1_orderWorstFrom := by decide +kernel
    have hiX4 : ∀ w ∈ wsX40, w ∈ wsX1_orderWorstFrom := by decide +kernel
    have hf22 := hts (.fieldLink RX1 22 "LookBench$Plans" "shelf" "LLookBench$Shelf;") (by decide +kernel)
    have hf92 := va_Nw.use (A := [.ref h0, .int (nI lk), .int (nI gd), .int pd].toArray) rfl (hKN.2 (.fieldLinkNest RX1 92 RX4 "prices" "[I" RX6) (by decide +kernel))
    have hS : va_S aN s.heap s.heap [] := va_S.rf
    have hl := lv_entry ([.ref h0, .int (nI lk), .int (nI gd), .int pd]) (n := 7) (Nat.le_of_ble_eq_true rfl)
    rw [lg_entry_eq]
    generalize (lg_sl ([.ref h0, .int (nI lk), .int (nI gd), .int pd]) ++ List.replicate (7 - (lg_sl ([.ref h0, .int (nI lk), .int (nI gd), .int pd])).length) Slot.unset).toArray = ls at hl ⊢
    have hl : lv_has ls 7 [(0, .ref h0), (1, .int (nI lk)), (2, .int (nI gd)), (3, .int pd)] := hl
    generalize hQ : MQ below _ _ s _ _ _ = Q
    obtain ⟨H, hH⟩ : ∃ z, z = s.heap := ⟨_, rfl⟩
    have hP : va_P D vwCl [(h0, .inr (1, [.ref h4, .ref s2, .ref s3, .ref p4, .ref p5, .ref p6, .int fr])), (h4, .inr (4, [.ref a1, .ref a2, .ref a3, .int (nI n), .int sn, .int sg])), (a1, .inl (cI, 9, .inl fg)), (a2, .inl (cI, 9, .inl fb)), (a3, .inl (cI, 9, .inl fp)), (s2, .inr (3, [.ref b1, .ref b2, .int pt, .int rc, .int (nI y)])), (b1, .inl (cJ, 320, .inr (.inl fw))), (s3, .inr (2, [.ref ra, .int (nI q)])), (ra, .inl (cI, 9, .inl qr))] H := by rw [hH]; exact hP
    have hS : va_S aN s.heap H [] := by rw [hH]; exact hS
    refine m_heap hH ?_
    clear hH
    refine lv_aload_n hx hb dX1_orderWorstFrom_0 rfl (lv_at hl 0 rfl) ?_
    refine lv_iconst (v := nI 2) hx hb dX1_orderWorstFrom_1 (by decide) ?_
    refine lv_iload_n hx hb dX1_orderWorstFrom_2 rfl (lv_at hl 1 rfl) ?_
    refine lv_iload_n hx hb dX1_orderWorstFrom_3 rfl (lv_at hl 2 rfl) ?_
    refine pu_i (va_runV (As := [.int (nI 2), .int (nI lk), .int (nI gd)]) (rest := []) ⟨hx, hb, hml, hown, hts⟩ (c_X1_next_o l D cI cJ cZ h0 h4 s2 s3 p4 p5 p6 a1 a2 a3 n b1 b2 y ra q lk gd pt rc sn sg fr fw qr (by first | assumption | omega) (by first | assumption | omega) (by first | assumption | omega) (by first | assumption | omega) (by first | assumption | omega) (by first | assumption | omega)) (cwV 3 hts gX1_orderWorstFrom_X1_next rfl rfl rfl (by decide +kernel) ⟨(show 3 + 1 ≤ (k + 1) + 4 by omega), (show 8 + (6 + 11) + (65) ≤ (k + 1) * 26 + 90 by omega)⟩) ⟨pc_blind, va_recv hK hP (ci := 1) (q0 := 0) rfl rfl, fun U hU hW => ⟨rfl, by rw [hU]; exact hP.sub (ws' := [(h0, .inr (1, [.ref h4, .ref s2, .ref s3, .ref p4, .ref p5, .ref p6, .int fr])), (h4, .inr (4, [.ref a1, .ref a2, .ref a3, .int (nI n), .int sn, .int sg])), (s2, .inr (3, [.ref b1, .ref b2, .int pt, .int rc, .int (nI y)])), (b1, .inl (cJ, 320, .inr (.inl fw))), (s3, .inr (2, [.ref ra, .int (nI q)])), (ra, .inl (cI, 9, .inl qr))]) [0, 1, 5, 6, 7, 8] rfl, hKN.warm hW⟩⟩ rfl rfl hl.1 rfl (lv_room (Nat.le_of_ble_eq_true rfl)) dX1_orderWorstFrom_4 ⟨Nat.le_of_ble_eq_true rfl, Nat.le_of_ble_eq_true rfl⟩) hS hP (fun r1 H locs w1r hP hS => ?_)
    have w1 : r1 = -1 ∨ ∃ x, x < n ∧ r1 = nI x ∧ lk / 2 ^ x % 2 = 0 := w1r
    clear w1r
    rcases w1 with rfl | ⟨x9, hx9, rfl, hb9⟩
    · skip
      refine lv_istore (lv' := [(4, .int (-1 : Int32)), (0, .ref h0), (1, .int (nI lk)), (2, .int (nI gd)), (3, .int pd)]) hx hb dX1_orderWorstFrom_7 hl (by decide) rfl (fun ls hl => ?_)
      refine lv_iload hx hb dX1_orderWorstFrom_9 (lv_at hl 0 rfl) ?_
      refine lv_iconst (v := (-1 : Int32)) hx hb dX1_orderWorstFrom_11 (by decide) ?_
      refine lv_icmp_ne (tgt := 17) hx hb dX1_orderWorstFrom_12 (by decide) (fun c2 => ?_) (fun c2 => ?_)
      · exact absurd c2 (by first | decide | exact nz_lt (by omega) | exact fun h => h (nz_ge (by omega)))
      · skip
        refine lv_iload_n hx hb dX1_orderWorstFrom_15 rfl (lv_at hl 4 rfl) ?_
        rw [← hQ]
        exact W.iret (v := pd) hx hb hr (fun tS htS hWS => ⟨⟨pd, (), rfl, trivial, trivial⟩, hS.F htS⟩) hS.2.2 dX1_orderWorstFrom_16
    · skip
      refine lv_istore (lv' := [(4, .int (nI x9)), (0, .ref h0), (1, .int (nI lk)), (2, .int (nI gd)), (3, .int pd)]) hx hb dX1_orderWorstFrom_7 hl (by decide) rfl (fun ls hl => ?_)
      refine lv_iload hx hb dX1_orderWorstFrom_9 (lv_at hl 0 rfl) ?_
      refine lv_iconst (v := (-1 : Int32)) hx hb dX1_orderWorstFrom_11 (by decide) ?_
      refine lv_icmp_ne (tgt := 17) hx hb dX1_orderWorstFrom_12 (by decide) (fun c3 => ?_) (fun c3 => ?_)
      · skip
        refine lv_iload_n hx hb dX1_orderWorstFrom_17 rfl (lv_at hl 2 rfl) ?_
        refine lv_iconst (v := nI 1) hx hb dX1_orderWorstFrom_18 (by decide) ?_
        refine lv_iload hx hb dX1_orderWorstFrom_19 (lv_at hl 0 rfl) ?_
        refine lv_ishl hx hb dX1_orderWorstFrom_21 ?_
        refine cn_i (y := nI (2 ^ x9)) (m_shl1 (by omega)) ?_
        refine lv_ior hx hb dX1_orderWorstFrom_22 ?_
        refine cn_i (y := nI (lk ||| (2 ^ x9))) (mb_or lk (2 ^ x9)) ?_
        refine lv_istore (lv' := [(5, .int (nI (lk ||| (2 ^ x9)))), (4, .int (nI x9)), (0, .ref h0), (1, .int (nI lk)), (2, .int (nI gd)), (3, .int pd)]) hx hb dX1_orderWorstFrom_23 hl (by decide) rfl (fun ls hl => ?_)
        refine lv_iload_n hx hb dX1_orderWorstFrom_25 rfl (lv_at hl 5 rfl) ?_
        refine lv_aload_n hx hb dX1_orderWorstFrom_26 rfl (lv_at hl 2 rfl) ?_
        refine va_get (D := D) (ci := 1) (v := .ref h4) (C := RX1) (T := TX1) (N := 7) hx hb hts hiX1 hown hK hP 0 rfl rfl 0 (by decide) hf22 (fun _ h9 => h9) rfl dX1_orderWorstFrom_27 ?_
        refine va_getN (D := D) (ci := 4) (v := .ref a3) (C := RX4) (T := TX4) (N := 6) hx hb hts hiX4 hown hK hP 1 rfl rfl 2 (by decide) hf92 (fun _ h9 => h9) rfl dX1_orderWorstFrom_30 ?_
        refine lv_iload hx hb dX1_orderWorstFrom_33 (lv_at hl 1 rfl) ?_
        refine va_iald hx hb hK hP 4 0 rfl rfl (i := nI x9) (vp_in_nI (by omega) (by omega)) dX1_orderWorstFrom_35 ?_
        refine cn_i (y := fp x9) (congrArg fp (nI_clamp (by omega))) ?_
        refine lv_iadd hx hb dX1_orderWorstFrom_36 ?_
        refine lv_istore (lv' := [(6, .int (pd + (fp x9))), (5, .int (nI (lk ||| (2 ^ x9)))), (4, .int (nI x9)), (0, .ref h0), (1, .int (nI lk)), (2, .int (nI gd)), (3, .int pd)]) hx hb dX1_orderWorstFrom_37 hl (by decide) rfl (fun ls hl => ?_)
        refine lv_aload_n hx hb dX1_orderWorstFrom_39 rfl (lv_at hl 3 rfl) ?_
        refine lv_iload hx hb dX1_orderWorstFrom_40 (lv_at hl 1 rfl) ?_
        refine lv_iload_n hx hb dX1_orderWorstFrom_42 rfl (lv_at hl 5 rfl) ?_
        refine lv_iconst (v := nI 1) hx hb dX1_orderWorstFrom_43 (by decide) ?_
        refine lv_iload hx hb dX1_orderWorstFrom_44 (lv_at hl 2 rfl) ?_
        refine lv_ishl hx hb dX1_orderWorstFrom_46 ?_
        refine cn_i (y := nI (2 ^ x9)) (m_shl1 (by omega)) ?_
        refine lv_ior hx hb dX1_orderWorstFrom_47 ?_
        refine cn_i (y := nI (gd ||| (2 ^ x9))) (mb_or gd (2 ^ x9)) ?_
        refine lv_iload hx hb dX1_orderWorstFrom_48 (lv_at hl 0 rfl) ?_
        refine pu_i (va_runV (As := [.int (nI (lk ||| (2 ^ x9))), .int (nI (gd ||| (2 ^ x9))), .int (pd + (fp x9))]) (rest := []) ⟨hx, hb, hml, hown, hts⟩ (ih h0 h4 s2 s3 p4 p5 p6 a1 a2 a3 n b1 b2 y ra q (lk ||| (2 ^ x9)) (gd ||| (2 ^ x9)) pt rc sn sg fr fw qr (pd + (fp x9)) fg fb fp (by first | assumption | omega) (by first | assumption | omega) (by first | assumption | omega) (by exact m_or9 hlk (m_p2n hx9)) (by first | assumption | exact m_o512 hgd (m_p512 (by omega))) (by first | assumption | omega) (by have := (cz_or hb9 n).2 hx9; omega)) (cwV 3 hts gX1_orderWorstFrom_X1_orderWorstFrom rfl rfl rfl (by decide +kernel) ⟨(show k + 4 + 1 ≤ (k + 1) + 4 by omega), (show 8 + (7 + 11) + (k * 26 + 90) ≤ (k + 1) * 26 + 90 by omega)⟩) ⟨pc_blind, va_recv hK hP (ci := 1) (q0 := 0) rfl rfl, fun U hU hW => ⟨rfl, by rw [hU]; exact hP.sub (ws' := [(h0, .inr (1, [.ref h4, .ref s2, .ref s3, .ref p4, .ref p5, .ref p6, .int fr])), (h4, .inr (4, [.ref a1, .ref a2, .ref a3, .int (nI n), .int sn, .int sg])), (a1, .inl (cI, 9, .inl fg)), (a2, .inl (cI, 9, .inl fb)), (a3, .inl (cI, 9, .inl fp)), (s2, .inr (3, [.ref b1, .ref b2, .int pt, .int rc, .int (nI y)])), (b1, .inl (cJ, 320, .inr (.inl fw))), (s3, .inr (2, [.ref ra, .int (nI q)])), (ra, .inl (cI, 9, .inl qr))]) [0, 1, 2, 3, 4, 5, 6, 7, 8] rfl, hKN.warm hW⟩⟩ rfl rfl hl.1 rfl (lv_room (Nat.le_of_ble_eq_true rfl)) dX1_orderWorstFrom_50 ⟨Nat.le_of_ble_eq_true rfl, Nat.le_of_ble_eq_true rfl⟩) hS hP (fun r4 H locs w4r hP hS => ?_)
        have w4 : True := w4r
        clear w4r
        refine lv_aload_n hx hb dX1_orderWorstFrom_53 rfl (lv_at hl 3 rfl) ?_
        refine lv_iload hx hb dX1_orderWorstFrom_54 (lv_at hl 1 rfl) ?_
        refine lv_iload_n hx hb dX1_orderWorstFrom_56 rfl (lv_at hl 5 rfl) ?_
        refine lv_iload hx hb dX1_orderWorstFrom_57 (lv_at hl 0 rfl) ?_
        refine pu_i (va_runV (As := [.int (nI (lk ||| (2 ^ x9))), .int (nI gd), .int (pd + (fp x9))]) (rest := [.int r4]) ⟨hx, hb, hml, hown, hts⟩ (ih h0 h4 s2 s3 p4 p5 p6 a1 a2 a3 n b1 b2 y ra q (lk ||| (2 ^ x9)) gd pt rc sn sg fr fw qr (pd + (fp x9)) fg fb fp (by first | assumption | omega) (by first | assumption | omega) (by first | assumption | omega) (by exact m_or9 hlk (m_p2n hx9)) (by first | assumption | exact m_o512 hgd (m_p512 (by omega))) (by first | assumption | omega) (by have := (cz_or hb9 n).2 hx9; omega)) (cwV 3 hts gX1_orderWorstFrom_X1_orderWorstFrom rfl rfl rfl (by decide +kernel) ⟨(show k + 4 + 1 ≤ (k + 1) + 4 by omega), (show 8 + (7 + 11) + (k * 26 + 90) ≤ (k + 1) * 26 + 90 by omega)⟩) ⟨pc_blind, va_recv hK hP (ci := 1) (q0 := 0) rfl rfl, fun U hU hW => ⟨rfl, by rw [hU]; exact hP.sub (ws' := [(h0, .inr (1, [.ref h4, .ref s2, .ref s3, .ref p4, .ref p5, .ref p6, .int fr])), (h4, .inr (4, [.ref a1, .ref a2, .ref a3, .int (nI n), .int sn, .int sg])), (a1, .inl (cI, 9, .inl fg)), (a2, .inl (cI, 9, .inl fb)), (a3, .inl (cI, 9, .inl fp)), (s2, .inr (3, [.ref b1, .ref b2, .int pt, .int rc, .int (nI y)])), (b1, .inl (cJ, 320, .inr (.inl fw))), (s3, .inr (2, [.ref ra, .int (nI q)])), (ra, .inl (cI, 9, .inl qr))]) [0, 1, 2, 3, 4, 5, 6, 7, 8] rfl, hKN.warm hW⟩⟩ rfl rfl hl.1 rfl (lv_room (Nat.le_of_ble_eq_true rfl)) dX1_orderWorstFrom_59 ⟨Nat.le_of_ble_eq_true rfl, Nat.le_of_ble_eq_true rfl⟩) hS hP (fun r5 H locs w5r hP hS => ?_)
        have w5 : True := w5r
        clear w5r
        refine va_mmax hx hb (by rw [hml]; exact hl.1.symm) hown (hts (.methodLink RX1 95 Lib.Math.max.name) (by decide +kernel)) (hts (.static Lib.Math.max.name) (by decide +kernel)) (hts (.initialized "java/lang/Math") (by decide +kernel)) (hts (.code Lib.Math.max.name Lib.Math.max.code 2 (some .int)) (by decide +kernel)) (show 1 ≤ (k + 1) + 4 by omega) (Nat.le_trans (m := 30) (Nat.le_of_ble_eq_true rfl) (show 30 ≤ (k + 1) * 26 + 90 by omega)) (Nat.le_of_ble_eq_true rfl) (Nat.le_of_ble_eq_true rfl) dX1_orderWorstFrom_62 ?_
        rw [← hQ]
        exact W.iret (v := if r4 < r5 then r5 else r4) hx hb hr (fun tS htS hWS => ⟨⟨(if r4 < r5 then r5 else r4), (), rfl, trivial, trivial⟩, hS.F htS⟩) hS.2.2 dX1_orderWorstFrom_65
      · exact absurd c3 (nI_ne1 (by omega))
def rm_c_X1_orderMean : Room := { frames := 14, cells := 0, slots := 0, locals := 350 }
set_option maxHeartbeats 400000 in
set_option maxRecDepth 100000 in
theorem c_X1_orderMean (l : Launch) (D : va_G) (cI cJ cZ : ClassId) (h0 : Nat) (h4 : Nat) (s2 : Nat) (s3 : Nat) (p4 : Nat) (p5 : Nat) (p6 : Nat) (a1 : Nat) (a2 : Nat) (a3 : Nat) (n : Nat) (b1 : Nat) (b2 : Nat) (y : Nat) (ra : Nat) (q : Nat) (lk : Nat) (gd : Nat) (pt : Int32) (rc : Int32) (fr : Int32) (fw : Nat → Int64) (qr : Nat → Int32) (fg : Nat → Int32) (fb : Nat → Int32) (fp : Nat → Int32) (hn : n ≤ 9) (hy : y < 40) (hq : q ≤ 9) (hlk : lk < 2 ^ n) (hgd : gd < 512) (hrow : ∀ z, z < q → ∃ x, x < n ∧ qr z = nI x) : Met l yX1_orderMean wsX1_orderMean rm_c_X1_orderMean (pc_ D cI cJ cZ [.ref h0] [(h0, .inr (1, [.ref h4, .ref s2, .ref s3, .ref p4, .ref p5, .ref p6, .int fr])), (h4, .inr (4, [.ref a1, .ref a2, .ref a3, .int (nI n), .int (nI lk), .int (nI gd)])), (a1, .inl (cI, 9, .inl fg)), (a2, .inl (cI, 9, .inl fb)), (a3, .inl (cI, 9, .inl fp)), (s2, .inr (3, [.ref b1, .ref b2, .int pt, .int rc, .int (nI y)])), (b1, .inl (cJ, 320, .inr (.inl fw))), (s3, .inr (2, [.ref ra, .int (nI q)])), (ra, .inl (cI, 9, .inl qr))]) (va_Ql (fun (r : Int64) (_ : Unit) => True) (fun _ _ => True) aN) 0 0 aN := by
  refine Met.ofW (cc := cX1_orderMean) (maxL := 1) (ret := (some .long)) (by decide) rfl ?_
  intro p e s m args below meth c s₁ B hml hv
  obtain ⟨rfl, hP, hKN⟩ := hv
  have hK := hKN.1
  have hx := B.exec
  have hb := B.bytes
  have hr := B.returns
  have hts := atoms_spec (ws := wsX1_orderMean) B.pre
  have hown : s.vm.findClass RX1 = some m.cls := findClass_of_methodNamed B.named
  have hlocks := B.notSynchronized
  have hiX1 : ∀ w ∈ wsX10, w ∈ wsX1_orderMean := by decide +kernel
  have hiX4 : ∀ w ∈ wsX40, w ∈ wsX1_orderMean := by decide +kernel
  have hf22 := hts (.fieldLink RX1 22 "LookBench$Plans" "shelf" "LLookBench$Shelf;") (by decide +kernel)
  have hf45 := va_Nw.use (A := [.ref h0].toArray) rfl (hKN.2 (.fieldLinkNest RX1 45 RX4 "seen" "I" RX6) (by decide +kernel))
  have hf51 := va_Nw.use (A := [.ref h0].toArray) rfl (hKN.2 (.fieldLinkNest RX1 51 RX4 "seenGood" "I" RX6) (by decide +kernel))
  have hS : va_S aN s.heap s.heap [] := va_S.rf
  have hl := lv_entry ([.ref h0]) (n := 1) (Nat.le_of_ble_eq_true rfl)
  rw [lg_entry_eq]
  generalize (lg_sl ([.ref h0]) ++ List.replicate (1 - (lg_sl ([.ref h0])).length) Slot.unset).toArray = ls at hl ⊢
  have hl : lv_has ls 1 [(0, .ref h0)] := hl
  generalize hQ : MQ below _ _ s _ _ _ = Q
  obtain ⟨H, hH⟩ : ∃ z, z = s.heap := ⟨_, rfl⟩
  have hP : va_P D vwCl [(h0, .inr (1, [.ref h4, .ref s2, .ref s3, .ref p4, .ref p5, .ref p6, .int fr])), (h4, .inr (4, [.ref a1, .ref a2, .ref a3, .int (nI n), .int (nI lk), .int (nI gd)])), (a1, .inl (cI, 9, .inl fg)), (a2, .inl (cI, 9, .inl fb)), (a3, .inl (cI, 9, .inl fp)), (s2, .inr (3, [.ref b1, .ref b2, .int pt, .int rc, .int (nI y)])), (b1, .inl (cJ, 320, .inr (.inl fw))), (s3, .inr (2, [.ref ra, .int (nI q)])), (ra, .inl (cI, 9, .inl qr))] H := by rw [hH]; exact hP
  have hS : va_S aN s.heap H [] := by rw [hH]; exact hS
  refine m_heap hH ?_
  clear hH
  refine lv_aload_n hx hb dX1_orderMean_0 rfl (lv_at hl 0 rfl) ?_
  refine lv_aload_n hx hb dX1_orderMean_1 rfl (lv_at hl 0 rfl) ?_
  refine va_get (D := D) (ci := 1) (v := .ref h4) (C := RX1) (T := TX1) (N := 7) hx hb hts hiX1 hown hK hP 0 rfl rfl 0 (by decide) hf22 (fun _ h9 => h9) rfl dX1_orderMean_2 ?_
  refine va_getN (D := D) (ci := 4) (v := .int (nI lk)) (C := RX4) (T := TX4) (N := 6) hx hb hts hiX4 hown hK hP 1 rfl rfl 4 (by decide) hf45 (fun _ h9 => h9) rfl dX1_orderMean_5 ?_
  refine lv_aload_n hx hb dX1_orderMean_8 rfl (lv_at hl 0 rfl) ?_
  refine va_get (D := D) (ci := 1) (v := .ref h4) (C := RX1) (T := TX1) (N := 7) hx hb hts hiX1 hown hK hP 0 rfl rfl 0 (by decide) hf22 (fun _ h9 => h9) rfl dX1_orderMean_9 ?_
  refine va_getN (D := D) (ci := 4) (v := .int (nI gd)) (C := RX4) (T := TX4) (N := 6) hx hb hts hiX4 hown hK hP 1 rfl rfl 5 (by decide) hf51 (fun _ h9 => h9) rfl dX1_orderMean_12 ?_
  refine lv_iconst (v := nI 0) hx hb dX1_orderMean_15 (by decide) ?_
  refine pu_l (va_runV (As := [.int (nI lk), .int (nI gd), .int (nI 0)]) (rest := []) ⟨hx, hb, hml, hown, hts⟩ (c_X1_orderMeanFrom l D cI cJ cZ n h0 h4 s2 s3 p4 p5 p6 a1 a2 a3 n b1 b2 y ra q lk gd pt rc (nI lk) (nI gd) fr fw qr (nI 0) fg fb fp (by first | assumption | omega) (by first | assumption | omega) (by first | assumption | omega) (by first | assumption | omega) (by first | assumption | omega) (by first | assumption | omega) (by exact cz_le lk n)) (cwV 3 hts gX1_orderMean_X1_orderMeanFrom rfl rfl rfl (by decide +kernel) ⟨(show n + 4 + 1 ≤ 14 by omega), (show 8 + (7 + 11) + (n * 26 + 90) ≤ 350 by omega)⟩) ⟨pc_blind, va_recv hK hP (ci := 1) (q0 := 0) rfl rfl, fun U hU hW => ⟨rfl, by rw [hU]; exact hP.sub (ws' := [(h0, .inr (1, [.ref h4, .ref s2, .ref s3, .ref p4, .ref p5, .ref p6, .int fr])), (h4, .inr (4, [.ref a1, .ref a2, .ref a3, .int (nI n), .int (nI lk), .int (nI gd)])), (a1, .inl (cI, 9, .inl fg)), (a2, .inl (cI, 9, .inl fb)), (a3, .inl (cI, 9, .inl fp)), (s2, .inr (3, [.ref b1, .ref b2, .int pt, .int rc, .int (nI y)])), (b1, .inl (cJ, 320, .inr (.inl fw))), (s3, .inr (2, [.ref ra, .int (nI q)])), (ra, .inl (cI, 9, .inl qr))]) [0, 1, 2, 3, 4, 5, 6, 7, 8] rfl, hKN.warm hW⟩⟩ rfl rfl hl.1 rfl (lv_room (Nat.le_of_ble_eq_true rfl)) dX1_orderMean_16 ⟨Nat.le_of_ble_eq_true rfl, Nat.le_of_ble_eq_true rfl⟩) hS hP (fun r1 H locs w1r hP hS => ?_)
  have w1 : True := w1r
  clear w1r
  rw [← hQ]
  exact W.lret (v := r1) hx hb hr (fun tS htS hWS => ⟨⟨r1, (), rfl, trivial, trivial⟩, hS.F htS⟩) hS.2.2 dX1_orderMean_19
def rm_c_X1_orderWorst : Room := { frames := 14, cells := 0, slots := 0, locals := 350 }
set_option maxHeartbeats 400000 in
set_option maxRecDepth 100000 in
theorem c_X1_orderWorst (l : Launch) (D : va_G) (cI cJ cZ : ClassId) (h0 : Nat) (h4 : Nat) (s2 : Nat) (s3 : Nat) (p4 : Nat) (p5 : Nat) (p6 : Nat) (a1 : Nat) (a2 : Nat) (a3 : Nat) (n : Nat) (b1 : Nat) (b2 : Nat) (y : Nat) (ra : Nat) (q : Nat) (lk : Nat) (gd : Nat) (pt : Int32) (rc : Int32) (fr : Int32) (fw : Nat → Int64) (qr : Nat → Int32) (fg : Nat → Int32) (fb : Nat → Int32) (fp : Nat → Int32) (hn : n ≤ 9) (hy : y < 40) (hq : q ≤ 9) (hlk : lk < 2 ^ n) (hgd : gd < 512) (hrow : ∀ z, z < q → ∃ x, x < n ∧ qr z = nI x) : Met l yX1_orderWorst wsX1_orderWorst rm_c_X1_orderWorst (pc_ D cI cJ cZ [.ref h0] [(h0, .inr (1, [.ref h4, .ref s2, .ref s3, .ref p4, .ref p5, .ref p6, .int fr])), (h4, .inr (4, [.ref a1, .ref a2, .ref a3, .int (nI n), .int (nI lk), .int (nI gd)])), (a1, .inl (cI, 9, .inl fg)), (a2, .inl (cI, 9, .inl fb)), (a3, .inl (cI, 9, .inl fp)), (s2, .inr (3, [.ref b1, .ref b2, .int pt, .int rc, .int (nI y)])), (b1, .inl (cJ, 320, .inr (.inl fw))), (s3, .inr (2, [.ref ra, .int (nI q)])), (ra, .inl (cI, 9, .inl qr))]) (va_Qi (fun (r : Int32) (_ : Unit) => True) (fun _ _ => True) aN) 0 0 aN := by
  refine Met.ofW (cc := cX1_orderWorst) (maxL := 1) (ret := (some .int)) (by decide) rfl ?_
  intro p e s m args below meth c s₁ B hml hv
  obtain ⟨rfl, hP, hKN⟩ := hv
  have hK := hKN.1
  have hx := B.exec
  have hb := B.bytes
  have hr := B.returns
  have hts := atoms_spec (ws := wsX1_orderWorst) B.pre
  have hown : s.vm.findClass RX1 = some m.cls := findClass_of_methodNamed B.named
  have hlocks := B.notSynchronized
  have hiX1 : ∀ w ∈ wsX10, w ∈ wsX1_orderWorst := by decide +kernel
  have hiX4 : ∀ w ∈ wsX40, w ∈ wsX1_orderWorst := by decide +kernel
  have hf22 := hts (.fieldLink RX1 22 "LookBench$Plans" "shelf" "LLookBench$Shelf;") (by decide +kernel)
  have hf45 := va_Nw.use (A := [.ref h0].toArray) rfl (hKN.2 (.fieldLinkNest RX1 45 RX4 "seen" "I" RX6) (by decide +kernel))
  have hf51 := va_Nw.use (A := [.ref h0].toArray) rfl (hKN.2 (.fieldLinkNest RX1 51 RX4 "seenGood" "I" RX6) (by decide +kernel))
  have hS : va_S aN s.heap s.heap [] := va_S.rf
  have hl := lv_entry ([.ref h0]) (n := 1) (Nat.le_of_ble_eq_true rfl)
  rw [lg_entry_eq]
  generalize (lg_sl ([.ref h0]) ++ List.replicate (1 - (lg_sl ([.ref h0])).length) Slot.unset).toArray = ls at hl ⊢
  have hl : lv_has ls 1 [(0, .ref h0)] := hl
  generalize hQ : MQ below _ _ s _ _ _ = Q
  obtain ⟨H, hH⟩ : ∃ z, z = s.heap := ⟨_, rfl⟩
  have hP : va_P D vwCl [(h0, .inr (1, [.ref h4, .ref s2, .ref s3, .ref p4, .ref p5, .ref p6, .int fr])), (h4, .inr (4, [.ref a1, .ref a2, .ref a3, .int (nI n), .int (nI lk), .int (nI gd)])), (a1, .inl (cI, 9, .inl fg)), (a2, .inl (cI, 9, .inl fb)), (a3, .inl (cI, 9, .inl fp)), (s2, .inr (3, [.ref b1, .ref b2, .int pt, .int rc, .int (nI y)])), (b1, .inl (cJ, 320, .inr (.inl fw))), (s3, .inr (2, [.ref ra, .int (nI q)])), (ra, .inl (cI, 9, .inl qr))] H := by rw [hH]; exact hP
  have hS : va_S aN s.heap H [] := by rw [hH]; exact hS
  refine m_heap hH ?_
  clear hH
  refine lv_aload_n hx hb dX1_orderWorst_0 rfl (lv_at hl 0 rfl) ?_
  refine lv_aload_n hx hb dX1_orderWorst_1 rfl (lv_at hl 0 rfl) ?_
  refine va_get (D := D) (ci := 1) (v := .ref h4) (C := RX1) (T := TX1) (N := 7) hx hb hts hiX1 hown hK hP 0 rfl rfl 0 (by decide) hf22 (fun _ h9 => h9) rfl dX1_orderWorst_2 ?_
  refine va_getN (D := D) (ci := 4) (v := .int (nI lk)) (C := RX4) (T := TX4) (N := 6) hx hb hts hiX4 hown hK hP 1 rfl rfl 4 (by decide) hf45 (fun _ h9 => h9) rfl dX1_orderWorst_5 ?_
  refine lv_aload_n hx hb dX1_orderWorst_8 rfl (lv_at hl 0 rfl) ?_
  refine va_get (D := D) (ci := 1) (v := .ref h4) (C := RX1) (T := TX1) (N := 7) hx hb hts hiX1 hown hK hP 0 rfl rfl 0 (by decide) hf22 (fun _ h9 => h9) rfl dX1_orderWorst_9 ?_
  refine va_getN (D := D) (ci := 4) (v := .int (nI gd)) (C := RX4) (T := TX4) (N := 6) hx hb hts hiX4 hown hK hP 1 rfl rfl 5 (by decide) hf51 (fun _ h9 => h9) rfl dX1_orderWorst_12 ?_
  refine lv_iconst (v := nI 0) hx hb dX1_orderWorst_15 (by decide) ?_
  refine pu_i (va_runV (As := [.int (nI lk), .int (nI gd), .int (nI 0)]) (rest := []) ⟨hx, hb, hml, hown, hts⟩ (c_X1_orderWorstFrom l D cI cJ cZ n h0 h4 s2 s3 p4 p5 p6 a1 a2 a3 n b1 b2 y ra q lk gd pt rc (nI lk) (nI gd) fr fw qr (nI 0) fg fb fp (by first | assumption | omega) (by first | assumption | omega) (by first | assumption | omega) (by first | assumption | omega) (by first | assumption | omega) (by first | assumption | omega) (by exact cz_le lk n)) (cwV 3 hts gX1_orderWorst_X1_orderWorstFrom rfl rfl rfl (by decide +kernel) ⟨(show n + 4 + 1 ≤ 14 by omega), (show 8 + (7 + 11) + (n * 26 + 90) ≤ 350 by omega)⟩) ⟨pc_blind, va_recv hK hP (ci := 1) (q0 := 0) rfl rfl, fun U hU hW => ⟨rfl, by rw [hU]; exact hP.sub (ws' := [(h0, .inr (1, [.ref h4, .ref s2, .ref s3, .ref p4, .ref p5, .ref p6, .int fr])), (h4, .inr (4, [.ref a1, .ref a2, .ref a3, .int (nI n), .int (nI lk), .int (nI gd)])), (a1, .inl (cI, 9, .inl fg)), (a2, .inl (cI, 9, .inl fb)), (a3, .inl (cI, 9, .inl fp)), (s2, .inr (3, [.ref b1, .ref b2, .int pt, .int rc, .int (nI y)])), (b1, .inl (cJ, 320, .inr (.inl fw))), (s3, .inr (2, [.ref ra, .int (nI q)])), (ra, .inl (cI, 9, .inl qr))]) [0, 1, 2, 3, 4, 5, 6, 7, 8] rfl, hKN.warm hW⟩⟩ rfl rfl hl.1 rfl (lv_room (Nat.le_of_ble_eq_true rfl)) dX1_orderWorst_16 ⟨Nat.le_of_ble_eq_true rfl, Nat.le_of_ble_eq_true rfl⟩) hS hP (fun r1 H locs w1r hP hS => ?_)
  have w1 : True := w1r
  clear w1r
  rw [← hQ]
  exact W.iret (v := r1) hx hb hr (fun tS htS hWS => ⟨⟨r1, (), rfl, trivial, trivial⟩, hS.F htS⟩) hS.2.2 dX1_orderWorst_19
