theorem subs_and {lk j n : Nat} : SUBS lk (j &&& lk) n := fun z _ h => by
  have a := and_bit j lk z
  have l : (j &&& lk) / 2 ^ z % 2 < 2 := Nat.mod_lt _ (by decide)
  by_cases q : (j &&& lk) / 2 ^ z % 2 = 1
  · have := (a.mp q).2
    omega
  · omega
theorem and_ltr {j v n : Nat} (h : v < 2 ^ n) : j &&& v < 2 ^ n := Nat.lt_of_le_of_lt Nat.and_le_right h
theorem nv_ex {fw : Nat → Int64} {y gd lk n : Nat} (hl : lk < 2 ^ n) (h : NV fw y gd ((2 ^ n - 1) ^^^ lk)) : ¬ ∀ z, z < n → ¬ lk / 2 ^ z % 2 = 0 := by
  intro g
  have h2p := m_powp n
  have e : (2 ^ n - 1) ^^^ lk = 0 := bits_eq (m_x9 (by omega) hl) h2p (fun z hz => by
    rw [xor_bit hz, Nat.zero_div]
    exact ⟨fun q => absurd q (g z hz), fun q => absurd q (by decide)⟩)
  have a := h.1
  have b := h.2
  rw [e, Nat.or_zero] at b
  exact a b
theorem cz_none {S : Nat → Prop} {lk gd n : Nat} (h : cz lk n = 0) : ¬ US S n 2 1 (stN lk gd n) := by
  intro u
  obtain ⟨z, hz, hd⟩ := uns_ex u
  have b := (xor_bit (n := n) hz).mp ((st_bit (lk := lk) (gd := gd) hz).mpr hd)
  have := cz_pos b n hz
  omega
theorem RUNP.mono {NX NX' : Nat → Nat → Prop} {U : Nat → Prop} {fp : Nat → Int32} {st : Nat → Nat → Nat} (g : ∀ s x, NX s x → NX' s x) : ∀ {k s : Nat} {v : Int32}, RUNP NX U fp st k s v → RUNP NX' U fp st k s v
  | 0, s, v, h => h
  | k + 1, s, v, h => by
    obtain ⟨a, x, w, b, c, e⟩ := h
    exact ⟨a, x, w, g s x b, RUNP.mono g c, e⟩
/-- the next part of the order, in the state s of the class -/
def NXO (qr : Nat → Int32) (q n s x : Nat) : Prop := x < n ∧ ONR qr q n (fun z => s / 3 ^ z % 3 = 0) (nI x)
theorem nxo {qr : Nat → Int32} {q n lk gd x : Nat} (hx : x < n) (h : ONR qr q n (fun z => lk / 2 ^ z % 2 = 0) (nI x)) : NXO qr q n (stN lk gd n) x := ⟨hx, h.cong (fun z hz => by rw [← st_bit (lk := lk) hz, xor_bit hz])⟩
def NXR (S : Nat → Prop) (n : Nat) (fg fb fp qr : Nat → Int32) (q : Nat) (wh : Int32) (s x : Nat) : Prop := (wh = nI 2 → NXO qr q n s x) ∧ (¬ wh = nI 2 → NXV S n fg fb fp (if wh = nI 0 then 0 else 1) s x)
/-- the next part in the state c of the reference -/
def NXM (S : Nat → Prop) (n : Nat) (W : Nat → Int64) (fp vo : Nat → Int32) (q : Nat) (wh : Int32) (c x : Nat) : Prop := x < n ∧ c / 3 ^ x % 3 = 0 ∧ (wh = nI 2 → ONR vo q n (fun z => c / 3 ^ z % 3 = 0) (nI x)) ∧ (¬ wh = nI 2 → ∃ (e : Nat → Int64) (nb u nw : Nat → Int32), (∀ z, z < 3 ^ n → RM S n W fp e nb u nw z) ∧ (wh = nI 0 → nb c = nI x) ∧ (¬ wh = nI 0 → nw c = nI x))

theorem run_to {S U : Nat → Prop} {n q j sa sv x : Nat} {fg fb fp qr : Nat → Int32} {wh r : Int32} {NX : Nat → Nat → Prop} (hj : j < 512) (ha : sa < 512) (hv : sv < 512) (hf : nI j &&& nI sa = nI sv) (hN : ∀ s x, NX s x → NXR S n fg fb fp qr q wh s x) (h : RUNP NX U fp (stX j) x (stN sa (j &&& sa) n) r) : RUNP (NXR S n fg fb fp qr q wh) U fp (stX (nI j).toInt.toNat) x (stN sa sv n) r := by
  have e : j &&& sa = sv := by
    rw [mb_and] at hf
    exact (nI_eq (Nat.lt_of_le_of_lt Nat.and_le_left (by omega)) (by omega)).mp hf
  rw [m_tn (by omega), ← e]
  exact h.mono hN
theorem nxr0 {S : Nat → Prop} {n q : Nat} {fg fb fp qr : Nat → Int32} : ∀ s x, NXV S n fg fb fp 0 s x → NXR S n fg fb fp qr q (nI 0) s x := fun s x h => ⟨fun e => absurd e (by decide), fun _ => by rw [if_pos rfl]; exact h⟩
theorem nxr1 {S : Nat → Prop} {n q : Nat} {fg fb fp qr : Nat → Int32} : ∀ s x, NXV S n fg fb fp 1 s x → NXR S n fg fb fp qr q (nI 1) s x := fun s x h => ⟨fun e => absurd e (by decide), fun _ => by rw [if_neg (by decide)]; exact h⟩
theorem nxr2 {S : Nat → Prop} {n q : Nat} {fg fb fp qr : Nat → Int32} : ∀ s x, NXO qr q n s x → NXR S n fg fb fp qr q (nI 2) s x := fun s x h => ⟨fun _ => h, fun e => absurd rfl e⟩
theorem w02 {v : Nat} (h : v ≤ 2) : 0 ≤ (nI v).toInt ∧ (nI v).toInt ≤ 2 := by
  rw [nI_toInt (by omega)]
  omega
def rm_c_X2_firstOutside_v : Room := { frames := 0, cells := 0, slots := 0, locals := 0 }
set_option maxHeartbeats 400000 in
set_option maxRecDepth 100000 in
theorem c_X2_firstOutside_v (l : Launch) (D : va_G) (cI cJ cZ : ClassId) (h0 : Nat) (r1 : Nat) (q : Nat) (n : Nat) (lk : Nat) (fr : Nat → Int32) (hn : n ≤ 9) (hq : q ≤ 9) (hlk : lk < 512) (hrow : ∀ z, z < q → ∃ x, x < n ∧ fr z = nI x) : Met l yX2_firstOutside wsX2_firstOutside rm_c_X2_firstOutside_v (pc_ D cI cJ cZ [.ref h0, .int (nI lk), .int (nI n)] [(h0, .inr (2, [.ref r1, .int (nI q)])), (r1, .inl (cI, 9, .inl fr))]) (va_Qi (fun (r : Int32) (_ : Unit) => ONR fr q n (fun z => lk / 2 ^ z % 2 = 0) r) (fun _ _ => True) aN) 0 0 aN := by
  refine Met.ofW (cc := cX2_firstOutside) (maxL := 4) (ret := (some .int)) (by decide) rfl ?_
  intro p e s m args below meth c s₁ B hml hv
  obtain ⟨rfl, hP, hKN⟩ := hv
  have hK := hKN.1
  have hx := B.exec
  have hb := B.bytes
  have hr := B.returns
  have hts := atoms_spec (ws := wsX2_firstOutside) B.pre
  have hown : s.vm.findClass RX2 = some m.cls := findClass_of_methodNamed B.named
  have hlocks := B.notSynchronized
  have hiX2 : ∀ w ∈ wsX20, w ∈ wsX2_firstOutside := by decide +kernel
  have hf9 := hts (.fieldLink RX2 9 "LookBench$Queue" "row" "[I") (by decide +kernel)
  have hf15 := hts (.fieldLink RX2 15 "LookBench$Queue" "count" "I") (by decide +kernel)
  have hS : va_S aN s.heap s.heap [] := va_S.rf
  have hl := lv_entry ([.ref h0, .int (nI lk), .int (nI n)]) (n := 4) (Nat.le_of_ble_eq_true rfl)
  rw [lg_entry_eq]
  generalize (lg_sl ([.ref h0, .int (nI lk), .int (nI n)]) ++ List.replicate (4 - (lg_sl ([.ref h0, .int (nI lk), .int (nI n)])).length) Slot.unset).toArray = ls at hl ⊢
  have hl : lv_has ls 4 [(0, .ref h0), (1, .int (nI lk)), (2, .int (nI n))] := hl
  generalize hQ : MQ below _ _ s _ _ _ = Q
  obtain ⟨H, hH⟩ : ∃ z, z = s.heap := ⟨_, rfl⟩
  have hP : va_P D vwCl [(h0, .inr (2, [.ref r1, .int (nI q)])), (r1, .inl (cI, 9, .inl fr))] H := by rw [hH]; exact hP
  have hS : va_S aN s.heap H [] := by rw [hH]; exact hS
  refine m_heap hH ?_
  clear hH
  refine lv_iconst (v := nI 0) hx hb dX2_firstOutside_0 (by decide) ?_
  refine lv_istore_n (lv' := [(3, .int (nI 0)), (0, .ref h0), (1, .int (nI lk)), (2, .int (nI n))]) hx hb dX2_firstOutside_1 rfl hl (by decide) rfl (fun ls hl => ?_)
  have loop1 : ∀ (fu : Nat) (k : Nat) (H : Heap) (locs : List Loc) (ls : Array Slot), (k ≤ q ∧ q < k + fu) → (∀ j, j < k → ∀ w, w < n → fr j = nI w → ¬ lk / 2 ^ w % 2 = 0) → va_P D vwCl [(h0, .inr (2, [.ref r1, .int (nI q)])), (r1, .inl (cI, 9, .inl fr))] H → va_S aN s.heap H locs → lv_has ls 4 [(3, .int (nI k)), (0, .ref h0), (1, .int (nI lk)), (2, .int (nI n))] → W p l e (headSpec wsX2_firstOutside rm_c_X2_firstOutside_v).room s m ([.ref h0, .int (nI lk), .int (nI n)] : List Value).toArray below meth c H locs 0 0 Q (F0 m 2 ls []) := by
    intro fu
    induction fu with
    | zero => intro k H locs ls hk hno; exact absurd hk (by omega)
    | succ fu ih1 =>
      intro k H locs ls hk hno hP hS hl
      refine lv_iload_n hx hb dX2_firstOutside_2 rfl (lv_at hl 0 rfl) ?_
      refine lv_aload_n hx hb dX2_firstOutside_3 rfl (lv_at hl 1 rfl) ?_
      refine va_get (D := D) (ci := 2) (v := .int (nI q)) (C := RX2) (T := TX2) (N := 2) hx hb hts hiX2 hown hK hP 0 rfl rfl 1 (by decide) hf15 (fun _ h9 => h9) rfl dX2_firstOutside_4 ?_
      refine lv_icmp_ge (tgt := 36) hx hb dX2_firstOutside_7 (by decide) (fun c2 => ?_) (fun c2 => ?_)
      · skip
        have d2 := c2
        rw [nI_leI (by omega) (by omega)] at d2
        refine lv_iconst (v := nI 0) hx hb dX2_firstOutside_36 (by decide) ?_
        refine lv_istore_n (lv' := [(3, .int (nI 0)), (0, .ref h0), (1, .int (nI lk)), (2, .int (nI n))]) hx hb dX2_firstOutside_37 rfl hl (by decide) rfl (fun ls hl => ?_)
        have loop3 : ∀ (fu : Nat) (t : Nat) (H : Heap) (locs : List Loc) (ls : Array Slot), (t ≤ n ∧ n < t + fu) → (∀ z, z < t → ¬ lk / 2 ^ z % 2 = 0) → va_P D vwCl [(h0, .inr (2, [.ref r1, .int (nI q)])), (r1, .inl (cI, 9, .inl fr))] H → va_S aN s.heap H locs → lv_has ls 4 [(3, .int (nI t)), (0, .ref h0), (1, .int (nI lk)), (2, .int (nI n))] → W p l e (headSpec wsX2_firstOutside rm_c_X2_firstOutside_v).room s m ([.ref h0, .int (nI lk), .int (nI n)] : List Value).toArray below meth c H locs 0 0 Q (F0 m 38 ls []) := by
          intro fu
          induction fu with
          | zero => intro t H locs ls ht hi; exact absurd ht (by omega)
          | succ fu ih3 =>
            intro t H locs ls ht hi hP hS hl
            refine lv_iload_n hx hb dX2_firstOutside_38 rfl (lv_at hl 0 rfl) ?_
            refine lv_iload_n hx hb dX2_firstOutside_39 rfl (lv_at hl 3 rfl) ?_
            refine lv_icmp_ge (tgt := 59) hx hb dX2_firstOutside_40 (by decide) (fun c4 => ?_) (fun c4 => ?_)
            · skip
              have d4 := c4
              rw [nI_leI (by omega) (by omega)] at d4
              refine lv_iconst (v := (-1 : Int32)) hx hb dX2_firstOutside_59 (by decide) ?_
              rw [← hQ]
              exact W.iret (v := (-1 : Int32)) hx hb hr (fun tS htS hWS => ⟨⟨(-1 : Int32), (), rfl, Or.inr ⟨fun j hj => hno j (by omega), Or.inr ⟨rfl, fun z hz => hi z (by omega)⟩⟩, trivial⟩, hS.F htS⟩) hS.2.2 dX2_firstOutside_60
            · skip
              have d4 := c4
              rw [nI_leI (by omega) (by omega)] at d4
              refine lv_iload_n hx hb dX2_firstOutside_43 rfl (lv_at hl 2 rfl) ?_
              refine lv_iload_n hx hb dX2_firstOutside_44 rfl (lv_at hl 0 rfl) ?_
              refine lv_ishr hx hb dX2_firstOutside_45 ?_
              refine cn_i (y := nI (lk / 2 ^ t)) (m_shr (by omega) (by omega)) ?_
              refine lv_iconst (v := nI 1) hx hb dX2_firstOutside_46 (by decide) ?_
              refine lv_iand hx hb dX2_firstOutside_47 ?_
              refine cn_i (y := nI ((lk / 2 ^ t) % 2)) (m_andn1 (by first | omega | exact Nat.lt_of_le_of_lt (Nat.div_le_self _ _) (by omega))) ?_
              refine lv_if_ne (tgt := 53) hx hb dX2_firstOutside_48 (by decide) (fun c5 => ?_) (fun c5 => ?_)
              · skip
                have d5 := c5
                rw [nz_eq (by omega)] at d5
                refine lv_iinc (v := nI (t + 1)) (lv' := [(3, .int (nI (t + 1))), (0, .ref h0), (1, .int (nI lk)), (2, .int (nI n))]) hx hb dX2_firstOutside_53 hl (k := 0) rfl (nI_1 t) (by decide) rfl (fun ls hl => ?_)
                refine lv_goto (tgt := 38) hx hb dX2_firstOutside_56 (by decide) ?_
                exact ih3 (t + 1) _ _ _ (by omega) (fun z hz => by rcases Nat.lt_or_ge z t with h | h; exact hi z h; exact (by have e9 : z = t := (by omega); subst e9; assumption)) hP hS (lv_sub hl [0, 1, 2, 3] rfl)
              · skip
                have d5 := c5
                rw [nz_eq (by omega)] at d5
                refine lv_iload_n hx hb dX2_firstOutside_51 rfl (lv_at hl 0 rfl) ?_
                rw [← hQ]
                exact W.iret (v := nI t) hx hb hr (fun tS htS hWS => ⟨⟨(nI t), (), rfl, Or.inr ⟨fun j hj => hno j (by omega), Or.inl ⟨t, by omega, rfl, by omega, hi⟩⟩, trivial⟩, hS.F htS⟩) hS.2.2 dX2_firstOutside_52
        exact loop3 (n + 1) 0 _ _ _ (by omega) (fun z hz => absurd hz (by omega)) hP hS (lv_sub hl [0, 1, 2, 3] rfl)
      · skip
        have d2 := c2
        rw [nI_leI (by omega) (by omega)] at d2
        refine lv_iload_n hx hb dX2_firstOutside_10 rfl (lv_at hl 2 rfl) ?_
        refine lv_aload_n hx hb dX2_firstOutside_11 rfl (lv_at hl 1 rfl) ?_
        refine va_get (D := D) (ci := 2) (v := .ref r1) (C := RX2) (T := TX2) (N := 2) hx hb hts hiX2 hown hK hP 0 rfl rfl 0 (by decide) hf9 (fun _ h9 => h9) rfl dX2_firstOutside_12 ?_
        refine lv_iload_n hx hb dX2_firstOutside_15 rfl (lv_at hl 0 rfl) ?_
        obtain ⟨x9, hx9, ex9⟩ := hrow k (by omega)
        refine va_iald hx hb hK hP 1 0 rfl rfl (i := nI k) (vp_in_nI (by omega) (by omega)) dX2_firstOutside_16 ?_
        refine cn_i (y := nI x9) ((congrArg fr (nI_clamp (by omega))).trans ex9) ?_
        refine lv_ishr hx hb dX2_firstOutside_17 ?_
        refine cn_i (y := nI (lk / 2 ^ x9)) (m_shr (by omega) (by omega)) ?_
        refine lv_iconst (v := nI 1) hx hb dX2_firstOutside_18 (by decide) ?_
        refine lv_iand hx hb dX2_firstOutside_19 ?_
        refine cn_i (y := nI ((lk / 2 ^ x9) % 2)) (m_andn1 (by first | omega | exact Nat.lt_of_le_of_lt (Nat.div_le_self _ _) (by omega))) ?_
        refine lv_if_ne (tgt := 30) hx hb dX2_firstOutside_20 (by decide) (fun c6 => ?_) (fun c6 => ?_)
        · skip
          have d6 := c6
          rw [nz_eq (by omega)] at d6
          refine lv_iinc (v := nI (k + 1)) (lv' := [(3, .int (nI (k + 1))), (0, .ref h0), (1, .int (nI lk)), (2, .int (nI n))]) hx hb dX2_firstOutside_30 hl (k := 0) rfl (nI_1 k) (by decide) rfl (fun ls hl => ?_)
          refine lv_goto (tgt := 2) hx hb dX2_firstOutside_33 (by decide) ?_
          exact ih1 (k + 1) _ _ _ (by omega) (fun j hj w hw e q9 => by by_cases e8 : j = k; exact (by subst e8; have e7 := nI_inn hn hx9 hw (ex9.symm.trans e); subst e7; first | omega | exact absurd q9 (by assumption)); exact hno j (by omega) w hw e q9) hP hS (lv_sub hl [0, 1, 2, 3] rfl)
        · skip
          have d6 := c6
          rw [nz_eq (by omega)] at d6
          refine lv_aload_n hx hb dX2_firstOutside_23 rfl (lv_at hl 1 rfl) ?_
          refine va_get (D := D) (ci := 2) (v := .ref r1) (C := RX2) (T := TX2) (N := 2) hx hb hts hiX2 hown hK hP 0 rfl rfl 0 (by decide) hf9 (fun _ h9 => h9) rfl dX2_firstOutside_24 ?_
          refine lv_iload_n hx hb dX2_firstOutside_27 rfl (lv_at hl 0 rfl) ?_
          refine va_iald hx hb hK hP 1 0 rfl rfl (i := nI k) (vp_in_nI (by omega) (by omega)) dX2_firstOutside_28 ?_
          refine cn_i (y := nI x9) ((congrArg fr (nI_clamp (by omega))).trans ex9) ?_
          rw [← hQ]
          exact W.iret (v := nI x9) hx hb hr (fun tS htS hWS => ⟨⟨(nI x9), (), rfl, Or.inl ⟨k, x9, by omega, hx9, ex9, by omega, rfl, hno⟩, trivial⟩, hS.F htS⟩) hS.2.2 dX2_firstOutside_29
  exact loop1 (q + 1) 0 _ _ _ (by omega) (fun j hj => absurd hj (by omega)) hP hS (lv_sub hl [0, 1, 2, 3] rfl)
def rm_c_X1_next_ov : Room := { frames := 3, cells := 0, slots := 0, locals := 65 }
set_option maxHeartbeats 400000 in
set_option maxRecDepth 100000 in
theorem c_X1_next_ov (l : Launch) (D : va_G) (cI cJ cZ : ClassId) (h0 : Nat) (h4 : Nat) (s2 : Nat) (s3 : Nat) (p4 : Nat) (p5 : Nat) (p6 : Nat) (a1 : Nat) (a2 : Nat) (a3 : Nat) (n : Nat) (b1 : Nat) (b2 : Nat) (y : Nat) (ra : Nat) (q : Nat) (lk : Nat) (gd : Nat) (pt : Int32) (rc : Int32) (sn : Int32) (sg : Int32) (fr : Int32) (fw : Nat → Int64) (qr : Nat → Int32) (hn : n ≤ 9) (hy : y < 40) (hq : q ≤ 9) (hlk : lk < 2 ^ n) (hgd : gd < 512) (hrow : ∀ z, z < q → ∃ x, x < n ∧ qr z = nI x) : Met l yX1_next wsX1_next rm_c_X1_next_ov (pc_ D cI cJ cZ [.ref h0, .int (nI 2), .int (nI lk), .int (nI gd)] [(h0, .inr (1, [.ref h4, .ref s2, .ref s3, .ref p4, .ref p5, .ref p6, .int fr])), (h4, .inr (4, [.ref a1, .ref a2, .ref a3, .int (nI n), .int sn, .int sg])), (s2, .inr (3, [.ref b1, .ref b2, .int pt, .int rc, .int (nI y)])), (b1, .inl (cJ, 320, .inr (.inl fw))), (s3, .inr (2, [.ref ra, .int (nI q)])), (ra, .inl (cI, 9, .inl qr))]) (va_Qi (fun (r : Int32) (_ : Unit) => (r = -1 ∧ ¬ NV fw y gd ((2 ^ n - 1) ^^^ lk)) ∨ (∃ x, r = nI x ∧ x < n ∧ lk / 2 ^ x % 2 = 0 ∧ NV fw y gd ((2 ^ n - 1) ^^^ lk) ∧ ONR qr q n (fun z => lk / 2 ^ z % 2 = 0) (nI x))) (fun _ _ => True) aN) 0 0 aN := by
  refine Met.ofW (cc := cX1_next) (maxL := 6) (ret := (some .int)) (by decide) rfl ?_
  intro p e s m args below meth c s₁ B hml hv
  obtain ⟨rfl, hP, hKN⟩ := hv
  have hK := hKN.1
  have hx := B.exec
  have hb := B.bytes
  have hr := B.returns
  have hts := atoms_spec (ws := wsX1_next) B.pre
  have hown : s.vm.findClass RX1 = some m.cls := findClass_of_methodNamed B.named
  have hlocks := B.notSynchronized
  have hiX1 : ∀ w ∈ wsX10, w ∈ wsX1_next := by decide +kernel
  have hiX4 : ∀ w ∈ wsX40, w ∈ wsX1_next := by decide +kernel
  have hf22 := hts (.fieldLink RX1 22 "LookBench$Plans" "shelf" "LLookBench$Shelf;") (by decide +kernel)
  have hf26 := hts (.fieldLink RX1 26 "LookBench$Plans" "rules" "LLookBench$Rules;") (by decide +kernel)
  have hf30 := hts (.fieldLink RX1 30 "LookBench$Plans" "queue" "LLookBench$Queue;") (by decide +kernel)
  have hf57 := va_Nw.use (A := [.ref h0, .int (nI 2), .int (nI lk), .int (nI gd)].toArray) rfl (hKN.2 (.fieldLinkNest RX1 57 RX4 "count" "I" RX6) (by decide +kernel))
  have hS : va_S aN s.heap s.heap [] := va_S.rf
  have hl := lv_entry ([.ref h0, .int (nI 2), .int (nI lk), .int (nI gd)]) (n := 6) (Nat.le_of_ble_eq_true rfl)
  rw [lg_entry_eq]
  generalize (lg_sl ([.ref h0, .int (nI 2), .int (nI lk), .int (nI gd)]) ++ List.replicate (6 - (lg_sl ([.ref h0, .int (nI 2), .int (nI lk), .int (nI gd)])).length) Slot.unset).toArray = ls at hl ⊢
  have hl : lv_has ls 6 [(0, .ref h0), (1, .int (nI 2)), (2, .int (nI lk)), (3, .int (nI gd))] := hl
  generalize hQ : MQ below _ _ s _ _ _ = Q
  obtain ⟨H, hH⟩ : ∃ z, z = s.heap := ⟨_, rfl⟩
  have hP : va_P D vwCl [(h0, .inr (1, [.ref h4, .ref s2, .ref s3, .ref p4, .ref p5, .ref p6, .int fr])), (h4, .inr (4, [.ref a1, .ref a2, .ref a3, .int (nI n), .int sn, .int sg])), (s2, .inr (3, [.ref b1, .ref b2, .int pt, .int rc, .int (nI y)])), (b1, .inl (cJ, 320, .inr (.inl fw))), (s3, .inr (2, [.ref ra, .int (nI q)])), (ra, .inl (cI, 9, .inl qr))] H := by rw [hH]; exact hP
  have hS : va_S aN s.heap H [] := by rw [hH]; exact hS
  refine m_heap hH ?_
  clear hH
  have h2n := m_pow hn
  have h2p := m_powp n
  have hu9 : (2 ^ n - 1) ^^^ lk < 512 := m_x512 (by omega) (by omega)
  refine lv_iconst (v := nI 1) hx hb dX1_next_0 (by decide) ?_
  refine lv_aload_n hx hb dX1_next_1 rfl (lv_at hl 0 rfl) ?_
  refine va_get (D := D) (ci := 1) (v := .ref h4) (C := RX1) (T := TX1) (N := 7) hx hb hts hiX1 hown hK hP 0 rfl rfl 0 (by decide) hf22 (fun _ h9 => h9) rfl dX1_next_2 ?_
  refine va_getN (D := D) (ci := 4) (v := .int (nI n)) (C := RX4) (T := TX4) (N := 6) hx hb hts hiX4 hown hK hP 1 rfl rfl 3 (by decide) hf57 (fun _ h9 => h9) rfl dX1_next_5 ?_
  refine lv_ishl hx hb dX1_next_8 ?_
  refine cn_i (y := nI (2 ^ n)) (m_shl1 (by omega)) ?_
  refine lv_iconst (v := nI 1) hx hb dX1_next_9 (by decide) ?_
  refine lv_isub hx hb dX1_next_10 ?_
  refine cn_i (y := nI ((2 ^ n) - 1)) (pk_sub (a := (2 ^ n)) (b := 1) (by omega)) ?_
  refine lv_iload_n hx hb dX1_next_11 rfl (lv_at hl 2 rfl) ?_
  refine lv_iconst (v := (-1 : Int32)) hx hb dX1_next_12 (by decide) ?_
  refine lv_ixor hx hb dX1_next_13 ?_
  refine lv_iand hx hb dX1_next_14 ?_
  refine cn_i (y := nI ((2 ^ n - 1) ^^^ lk)) (mb_not hlk hn) ?_
  refine lv_istore (lv' := [(4, .int (nI ((2 ^ n - 1) ^^^ lk))), (0, .ref h0), (1, .int (nI 2)), (2, .int (nI lk)), (3, .int (nI gd))]) hx hb dX1_next_15 hl (by decide) rfl (fun ls hl => ?_)
  refine lv_aload_n hx hb dX1_next_17 rfl (lv_at hl 1 rfl) ?_
  refine va_get (D := D) (ci := 1) (v := .ref s2) (C := RX1) (T := TX1) (N := 7) hx hb hts hiX1 hown hK hP 0 rfl rfl 1 (by decide) hf26 (fun _ h9 => h9) rfl dX1_next_18 ?_
  refine lv_iload_n hx hb dX1_next_21 rfl (lv_at hl 4 rfl) ?_
  refine lv_iload hx hb dX1_next_22 (lv_at hl 0 rfl) ?_
  refine pu_i (va_runV (As := [.int (nI gd), .int (nI ((2 ^ n - 1) ^^^ lk))]) (rest := []) ⟨hx, hb, hml, hown, hts⟩ (c_X3_verdict l D cI cJ cZ s2 b1 b2 y gd ((2 ^ n - 1) ^^^ lk) pt rc fw (by first | assumption | omega) (by first | assumption | omega) (by first | assumption | omega)) (cwV 2 hts gX1_next_X3_verdict rfl rfl rfl (by decide +kernel) ⟨Nat.le_of_ble_eq_true rfl, Nat.le_of_ble_eq_true rfl⟩) ⟨pc_blind, va_recv hK hP (ci := 3) (q0 := 2) rfl rfl, fun U hU hW => ⟨rfl, by rw [hU]; exact hP.sub (ws' := [(s2, .inr (3, [.ref b1, .ref b2, .int pt, .int rc, .int (nI y)])), (b1, .inl (cJ, 320, .inr (.inl fw)))]) [2, 3] rfl, hKN.warm hW⟩⟩ rfl rfl hl.1 rfl (lv_room (Nat.le_of_ble_eq_true rfl)) dX1_next_24 ⟨Nat.le_of_ble_eq_true rfl, Nat.le_of_ble_eq_true rfl⟩) hS hP (fun r1 H locs w1r hP hS => ?_)
  have w1 : VD r1 fw y gd ((2 ^ n - 1) ^^^ lk) := w1r
  clear w1r
  have w1 := w1
  refine lv_iconst (v := (-1 : Int32)) hx hb dX1_next_27 (by decide) ?_
  refine lv_icmp_eq (tgt := 33) hx hb dX1_next_28 (by decide) (fun c2 => ?_) (fun c2 => ?_)
  · skip
    have hnv := VD.nv w1 c2
    refine lv_iload_n hx hb dX1_next_33 rfl (lv_at hl 2 rfl) ?_
    refine lv_iconst (v := nI 2) hx hb dX1_next_34 (by decide) ?_
    refine lv_icmp_ne (tgt := 54) hx hb dX1_next_35 (by decide) (fun c3 => ?_) (fun c3 => ?_)
    · exact absurd c3 (by first | decide | exact nz_lt (by omega) | exact fun h => h (nz_ge (by omega)))
    · skip
      refine lv_aload_n hx hb dX1_next_38 rfl (lv_at hl 1 rfl) ?_
      refine va_get (D := D) (ci := 1) (v := .ref s3) (C := RX1) (T := TX1) (N := 7) hx hb hts hiX1 hown hK hP 0 rfl rfl 2 (by decide) hf30 (fun _ h9 => h9) rfl dX1_next_39 ?_
      refine lv_iload_n hx hb dX1_next_42 rfl (lv_at hl 3 rfl) ?_
      refine lv_aload_n hx hb dX1_next_43 rfl (lv_at hl 1 rfl) ?_
      refine va_get (D := D) (ci := 1) (v := .ref h4) (C := RX1) (T := TX1) (N := 7) hx hb hts hiX1 hown hK hP 0 rfl rfl 0 (by decide) hf22 (fun _ h9 => h9) rfl dX1_next_44 ?_
      refine va_getN (D := D) (ci := 4) (v := .int (nI n)) (C := RX4) (T := TX4) (N := 6) hx hb hts hiX4 hown hK hP 1 rfl rfl 3 (by decide) hf57 (fun _ h9 => h9) rfl dX1_next_47 ?_
      refine pu_i (va_runV (As := [.int (nI lk), .int (nI n)]) (rest := []) ⟨hx, hb, hml, hown, hts⟩ (c_X2_firstOutside_v l D cI cJ cZ s3 ra q n lk qr (by first | assumption | omega) (by first | assumption | omega) (by first | assumption | omega) (by first | assumption | omega)) (cwV 2 hts gX1_next_X2_firstOutside rfl rfl rfl (by decide +kernel) ⟨Nat.le_of_ble_eq_true rfl, Nat.le_of_ble_eq_true rfl⟩) ⟨pc_blind, va_recv hK hP (ci := 2) (q0 := 4) rfl rfl, fun U hU hW => ⟨rfl, by rw [hU]; exact hP.sub (ws' := [(s3, .inr (2, [.ref ra, .int (nI q)])), (ra, .inl (cI, 9, .inl qr))]) [4, 5] rfl, hKN.warm hW⟩⟩ rfl rfl hl.1 rfl (lv_room (Nat.le_of_ble_eq_true rfl)) dX1_next_50 ⟨Nat.le_of_ble_eq_true rfl, Nat.le_of_ble_eq_true rfl⟩) hS hP (fun r4 H locs w4r hP hS => ?_)
      have w4 : ONR qr q n (fun z => lk / 2 ^ z % 2 = 0) r4 := w4r
      clear w4r
      rw [← hQ]
      exact W.iret (v := r4) hx hb hr (fun tS htS hWS => ⟨⟨r4, (), rfl, by rcases (w4).free with ⟨_, h⟩ | ⟨x, h1, h2, h3⟩; exact absurd h (nv_ex hlk hnv); exact Or.inr ⟨x, h2, h1, h3, hnv, h2 ▸ w4⟩, trivial⟩, hS.F htS⟩) hS.2.2 dX1_next_53
  · skip
    have hnv := VD.nn w1 c2
    refine lv_iconst (v := (-1 : Int32)) hx hb dX1_next_31 (by decide) ?_
    rw [← hQ]
    exact W.iret (v := (-1 : Int32)) hx hb hr (fun tS htS hWS => ⟨⟨(-1 : Int32), (), rfl, Or.inl ⟨rfl, hnv⟩, trivial⟩, hS.F htS⟩) hS.2.2 dX1_next_32
