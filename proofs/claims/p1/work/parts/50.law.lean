/-! THE CLAIM OUT OF ONE WALK OF THE LAW'S BODY. Your part is whole_start (and what it stands on); all else here is the same for every law, but numbers. -/
def R_law : String := "LookBenchLaw"
def lw_P (b : Addr) (xs : List Int32) (args : Array Value) (s : State) : Prop := args = #[.ref b] ∧ s.IntsAt b xs ∧ xs.length ≤ 6 ∧ (Jvm.Cond.and given_1 narrow_1).before args s = true
def lw_Q (_ : Array Value) (s : State) (o : Outcome) (t : State) : Prop := o = .returned (some (.int 1)) ∧ Framed s o t [] 600000 7302250
def lw_Z (below : List Frame) (a : Array Value) (s : State) : State → Prop := fun t => ∃ o, t.status = .running ∧ Ended t below o ∧ lw_Q a s o t
/-- the law's own end, with 1 on the stack, nothing written that was there before, its room as the claim has it -/
theorem lw_ret {p : Program} {l : Launch} {e : Env} {s : State} {m : MethodId} {below : List Frame} {meth : Method} {c : Code} {b : Nat} (hx : p.tables.exec = Jvm.exec) (hb : c.code = code) (hr : meth.sig.returnType = ret) (hlocks : meth.locks = false) {pc : Nat} {H : Heap} {ls : Array Slot} (hdg : decode code pc = .ok (.ireturn, 1)) : W p l e room_1 s m #[Value.ref b] below meth c H [] 600000 7302250 (lw_Z below #[Value.ref b] s) (F0 m pc ls [.int 1]) := by
  intro T hT X
  obtain ⟨fs, hret, hrun, hended, hW, hframe⟩ := X.leave (v := some (.int 1)) (hlocks := hlocks) (fun h => by rw [hr] at h; cases h)
  have hmeth' : T.vm.method? m = some meth := X.method'
  refine ⟨T.setFrames fs, ?_, .returned (some (.int 1)), hrun, hended, rfl, ⟨_, rfl⟩, hW, hframe⟩
  jvm_step X.here [X.here.top, hx, hb, hdg, hmeth', hr, ret, narrow_b1]
  (try refine ⟨rfl, ?_⟩); (try refine ⟨rfl, ?_⟩)
  first | (intro acts; rw [hret _ acts rfl rfl rfl]) | rw [hret _ _ rfl rfl rfl]
  exact Steps.refl _
/-- what holds at the law's entry: the machine, the code, the tables' words (any of lw_tbl by 'hts w (by decide +kernel)'), the script of L ints xs at the cell b, what the Statement gives of the start (any of its parts by flat_of_before) -/
def lw_At (p : Program) (s : State) (m : MethodId) (meth : Method) (c : Code) (b L : Nat) (xs : Nat → Int32) : Prop :=
  p.tables.exec = Jvm.exec ∧ c.code = code ∧ meth.sig.returnType = ret ∧ c.maxLocals = 4 ∧ s.vm.findClass R_law = some m.cls ∧ (∀ w ∈ lw_tbl, w.before #[Value.ref b] s = true) ∧ va_X b L xs s s.heap ∧ b < s.heap.size ∧ meth.locks = false ∧ (Jvm.Cond.and given_1 narrow_1).before #[Value.ref b] s = true
theorem mx_i {p : Program} {l : Launch} {e : Env} {R : Room} {s : State} {m : MethodId} {args : Array Value} {below : List Frame} {meth : Method} {c : Code} {H : Heap} {locs : List Loc} {cells slots : Nat} {Q : State → Prop} {pc : Nat} {ls : Array Slot} {rest st0 : List Value} {a : Array Value} {A0 : Nat → Prop} {H0 : Heap} {D : va_G} {cl : List vw_C} {ws wc wr : va_W} {S : Type} {post : Int32 → S → Prop} {as : List Nat} (hr : va_Run p l e R s m args below meth c H locs cells slots 0 0 (F0 m pc ls st0) rest (va_Qi post (fun _ _ => True) (aA as) a) (aA as)) (hS : va_S A0 H0 H locs) (hP : va_P D cl ws H) (hD : va_D A0 ws) (isC isR : List Nat) (hC : isC.map (fun i => ws[i]?) = wc.map some) (hA : wc.map Prod.fst = as)
    (hR : isR.map (fun i => ws[i]?) = wr.map some) (hn : va_nd isR = true) (hdis : ∀ i ∈ isR, i ∉ isC)
    (kk : ∀ (r : Int32) (u : S) (H1 : Heap) (locs1 : List Loc), post r u → va_P D cl wr H1 → va_D A0 wr → va_S A0 H0 H1 locs1 → W p l e R s m args below meth c H1 locs1 cells slots Q (F0 m (pc + 3) ls (.int r :: rest))) : W p l e R s m args below meth c H locs cells slots Q (F0 m pc ls st0) :=
  va_calli hr hS (fun q _ h => rp_free hD isC hC hA q h) (rp_free hD isC hC hA) (fun r u t H1 locs1 ht _ hw hB _ hk hS1 => by
    refine kk r u H1 locs1 hw (fun k q hq => ?_) (hD.sub isR hn hR) hS1
    have h1 : (isR.map (fun i => ws[i]?))[k]? = some (some q) := by rw [hR, List.getElem?_map, hq]; rfl
    rw [List.getElem?_map] at h1
    cases hi : isR[k]? with
    | none => rw [hi] at h1; cases h1
    | some i =>
      rw [hi] at h1
      have hwi : ws[i]? = some q := Option.some.inj h1
      refine (hP i q hwi).kept (hk q.1 (hP i q hwi).lt (fun hm => ?_))
      unfold aA at hm
      rw [← hA] at hm
      obtain ⟨q2, hq2, e2⟩ := List.mem_map.mp hm
      obtain ⟨j, hj⟩ := List.mem_iff_getElem?.mp hq2
      have h2 : (isC.map (fun i => ws[i]?))[j]? = some (some q2) := by rw [hC, List.getElem?_map, hj]; rfl
      rw [List.getElem?_map] at h2
      cases hi2 : isC[j]? with
      | none => rw [hi2] at h2; cases h2
      | some i2 =>
        rw [hi2] at h2
        have hik := hD.1 i2 i q2 q (Option.some.inj h2) hwi e2
        subst hik
        exact hdis i2 (List.mem_of_getElem? hi) (List.mem_of_getElem? hi2))

theorem m_arrK {s : State} {args : Array Value} {ty : FieldType} (h : (Cond.arrayClass ty).before args s = true) (hp : ty = .int ∨ ty = .long ∨ ty = .boolean) : ∃ cA : ClassId, ArrOfT s cA ty ∧ va_RA s cA ty := by
  obtain ⟨cA, kA, comp, h1, h2, h3⟩ := Cond.arrayClass_spec h
  refine ⟨cA, fun n z => ⟨fun k h => (by cases h), kA, h2, comp, h3⟩, ?_⟩
  rcases hp with rfl | rfl | rfl <;> exact h1
theorem m_th9 : ∀ z, z < 9 → ¬ nI (3 ^ z) = 0 := by decide +kernel
theorem m_sw22 {x : Int32} (h : ¬ (x.toInt < 0 ∨ 22 < x.toInt)) : x = nI 0 ∨ x = nI 1 ∨ x = nI 2 ∨ x = nI 3 ∨ x = nI 4 ∨ x = nI 5 ∨ x = nI 6 ∨ x = nI 7 ∨ x = nI 8 ∨ x = nI 9 ∨ x = nI 10 ∨ x = nI 11 ∨ x = nI 12 ∨ x = nI 13 ∨ x = nI 14 ∨ x = nI 15 ∨ x = nI 16 ∨ x = nI 17 ∨ x = nI 18 ∨ x = nI 19 ∨ x = nI 20 ∨ x = nI 21 ∨ x = nI 22 := by
  rcases (show x.toInt = (0 : Nat) ∨ x.toInt = (1 : Nat) ∨ x.toInt = (2 : Nat) ∨ x.toInt = (3 : Nat) ∨ x.toInt = (4 : Nat) ∨ x.toInt = (5 : Nat) ∨ x.toInt = (6 : Nat) ∨ x.toInt = (7 : Nat) ∨ x.toInt = (8 : Nat) ∨ x.toInt = (9 : Nat) ∨ x.toInt = (10 : Nat) ∨ x.toInt = (11 : Nat) ∨ x.toInt = (12 : Nat) ∨ x.toInt = (13 : Nat) ∨ x.toInt = (14 : Nat) ∨ x.toInt = (15 : Nat) ∨ x.toInt = (16 : Nat) ∨ x.toInt = (17 : Nat) ∨ x.toInt = (18 : Nat) ∨ x.toInt = (19 : Nat) ∨ x.toInt = (20 : Nat) ∨ x.toInt = (21 : Nat) ∨ x.toInt = (22 : Nat) by omega) with e | e | e | e | e | e | e | e | e | e | e | e | e | e | e | e | e | e | e | e | e | e | e
  · exact Or.inl (m_isn e (by decide))
  · exact Or.inr (Or.inl (m_isn e (by decide)))
  · exact Or.inr (Or.inr (Or.inl (m_isn e (by decide))))
  · exact Or.inr (Or.inr (Or.inr (Or.inl (m_isn e (by decide)))))
  · exact Or.inr (Or.inr (Or.inr (Or.inr (Or.inl (m_isn e (by decide))))))
  · exact Or.inr (Or.inr (Or.inr (Or.inr (Or.inr (Or.inl (m_isn e (by decide)))))))
  · exact Or.inr (Or.inr (Or.inr (Or.inr (Or.inr (Or.inr (Or.inl (m_isn e (by decide))))))))
  · exact Or.inr (Or.inr (Or.inr (Or.inr (Or.inr (Or.inr (Or.inr (Or.inl (m_isn e (by decide)))))))))
  · exact Or.inr (Or.inr (Or.inr (Or.inr (Or.inr (Or.inr (Or.inr (Or.inr (Or.inl (m_isn e (by decide))))))))))
  · exact Or.inr (Or.inr (Or.inr (Or.inr (Or.inr (Or.inr (Or.inr (Or.inr (Or.inr (Or.inl (m_isn e (by decide)))))))))))
  · exact Or.inr (Or.inr (Or.inr (Or.inr (Or.inr (Or.inr (Or.inr (Or.inr (Or.inr (Or.inr (Or.inl (m_isn e (by decide))))))))))))
  · exact Or.inr (Or.inr (Or.inr (Or.inr (Or.inr (Or.inr (Or.inr (Or.inr (Or.inr (Or.inr (Or.inr (Or.inl (m_isn e (by decide)))))))))))))
  · exact Or.inr (Or.inr (Or.inr (Or.inr (Or.inr (Or.inr (Or.inr (Or.inr (Or.inr (Or.inr (Or.inr (Or.inr (Or.inl (m_isn e (by decide))))))))))))))
  · exact Or.inr (Or.inr (Or.inr (Or.inr (Or.inr (Or.inr (Or.inr (Or.inr (Or.inr (Or.inr (Or.inr (Or.inr (Or.inr (Or.inl (m_isn e (by decide)))))))))))))))
  · exact Or.inr (Or.inr (Or.inr (Or.inr (Or.inr (Or.inr (Or.inr (Or.inr (Or.inr (Or.inr (Or.inr (Or.inr (Or.inr (Or.inr (Or.inl (m_isn e (by decide))))))))))))))))
  · exact Or.inr (Or.inr (Or.inr (Or.inr (Or.inr (Or.inr (Or.inr (Or.inr (Or.inr (Or.inr (Or.inr (Or.inr (Or.inr (Or.inr (Or.inr (Or.inl (m_isn e (by decide)))))))))))))))))
  · exact Or.inr (Or.inr (Or.inr (Or.inr (Or.inr (Or.inr (Or.inr (Or.inr (Or.inr (Or.inr (Or.inr (Or.inr (Or.inr (Or.inr (Or.inr (Or.inr (Or.inl (m_isn e (by decide))))))))))))))))))
  · exact Or.inr (Or.inr (Or.inr (Or.inr (Or.inr (Or.inr (Or.inr (Or.inr (Or.inr (Or.inr (Or.inr (Or.inr (Or.inr (Or.inr (Or.inr (Or.inr (Or.inr (Or.inl (m_isn e (by decide)))))))))))))))))))
  · exact Or.inr (Or.inr (Or.inr (Or.inr (Or.inr (Or.inr (Or.inr (Or.inr (Or.inr (Or.inr (Or.inr (Or.inr (Or.inr (Or.inr (Or.inr (Or.inr (Or.inr (Or.inr (Or.inl (m_isn e (by decide))))))))))))))))))))
  · exact Or.inr (Or.inr (Or.inr (Or.inr (Or.inr (Or.inr (Or.inr (Or.inr (Or.inr (Or.inr (Or.inr (Or.inr (Or.inr (Or.inr (Or.inr (Or.inr (Or.inr (Or.inr (Or.inr (Or.inl (m_isn e (by decide)))))))))))))))))))))
  · exact Or.inr (Or.inr (Or.inr (Or.inr (Or.inr (Or.inr (Or.inr (Or.inr (Or.inr (Or.inr (Or.inr (Or.inr (Or.inr (Or.inr (Or.inr (Or.inr (Or.inr (Or.inr (Or.inr (Or.inr (Or.inl (m_isn e (by decide))))))))))))))))))))))
  · exact Or.inr (Or.inr (Or.inr (Or.inr (Or.inr (Or.inr (Or.inr (Or.inr (Or.inr (Or.inr (Or.inr (Or.inr (Or.inr (Or.inr (Or.inr (Or.inr (Or.inr (Or.inr (Or.inr (Or.inr (Or.inr (Or.inl (m_isn e (by decide)))))))))))))))))))))))
  · exact Or.inr (Or.inr (Or.inr (Or.inr (Or.inr (Or.inr (Or.inr (Or.inr (Or.inr (Or.inr (Or.inr (Or.inr (Or.inr (Or.inr (Or.inr (Or.inr (Or.inr (Or.inr (Or.inr (Or.inr (Or.inr (Or.inr (m_isn e (by decide)))))))))))))))))))))))
theorem pO_eq {ug ub ur vg vb vr vn : Nat → Int32} {p wh : Int32} (h : ∀ z, z < 9 → ug z = nI 1 ∧ ub z = nI 1 ∧ ur z = nI 1) (g : ∀ z, z < 9 → vg z = nI 1 ∧ vb z = nI 1 ∧ vr z = nI 1 ∧ vn z = -1) : pO ug ub ur (nF (nI 0) (nI 0)) 1 p wh = pO vg vb vr vn 1 p wh := by
  unfold pO
  by_cases hp : 0 ≤ p.toInt ∧ p.toInt < (1 : Nat)
  · have e : p.toInt.toNat = 0 := by omega
    have h0 := h 0 (by omega)
    have g0 := g 0 (by omega)
    rw [if_pos hp, if_pos hp, e, h0.1, h0.2.1, h0.2.2, g0.1, g0.2.1, g0.2.2.1, g0.2.2.2, show nF (nI 0) (nI 0) 0 = -1 by decide]
  · rw [if_neg hp, if_neg hp]
theorem told_eq {ug ub ur vg vb vr vn th : Nat → Int32} {wh : Int32} (h : ∀ z, z < 9 → ug z = nI 1 ∧ ub z = nI 1 ∧ ur z = nI 1) (g : (∀ z, z < 9 → vg z = nI 1 ∧ vb z = nI 1 ∧ vr z = nI 1 ∧ vn z = -1) ∧ (∀ z, z < 9 → th z = nI (3 ^ z))) : (if wh = 0 then lf ug ub (nI 0) (nI 0) 1 else -2) = (if wh = 0 then mlf vg vb th (mnow th vn 1) 1 else -2) := by
  have h0 := h 0 (by omega)
  have g0 := g.1 0 (by omega)
  have t0 := g.2 0 (by omega)
  have e1 : lf ug ub (nI 0) (nI 0) 1 = lN 2 := by
    simp only [lf]
    rw [h0.1, h0.2.1]
    decide
  have e2 : mnow th vn 1 = nI 0 := by
    simp only [mnow]
    rw [g0.2.2.2, t0]
    decide
  have e3 : mlf vg vb th (nI 0) 1 = lN 2 := by
    have d0 : dgt th (nI 0) 0 = nI 0 := by
      unfold dgt
      simp only [t0]
      decide
    simp only [mlf, d0, g0.1, g0.2.1]
    decide
  rw [e1, e2, e3]
set_option maxHeartbeats 4000000 in
set_option maxRecDepth 100000 in
theorem law_exit {p : Program} {l : Launch} {e : Env} {s : State} {m : MethodId} {below : List Frame} {meth : Method} {c : Code} {b L : Nat} {xs : Nat → Int32} (C0 : lw_At p s m meth c b L xs) : ∀ (H : Heap) (locs : List Loc) (ls : Array Slot), va_S (fun q : Nat => s.heap.size ≤ q) s.heap H locs → W p l e room_1 s m #[Value.ref b] below meth c H locs 31 100218 (lw_Z below #[Value.ref b] s) (F0 m 889 ls []) := by
  obtain ⟨hx, hb, hr, hml, hown, hts0, hX, hbl, hlocks, hgv⟩ := id C0
  intro H locs ls hS
  refine lv_iconst (v := 1) hx hb dL_law_889 (by decide) ?_
  refine va_forget (fun q hq => hS.2.2 q hq) ?_
  refine W.widen (k := 600000) (n := 7302250) (by omega) (by omega) ?_
  exact lw_ret hx hb hr hlocks dL_law_890
set_option maxHeartbeats 4000000 in
set_option maxRecDepth 100000 in
theorem law_tail {p : Program} {l : Launch} {e : Env} {s : State} {m : MethodId} {below : List Frame} {meth : Method} {c : Code} {b L : Nat} {xs : Nat → Int32} (hL6 : L = 6) (C0 : lw_At p s m meth c b L xs) : ∀ (H : Heap) (locs : List Loc) (ls : Array Slot), va_S (fun q : Nat => s.heap.size ≤ q) s.heap H locs → lv_has ls 4 [(3, .int (nI 0)), (0, .ref b)] → W p l e room_1 s m #[Value.ref b] below meth c H locs 31 100218 (lw_Z below #[Value.ref b] s) (F0 m 883 ls []) := by
  obtain ⟨hx, hb, hr, hml, hown, hts0, hX, hbl, hlocks, hgv⟩ := id C0
  have hts : ∀ w ∈ wsL_law, w.before #[Value.ref b] s = true := fun w h => hts0 w (wsL_law_in w h)
  have hown : s.vm.findClass RL = some m.cls := hown
  have hA : ∀ q : Nat, s.heap.size ≤ q → (fun q : Nat => s.heap.size ≤ q) q := fun _ h => h
  have hbA : ¬ (fun q : Nat => s.heap.size ≤ q) b := Nat.not_le.mpr hbl
  intro H locs ls hS hl
  refine lv_iinc (v := nI 6) (lv' := [(3, .int (nI 6)), (0, .ref b)]) hx hb dL_law_883 hl (k := 0) rfl (by decide) (by decide) rfl (fun ls hl => ?_)
  refine lv_goto (tgt := 18) hx hb dL_law_886 (by decide) ?_
  refine lv_iload_n hx hb dL_law_18 rfl (lv_at hl 0 rfl) ?_
  refine lv_aload_n hx hb dL_law_19 rfl (lv_at hl 1 rfl) ?_
  refine va_slen hx hb hX hbl hbA hS dL_law_20 ?_
  refine cn_i (y := nI L) rfl ?_
  refine lv_bipush (v := nI 6) hx hb dL_law_21 (by decide) ?_
  refine lv_isub hx hb dL_law_23 ?_
  refine lv_icmp_gt (tgt := 889) hx hb dL_law_24 (by decide) (fun c1 => ?_) (fun c1 => ?_)
  · exact law_exit C0 _ _ _ hS
  · exact absurd (by subst hL6; decide) c1
set_option maxHeartbeats 4000000 in
set_option maxRecDepth 100000 in
theorem law_c0 {p : Program} {l : Launch} {e : Env} {s : State} {m : MethodId} {below : List Frame} {meth : Method} {c : Code} {b L : Nat} {xs : Nat → Int32} (hL6 : L = 6) (C0 : lw_At p s m meth c b L xs) (D : va_G) (cI cJ cZ : ClassId) (hKN : KN D cI cJ cZ s) (x0 h4 a1 a2 a3 h3 b1 b2 h2 r1 h1 p4 p5 p6 hB l3 h5 lk1 m0 g1 g2 g3 g4 g5 g6 g7 g8 g9 g10 g11 g12 : Nat) (ug ub ur vg vb vr vn th : Nat → Int32) (hone : ∀ z, z < 9 → ug z = nI 1 ∧ ub z = nI 1 ∧ ur z = nI 1) (hmone : (∀ z, z < 9 → vg z = nI 1 ∧ vb z = nI 1 ∧ vr z = nI 1 ∧ vn z = -1) ∧ (∀ z, z < 9 → th z = nI (3 ^ z))) (hth : ∀ z, z < 9 → ¬ th z = 0) : ∀ (H : Heap) (locs : List Loc) (ls : Array Slot), va_P D vwCl [(x0, .inr (6, [.ref h4, .ref h3, .ref h2, .ref h1, .ref hB, .ref h5])), (h4, .inr (4, [.ref a1, .ref a2, .ref a3, .int (nI 1), .int (nI 0), .int (nI 0)])), (a1, .inl (cI, 9, .inl ug)), (a2, .inl (cI, 9, .inl ub)), (a3, .inl (cI, 9, .inl ur)), (h3, .inr (3, [.ref b1, .ref b2, .int (nI 1), .int (nI 0), .int (-1 : Int32)])), (b1, .inl (cJ, 320, .inr (.inl (fun _ => 0)))), (b2, .inl (cI, 9, .inl (fun _ => 0))), (h2, .inr (2, [.ref r1, .int (nI 0)])), (r1, .inl (cI, 9, .inl (fun _ => 0))), (h1, .inr (1, [.ref h4, .ref h3, .ref h2, .ref p4, .ref p5, .ref p6, .int (nI 0)])), (p4, .inl (cI, 9, .inl (fun _ => 0))), (p5, .inl (cJ, 0, .inr (.inl (fun _ => 0)))), (p6, .inl (cI, 0, .inl (fun _ => 0))), (hB, .inr (0, [.ref h4, .ref h3, .ref l3])), (l3, .inl (cI, 512, .inl (fun _ => 0))), (h5, .inr (5, [.ref lk1, .int (nI 0)])), (lk1, .inl (cI, 9, .inl (fun _ => 0))), (m0, .inr (7, [.int (nI 1), .ref g1, .ref g2, .ref g3, .int (nI 0), .ref g4, .int (-1 : Int32), .ref g5, .int (nI 0), .ref g6, .int (nI 0), .ref g7, .ref g8, .ref g9, .ref g10, .ref g11, .ref g12])), (g1, .inl (cI, 9, .inl vg)), (g2, .inl (cI, 9, .inl vb)), (g3, .inl (cI, 9, .inl vr)), (g4, .inl (cZ, 20480, .inl (fun _ => 0))), (g5, .inl (cI, 9, .inl vn)), (g6, .inl (cI, 9, .inl (fun _ => 0))), (g7, .inl (cI, 9, .inl (fun _ => 0))), (g8, .inl (cJ, 19683, .inr (.inl (fun _ => 0)))), (g9, .inl (cI, 19683, .inl (fun _ => 0))), (g10, .inl (cI, 19683, .inl (fun _ => 0))), (g11, .inl (cI, 19683, .inl (fun _ => 0))), (g12, .inl (cI, 9, .inl th))] H → va_D (fun q : Nat => s.heap.size ≤ q) [(x0, .inr (6, [.ref h4, .ref h3, .ref h2, .ref h1, .ref hB, .ref h5])), (h4, .inr (4, [.ref a1, .ref a2, .ref a3, .int (nI 1), .int (nI 0), .int (nI 0)])), (a1, .inl (cI, 9, .inl ug)), (a2, .inl (cI, 9, .inl ub)), (a3, .inl (cI, 9, .inl ur)), (h3, .inr (3, [.ref b1, .ref b2, .int (nI 1), .int (nI 0), .int (-1 : Int32)])), (b1, .inl (cJ, 320, .inr (.inl (fun _ => 0)))), (b2, .inl (cI, 9, .inl (fun _ => 0))), (h2, .inr (2, [.ref r1, .int (nI 0)])), (r1, .inl (cI, 9, .inl (fun _ => 0))), (h1, .inr (1, [.ref h4, .ref h3, .ref h2, .ref p4, .ref p5, .ref p6, .int (nI 0)])), (p4, .inl (cI, 9, .inl (fun _ => 0))), (p5, .inl (cJ, 0, .inr (.inl (fun _ => 0)))), (p6, .inl (cI, 0, .inl (fun _ => 0))), (hB, .inr (0, [.ref h4, .ref h3, .ref l3])), (l3, .inl (cI, 512, .inl (fun _ => 0))), (h5, .inr (5, [.ref lk1, .int (nI 0)])), (lk1, .inl (cI, 9, .inl (fun _ => 0))), (m0, .inr (7, [.int (nI 1), .ref g1, .ref g2, .ref g3, .int (nI 0), .ref g4, .int (-1 : Int32), .ref g5, .int (nI 0), .ref g6, .int (nI 0), .ref g7, .ref g8, .ref g9, .ref g10, .ref g11, .ref g12])), (g1, .inl (cI, 9, .inl vg)), (g2, .inl (cI, 9, .inl vb)), (g3, .inl (cI, 9, .inl vr)), (g4, .inl (cZ, 20480, .inl (fun _ => 0))), (g5, .inl (cI, 9, .inl vn)), (g6, .inl (cI, 9, .inl (fun _ => 0))), (g7, .inl (cI, 9, .inl (fun _ => 0))), (g8, .inl (cJ, 19683, .inr (.inl (fun _ => 0)))), (g9, .inl (cI, 19683, .inl (fun _ => 0))), (g10, .inl (cI, 19683, .inl (fun _ => 0))), (g11, .inl (cI, 19683, .inl (fun _ => 0))), (g12, .inl (cI, 9, .inl th))] → va_S (fun q : Nat => s.heap.size ≤ q) s.heap H locs → lv_has ls 4 [(3, .int (nI 0)), (2, .ref m0), (1, .ref x0), (0, .ref b)] → W p l e room_1 s m #[Value.ref b] below meth c H locs 31 100218 (lw_Z below #[Value.ref b] s) (F0 m 140 ls []) := by
  obtain ⟨hx, hb, hr, hml, hown, hts0, hX, hbl, hlocks, hgv⟩ := id C0
  have hts : ∀ w ∈ wsL_law, w.before #[Value.ref b] s = true := fun w h => hts0 w (wsL_law_in w h)
  have hown : s.vm.findClass RL = some m.cls := hown
  have hA : ∀ q : Nat, s.heap.size ≤ q → (fun q : Nat => s.heap.size ≤ q) q := fun _ h => h
  have hbA : ¬ (fun q : Nat => s.heap.size ≤ q) b := Nat.not_le.mpr hbl
  have hK := hKN.1
  intro H locs ls hP hD hS hl
  refine lv_aload_n hx hb dL_law_140 rfl (lv_at hl 2 rfl) ?_
  refine lv_aload_n hx hb dL_law_141 rfl (lv_at hl 3 rfl) ?_
  refine lv_iload_n hx hb dL_law_142 rfl (lv_at hl 0 rfl) ?_
  refine lv_iconst (v := nI 1) hx hb dL_law_143 (by decide) ?_
  refine lv_iadd hx hb dL_law_144 ?_
  refine cn_i (y := nI (0 + 1)) (nI_add 0 1) ?_
  refine va_sld hx hb hX hbl hbA hS (i := nI (0 + 1)) (vp_in_nI (by omega) (by omega)) dL_law_145 ?_
  refine cn_i (y := xs (0 + 1)) (congrArg xs (nI_clamp (by omega))) ?_
  refine mx_i (wc := [(x0, .inr (6, [.ref h4, .ref h3, .ref h2, .ref h1, .ref hB, .ref h5])), (h4, .inr (4, [.ref a1, .ref a2, .ref a3, .int (nI 1), .int (nI 0), .int (nI 0)])), (a1, .inl (cI, 9, .inl ug)), (a2, .inl (cI, 9, .inl ub)), (a3, .inl (cI, 9, .inl ur)), (h3, .inr (3, [.ref b1, .ref b2, .int (nI 1), .int (nI 0), .int (-1 : Int32)])), (h2, .inr (2, [.ref r1, .int (nI 0)])), (h1, .inr (1, [.ref h4, .ref h3, .ref h2, .ref p4, .ref p5, .ref p6, .int (nI 0)]))]) (wr := [(b1, .inl (cJ, 320, .inr (.inl (fun _ => 0)))), (b2, .inl (cI, 9, .inl (fun _ => 0))), (r1, .inl (cI, 9, .inl (fun _ => 0))), (p4, .inl (cI, 9, .inl (fun _ => 0))), (p5, .inl (cJ, 0, .inr (.inl (fun _ => 0)))), (p6, .inl (cI, 0, .inl (fun _ => 0))), (hB, .inr (0, [.ref h4, .ref h3, .ref l3])), (l3, .inl (cI, 512, .inl (fun _ => 0))), (h5, .inr (5, [.ref lk1, .int (nI 0)])), (lk1, .inl (cI, 9, .inl (fun _ => 0))), (m0, .inr (7, [.int (nI 1), .ref g1, .ref g2, .ref g3, .int (nI 0), .ref g4, .int (-1 : Int32), .ref g5, .int (nI 0), .ref g6, .int (nI 0), .ref g7, .ref g8, .ref g9, .ref g10, .ref g11, .ref g12])), (g1, .inl (cI, 9, .inl vg)), (g2, .inl (cI, 9, .inl vb)), (g3, .inl (cI, 9, .inl vr)), (g4, .inl (cZ, 20480, .inl (fun _ => 0))), (g5, .inl (cI, 9, .inl vn)), (g6, .inl (cI, 9, .inl (fun _ => 0))), (g7, .inl (cI, 9, .inl (fun _ => 0))), (g8, .inl (cJ, 19683, .inr (.inl (fun _ => 0)))), (g9, .inl (cI, 19683, .inl (fun _ => 0))), (g10, .inl (cI, 19683, .inl (fun _ => 0))), (g11, .inl (cI, 19683, .inl (fun _ => 0))), (g12, .inl (cI, 9, .inl th))]) (va_runV (As := [.int (xs (0 + 1))]) (rest := []) ⟨hx, hb, hml, hown, hts⟩ (c_X6_parts l D cI cJ cZ x0 h4 h3 h2 h1 hB h5 a1 a2 a3 b1 b2 r1 p4 p5 p6 (nI 0) (nI 1) (nI 0) (nI 0) (nI 1) (nI 0) (-1 : Int32) (nI 0) (xs (0 + 1)) ug ub ur) (cwV 1 hts gL_law_X6_parts rfl rfl rfl (by decide +kernel) ⟨Nat.le_of_ble_eq_true rfl, Nat.le_of_ble_eq_true rfl⟩) ⟨pm_blind, va_recv hK hP (ci := 6) (q0 := 0) rfl rfl, fun U hU hW => ⟨rfl, by rw [hU]; exact hP.sub (ws' := [(x0, .inr (6, [.ref h4, .ref h3, .ref h2, .ref h1, .ref hB, .ref h5])), (h4, .inr (4, [.ref a1, .ref a2, .ref a3, .int (nI 1), .int (nI 0), .int (nI 0)])), (a1, .inl (cI, 9, .inl ug)), (a2, .inl (cI, 9, .inl ub)), (a3, .inl (cI, 9, .inl ur)), (h3, .inr (3, [.ref b1, .ref b2, .int (nI 1), .int (nI 0), .int (-1 : Int32)])), (h2, .inr (2, [.ref r1, .int (nI 0)])), (h1, .inr (1, [.ref h4, .ref h3, .ref h2, .ref p4, .ref p5, .ref p6, .int (nI 0)]))]) [0, 1, 2, 3, 4, 5, 8, 10] rfl, hKN.warm hW, (hD.sub (ws' := [(x0, .inr (6, [.ref h4, .ref h3, .ref h2, .ref h1, .ref hB, .ref h5])), (h4, .inr (4, [.ref a1, .ref a2, .ref a3, .int (nI 1), .int (nI 0), .int (nI 0)])), (a1, .inl (cI, 9, .inl ug)), (a2, .inl (cI, 9, .inl ub)), (a3, .inl (cI, 9, .inl ur)), (h3, .inr (3, [.ref b1, .ref b2, .int (nI 1), .int (nI 0), .int (-1 : Int32)])), (h2, .inr (2, [.ref r1, .int (nI 0)])), (h1, .inr (1, [.ref h4, .ref h3, .ref h2, .ref p4, .ref p5, .ref p6, .int (nI 0)]))]) [0, 1, 2, 3, 4, 5, 8, 10] (by decide) rfl).weaken (fun _ _ _ _ => trivial)⟩⟩ rfl rfl hl.1 rfl (lv_room (Nat.le_of_ble_eq_true rfl)) dL_law_146 ⟨Nat.le_of_ble_eq_true rfl, Nat.le_of_ble_eq_true rfl⟩) hS hP hD [0, 1, 2, 3, 4, 5, 8, 10] [6, 7, 9, 11, 12, 13, 14, 15, 16, 17, 18, 19, 20, 21, 22, 23, 24, 25, 26, 27, 28, 29, 30] rfl rfl rfl (by decide) (by decide) (fun r1 u1 H locs w1r hP hD hS => ?_)
  have w1 : B01 r1 (1 ≤ (xs (0 + 1)).toInt ∧ (xs (0 + 1)).toInt ≤ 9) := w1r
  clear w1r
  rcases w1 with ⟨rfl, w1⟩ | ⟨rfl, w1⟩
  · skip
    refine lv_aload_n hx hb dL_law_149 rfl (lv_at hl 1 rfl) ?_
    refine lv_aload_n hx hb dL_law_150 rfl (lv_at hl 3 rfl) ?_
    refine lv_iload_n hx hb dL_law_151 rfl (lv_at hl 0 rfl) ?_
    refine lv_iconst (v := nI 1) hx hb dL_law_152 (by decide) ?_
    refine lv_iadd hx hb dL_law_153 ?_
    refine cn_i (y := nI (0 + 1)) (nI_add 0 1) ?_
    refine va_sld hx hb hX hbl hbA hS (i := nI (0 + 1)) (vp_in_nI (by omega) (by omega)) dL_law_154 ?_
    refine cn_i (y := xs (0 + 1)) (congrArg xs (nI_clamp (by omega))) ?_
    refine mx_i (wc := [(m0, .inr (7, [.int (nI 1), .ref g1, .ref g2, .ref g3, .int (nI 0), .ref g4, .int (-1 : Int32), .ref g5, .int (nI 0), .ref g6, .int (nI 0), .ref g7, .ref g8, .ref g9, .ref g10, .ref g11, .ref g12])), (g1, .inl (cI, 9, .inl vg)), (g2, .inl (cI, 9, .inl vb)), (g3, .inl (cI, 9, .inl vr)), (g5, .inl (cI, 9, .inl vn))]) (wr := [(b1, .inl (cJ, 320, .inr (.inl (fun _ => 0)))), (b2, .inl (cI, 9, .inl (fun _ => 0))), (r1, .inl (cI, 9, .inl (fun _ => 0))), (p4, .inl (cI, 9, .inl (fun _ => 0))), (p5, .inl (cJ, 0, .inr (.inl (fun _ => 0)))), (p6, .inl (cI, 0, .inl (fun _ => 0))), (hB, .inr (0, [.ref h4, .ref h3, .ref l3])), (l3, .inl (cI, 512, .inl (fun _ => 0))), (h5, .inr (5, [.ref lk1, .int (nI 0)])), (lk1, .inl (cI, 9, .inl (fun _ => 0))), (g4, .inl (cZ, 20480, .inl (fun _ => 0))), (g6, .inl (cI, 9, .inl (fun _ => 0))), (g7, .inl (cI, 9, .inl (fun _ => 0))), (g8, .inl (cJ, 19683, .inr (.inl (fun _ => 0)))), (g9, .inl (cI, 19683, .inl (fun _ => 0))), (g10, .inl (cI, 19683, .inl (fun _ => 0))), (g11, .inl (cI, 19683, .inl (fun _ => 0))), (g12, .inl (cI, 9, .inl th))]) (va_runV (As := [.int (xs (0 + 1))]) (rest := [.int (nI 1)]) ⟨hx, hb, hml, hown, hts⟩ (c_X7_parts l D cI cJ cZ m0 g1 g2 g3 g4 g5 g6 g7 g8 g9 g10 g11 g12 (nI 1) (nI 0) (-1 : Int32) (nI 0) (nI 0) (xs (0 + 1)) vg vb vr vn) (cwV 1 hts gL_law_X7_parts rfl rfl rfl (by decide +kernel) ⟨Nat.le_of_ble_eq_true rfl, Nat.le_of_ble_eq_true rfl⟩) ⟨pm_blind, va_recv hK hP (ci := 7) (q0 := 10) rfl rfl, fun U hU hW => ⟨rfl, by rw [hU]; exact hP.sub (ws' := [(m0, .inr (7, [.int (nI 1), .ref g1, .ref g2, .ref g3, .int (nI 0), .ref g4, .int (-1 : Int32), .ref g5, .int (nI 0), .ref g6, .int (nI 0), .ref g7, .ref g8, .ref g9, .ref g10, .ref g11, .ref g12])), (g1, .inl (cI, 9, .inl vg)), (g2, .inl (cI, 9, .inl vb)), (g3, .inl (cI, 9, .inl vr)), (g5, .inl (cI, 9, .inl vn))]) [10, 11, 12, 13, 15] rfl, hKN.warm hW, (hD.sub (ws' := [(m0, .inr (7, [.int (nI 1), .ref g1, .ref g2, .ref g3, .int (nI 0), .ref g4, .int (-1 : Int32), .ref g5, .int (nI 0), .ref g6, .int (nI 0), .ref g7, .ref g8, .ref g9, .ref g10, .ref g11, .ref g12])), (g1, .inl (cI, 9, .inl vg)), (g2, .inl (cI, 9, .inl vb)), (g3, .inl (cI, 9, .inl vr)), (g5, .inl (cI, 9, .inl vn))]) [10, 11, 12, 13, 15] (by decide) rfl).weaken (fun _ _ _ _ => trivial)⟩⟩ rfl rfl hl.1 rfl (lv_room (Nat.le_of_ble_eq_true rfl)) dL_law_155 ⟨Nat.le_of_ble_eq_true rfl, Nat.le_of_ble_eq_true rfl⟩) hS hP hD [10, 11, 12, 13, 15] [0, 1, 2, 3, 4, 5, 6, 7, 8, 9, 14, 16, 17, 18, 19, 20, 21, 22] rfl rfl rfl (by decide) (by decide) (fun r2 u2 H locs w2r hP hD hS => ?_)
    have w2 : B01 r2 (1 ≤ (xs (0 + 1)).toInt ∧ (xs (0 + 1)).toInt ≤ 9) := w2r
    clear w2r
    rcases w2 with ⟨rfl, w2⟩ | ⟨rfl, w2⟩
    · skip
      refine lv_icmp_eq (tgt := 883) hx hb dL_law_158 (by decide) (fun c3 => ?_) (fun c3 => ?_)
      · skip
        exact law_tail hL6 C0 _ _ _ hS (lv_sub hl [0, 3] rfl)
      · exact absurd c3 (by first | decide | exact nz_lt (by omega) | exact fun h => h (nz_ge (by omega)))
    · skip
      refine lv_icmp_eq (tgt := 883) hx hb dL_law_158 (by decide) (fun c4 => ?_) (fun c4 => ?_)
      · exact absurd c4 (by first | decide | exact nz_lt (by omega) | exact fun h => h (nz_ge (by omega)))
      · skip
        refine lv_iconst (v := nI 0) hx hb dL_law_161 (by decide) ?_
        exact (by first | exact absurd w1 w2 | exact absurd w2 w1 | exact w1.elim | exact w2.elim)
  · skip
    refine lv_aload_n hx hb dL_law_149 rfl (lv_at hl 1 rfl) ?_
    refine lv_aload_n hx hb dL_law_150 rfl (lv_at hl 3 rfl) ?_
    refine lv_iload_n hx hb dL_law_151 rfl (lv_at hl 0 rfl) ?_
    refine lv_iconst (v := nI 1) hx hb dL_law_152 (by decide) ?_
    refine lv_iadd hx hb dL_law_153 ?_
    refine cn_i (y := nI (0 + 1)) (nI_add 0 1) ?_
    refine va_sld hx hb hX hbl hbA hS (i := nI (0 + 1)) (vp_in_nI (by omega) (by omega)) dL_law_154 ?_
    refine cn_i (y := xs (0 + 1)) (congrArg xs (nI_clamp (by omega))) ?_
    refine mx_i (wc := [(m0, .inr (7, [.int (nI 1), .ref g1, .ref g2, .ref g3, .int (nI 0), .ref g4, .int (-1 : Int32), .ref g5, .int (nI 0), .ref g6, .int (nI 0), .ref g7, .ref g8, .ref g9, .ref g10, .ref g11, .ref g12])), (g1, .inl (cI, 9, .inl vg)), (g2, .inl (cI, 9, .inl vb)), (g3, .inl (cI, 9, .inl vr)), (g5, .inl (cI, 9, .inl vn))]) (wr := [(b1, .inl (cJ, 320, .inr (.inl (fun _ => 0)))), (b2, .inl (cI, 9, .inl (fun _ => 0))), (r1, .inl (cI, 9, .inl (fun _ => 0))), (p4, .inl (cI, 9, .inl (fun _ => 0))), (p5, .inl (cJ, 0, .inr (.inl (fun _ => 0)))), (p6, .inl (cI, 0, .inl (fun _ => 0))), (hB, .inr (0, [.ref h4, .ref h3, .ref l3])), (l3, .inl (cI, 512, .inl (fun _ => 0))), (h5, .inr (5, [.ref lk1, .int (nI 0)])), (lk1, .inl (cI, 9, .inl (fun _ => 0))), (g4, .inl (cZ, 20480, .inl (fun _ => 0))), (g6, .inl (cI, 9, .inl (fun _ => 0))), (g7, .inl (cI, 9, .inl (fun _ => 0))), (g8, .inl (cJ, 19683, .inr (.inl (fun _ => 0)))), (g9, .inl (cI, 19683, .inl (fun _ => 0))), (g10, .inl (cI, 19683, .inl (fun _ => 0))), (g11, .inl (cI, 19683, .inl (fun _ => 0))), (g12, .inl (cI, 9, .inl th))]) (va_runV (As := [.int (xs (0 + 1))]) (rest := [.int (nI 0)]) ⟨hx, hb, hml, hown, hts⟩ (c_X7_parts l D cI cJ cZ m0 g1 g2 g3 g4 g5 g6 g7 g8 g9 g10 g11 g12 (nI 1) (nI 0) (-1 : Int32) (nI 0) (nI 0) (xs (0 + 1)) vg vb vr vn) (cwV 1 hts gL_law_X7_parts rfl rfl rfl (by decide +kernel) ⟨Nat.le_of_ble_eq_true rfl, Nat.le_of_ble_eq_true rfl⟩) ⟨pm_blind, va_recv hK hP (ci := 7) (q0 := 10) rfl rfl, fun U hU hW => ⟨rfl, by rw [hU]; exact hP.sub (ws' := [(m0, .inr (7, [.int (nI 1), .ref g1, .ref g2, .ref g3, .int (nI 0), .ref g4, .int (-1 : Int32), .ref g5, .int (nI 0), .ref g6, .int (nI 0), .ref g7, .ref g8, .ref g9, .ref g10, .ref g11, .ref g12])), (g1, .inl (cI, 9, .inl vg)), (g2, .inl (cI, 9, .inl vb)), (g3, .inl (cI, 9, .inl vr)), (g5, .inl (cI, 9, .inl vn))]) [10, 11, 12, 13, 15] rfl, hKN.warm hW, (hD.sub (ws' := [(m0, .inr (7, [.int (nI 1), .ref g1, .ref g2, .ref g3, .int (nI 0), .ref g4, .int (-1 : Int32), .ref g5, .int (nI 0), .ref g6, .int (nI 0), .ref g7, .ref g8, .ref g9, .ref g10, .ref g11, .ref g12])), (g1, .inl (cI, 9, .inl vg)), (g2, .inl (cI, 9, .inl vb)), (g3, .inl (cI, 9, .inl vr)), (g5, .inl (cI, 9, .inl vn))]) [10, 11, 12, 13, 15] (by decide) rfl).weaken (fun _ _ _ _ => trivial)⟩⟩ rfl rfl hl.1 rfl (lv_room (Nat.le_of_ble_eq_true rfl)) dL_law_155 ⟨Nat.le_of_ble_eq_true rfl, Nat.le_of_ble_eq_true rfl⟩) hS hP hD [10, 11, 12, 13, 15] [0, 1, 2, 3, 4, 5, 6, 7, 8, 9, 14, 16, 17, 18, 19, 20, 21, 22] rfl rfl rfl (by decide) (by decide) (fun r5 u5 H locs w5r hP hD hS => ?_)
    have w5 : B01 r5 (1 ≤ (xs (0 + 1)).toInt ∧ (xs (0 + 1)).toInt ≤ 9) := w5r
    clear w5r
    rcases w5 with ⟨rfl, w5⟩ | ⟨rfl, w5⟩
    · skip
      refine lv_icmp_eq (tgt := 883) hx hb dL_law_158 (by decide) (fun c6 => ?_) (fun c6 => ?_)
      · exact absurd c6 (by first | decide | exact nz_lt (by omega) | exact fun h => h (nz_ge (by omega)))
      · skip
        refine lv_iconst (v := nI 0) hx hb dL_law_161 (by decide) ?_
        exact (by first | exact absurd w1 w5 | exact absurd w5 w1 | exact w1.elim | exact w5.elim)
    · skip
      refine lv_icmp_eq (tgt := 883) hx hb dL_law_158 (by decide) (fun c7 => ?_) (fun c7 => ?_)
      · skip
        exact law_tail hL6 C0 _ _ _ hS (lv_sub hl [0, 3] rfl)
      · exact absurd c7 (by first | decide | exact nz_lt (by omega) | exact fun h => h (nz_ge (by omega)))
set_option maxHeartbeats 4000000 in
set_option maxRecDepth 100000 in
theorem law_c1 {p : Program} {l : Launch} {e : Env} {s : State} {m : MethodId} {below : List Frame} {meth : Method} {c : Code} {b L : Nat} {xs : Nat → Int32} (hL6 : L = 6) (C0 : lw_At p s m meth c b L xs) (D : va_G) (cI cJ cZ : ClassId) (hKN : KN D cI cJ cZ s) (x0 h4 a1 a2 a3 h3 b1 b2 h2 r1 h1 p4 p5 p6 hB l3 h5 lk1 m0 g1 g2 g3 g4 g5 g6 g7 g8 g9 g10 g11 g12 : Nat) (ug ub ur vg vb vr vn th : Nat → Int32) (hone : ∀ z, z < 9 → ug z = nI 1 ∧ ub z = nI 1 ∧ ur z = nI 1) (hmone : (∀ z, z < 9 → vg z = nI 1 ∧ vb z = nI 1 ∧ vr z = nI 1 ∧ vn z = -1) ∧ (∀ z, z < 9 → th z = nI (3 ^ z))) (hth : ∀ z, z < 9 → ¬ th z = 0) : ∀ (H : Heap) (locs : List Loc) (ls : Array Slot), va_P D vwCl [(x0, .inr (6, [.ref h4, .ref h3, .ref h2, .ref h1, .ref hB, .ref h5])), (h4, .inr (4, [.ref a1, .ref a2, .ref a3, .int (nI 1), .int (nI 0), .int (nI 0)])), (a1, .inl (cI, 9, .inl ug)), (a2, .inl (cI, 9, .inl ub)), (a3, .inl (cI, 9, .inl ur)), (h3, .inr (3, [.ref b1, .ref b2, .int (nI 1), .int (nI 0), .int (-1 : Int32)])), (b1, .inl (cJ, 320, .inr (.inl (fun _ => 0)))), (b2, .inl (cI, 9, .inl (fun _ => 0))), (h2, .inr (2, [.ref r1, .int (nI 0)])), (r1, .inl (cI, 9, .inl (fun _ => 0))), (h1, .inr (1, [.ref h4, .ref h3, .ref h2, .ref p4, .ref p5, .ref p6, .int (nI 0)])), (p4, .inl (cI, 9, .inl (fun _ => 0))), (p5, .inl (cJ, 0, .inr (.inl (fun _ => 0)))), (p6, .inl (cI, 0, .inl (fun _ => 0))), (hB, .inr (0, [.ref h4, .ref h3, .ref l3])), (l3, .inl (cI, 512, .inl (fun _ => 0))), (h5, .inr (5, [.ref lk1, .int (nI 0)])), (lk1, .inl (cI, 9, .inl (fun _ => 0))), (m0, .inr (7, [.int (nI 1), .ref g1, .ref g2, .ref g3, .int (nI 0), .ref g4, .int (-1 : Int32), .ref g5, .int (nI 0), .ref g6, .int (nI 0), .ref g7, .ref g8, .ref g9, .ref g10, .ref g11, .ref g12])), (g1, .inl (cI, 9, .inl vg)), (g2, .inl (cI, 9, .inl vb)), (g3, .inl (cI, 9, .inl vr)), (g4, .inl (cZ, 20480, .inl (fun _ => 0))), (g5, .inl (cI, 9, .inl vn)), (g6, .inl (cI, 9, .inl (fun _ => 0))), (g7, .inl (cI, 9, .inl (fun _ => 0))), (g8, .inl (cJ, 19683, .inr (.inl (fun _ => 0)))), (g9, .inl (cI, 19683, .inl (fun _ => 0))), (g10, .inl (cI, 19683, .inl (fun _ => 0))), (g11, .inl (cI, 19683, .inl (fun _ => 0))), (g12, .inl (cI, 9, .inl th))] H → va_D (fun q : Nat => s.heap.size ≤ q) [(x0, .inr (6, [.ref h4, .ref h3, .ref h2, .ref h1, .ref hB, .ref h5])), (h4, .inr (4, [.ref a1, .ref a2, .ref a3, .int (nI 1), .int (nI 0), .int (nI 0)])), (a1, .inl (cI, 9, .inl ug)), (a2, .inl (cI, 9, .inl ub)), (a3, .inl (cI, 9, .inl ur)), (h3, .inr (3, [.ref b1, .ref b2, .int (nI 1), .int (nI 0), .int (-1 : Int32)])), (b1, .inl (cJ, 320, .inr (.inl (fun _ => 0)))), (b2, .inl (cI, 9, .inl (fun _ => 0))), (h2, .inr (2, [.ref r1, .int (nI 0)])), (r1, .inl (cI, 9, .inl (fun _ => 0))), (h1, .inr (1, [.ref h4, .ref h3, .ref h2, .ref p4, .ref p5, .ref p6, .int (nI 0)])), (p4, .inl (cI, 9, .inl (fun _ => 0))), (p5, .inl (cJ, 0, .inr (.inl (fun _ => 0)))), (p6, .inl (cI, 0, .inl (fun _ => 0))), (hB, .inr (0, [.ref h4, .ref h3, .ref l3])), (l3, .inl (cI, 512, .inl (fun _ => 0))), (h5, .inr (5, [.ref lk1, .int (nI 0)])), (lk1, .inl (cI, 9, .inl (fun _ => 0))), (m0, .inr (7, [.int (nI 1), .ref g1, .ref g2, .ref g3, .int (nI 0), .ref g4, .int (-1 : Int32), .ref g5, .int (nI 0), .ref g6, .int (nI 0), .ref g7, .ref g8, .ref g9, .ref g10, .ref g11, .ref g12])), (g1, .inl (cI, 9, .inl vg)), (g2, .inl (cI, 9, .inl vb)), (g3, .inl (cI, 9, .inl vr)), (g4, .inl (cZ, 20480, .inl (fun _ => 0))), (g5, .inl (cI, 9, .inl vn)), (g6, .inl (cI, 9, .inl (fun _ => 0))), (g7, .inl (cI, 9, .inl (fun _ => 0))), (g8, .inl (cJ, 19683, .inr (.inl (fun _ => 0)))), (g9, .inl (cI, 19683, .inl (fun _ => 0))), (g10, .inl (cI, 19683, .inl (fun _ => 0))), (g11, .inl (cI, 19683, .inl (fun _ => 0))), (g12, .inl (cI, 9, .inl th))] → va_S (fun q : Nat => s.heap.size ≤ q) s.heap H locs → lv_has ls 4 [(3, .int (nI 0)), (2, .ref m0), (1, .ref x0), (0, .ref b)] → W p l e room_1 s m #[Value.ref b] below meth c H locs 31 100218 (lw_Z below #[Value.ref b] s) (F0 m 163 ls []) := by
  obtain ⟨hx, hb, hr, hml, hown, hts0, hX, hbl, hlocks, hgv⟩ := id C0
  have hts : ∀ w ∈ wsL_law, w.before #[Value.ref b] s = true := fun w h => hts0 w (wsL_law_in w h)
  have hown : s.vm.findClass RL = some m.cls := hown
  have hA : ∀ q : Nat, s.heap.size ≤ q → (fun q : Nat => s.heap.size ≤ q) q := fun _ h => h
  have hbA : ¬ (fun q : Nat => s.heap.size ≤ q) b := Nat.not_le.mpr hbl
  have hK := hKN.1
  intro H locs ls hP hD hS hl
  refine lv_aload_n hx hb dL_law_163 rfl (lv_at hl 2 rfl) ?_
  refine lv_aload_n hx hb dL_law_164 rfl (lv_at hl 3 rfl) ?_
  refine lv_iload_n hx hb dL_law_165 rfl (lv_at hl 0 rfl) ?_
  refine lv_iconst (v := nI 1) hx hb dL_law_166 (by decide) ?_
  refine lv_iadd hx hb dL_law_167 ?_
  refine cn_i (y := nI (0 + 1)) (nI_add 0 1) ?_
  refine va_sld hx hb hX hbl hbA hS (i := nI (0 + 1)) (vp_in_nI (by omega) (by omega)) dL_law_168 ?_
  refine cn_i (y := xs (0 + 1)) (congrArg xs (nI_clamp (by omega))) ?_
  refine lv_aload_n hx hb dL_law_169 rfl (lv_at hl 3 rfl) ?_
  refine lv_iload_n hx hb dL_law_170 rfl (lv_at hl 0 rfl) ?_
  refine lv_iconst (v := nI 2) hx hb dL_law_171 (by decide) ?_
  refine lv_iadd hx hb dL_law_172 ?_
  refine cn_i (y := nI (0 + 2)) (nI_add 0 2) ?_
  refine va_sld hx hb hX hbl hbA hS (i := nI (0 + 2)) (vp_in_nI (by omega) (by omega)) dL_law_173 ?_
  refine cn_i (y := xs (0 + 2)) (congrArg xs (nI_clamp (by omega))) ?_
  refine lv_aload_n hx hb dL_law_174 rfl (lv_at hl 3 rfl) ?_
  refine lv_iload_n hx hb dL_law_175 rfl (lv_at hl 0 rfl) ?_
  refine lv_iconst (v := nI 3) hx hb dL_law_176 (by decide) ?_
  refine lv_iadd hx hb dL_law_177 ?_
  refine cn_i (y := nI (0 + 3)) (nI_add 0 3) ?_
  refine va_sld hx hb hX hbl hbA hS (i := nI (0 + 3)) (vp_in_nI (by omega) (by omega)) dL_law_178 ?_
  refine cn_i (y := xs (0 + 3)) (congrArg xs (nI_clamp (by omega))) ?_
  refine lv_aload_n hx hb dL_law_179 rfl (lv_at hl 3 rfl) ?_
  refine lv_iload_n hx hb dL_law_180 rfl (lv_at hl 0 rfl) ?_
  refine lv_iconst (v := nI 4) hx hb dL_law_181 (by decide) ?_
  refine lv_iadd hx hb dL_law_182 ?_
  refine cn_i (y := nI (0 + 4)) (nI_add 0 4) ?_
  refine va_sld hx hb hX hbl hbA hS (i := nI (0 + 4)) (vp_in_nI (by omega) (by omega)) dL_law_183 ?_
  refine cn_i (y := xs (0 + 4)) (congrArg xs (nI_clamp (by omega))) ?_
  refine mx_i (wc := [(x0, .inr (6, [.ref h4, .ref h3, .ref h2, .ref h1, .ref hB, .ref h5])), (h4, .inr (4, [.ref a1, .ref a2, .ref a3, .int (nI 1), .int (nI 0), .int (nI 0)])), (a1, .inl (cI, 9, .inl ug)), (a2, .inl (cI, 9, .inl ub)), (a3, .inl (cI, 9, .inl ur)), (h1, .inr (1, [.ref h4, .ref h3, .ref h2, .ref p4, .ref p5, .ref p6, .int (nI 0)]))]) (wr := [(h3, .inr (3, [.ref b1, .ref b2, .int (nI 1), .int (nI 0), .int (-1 : Int32)])), (b1, .inl (cJ, 320, .inr (.inl (fun _ => 0)))), (b2, .inl (cI, 9, .inl (fun _ => 0))), (h2, .inr (2, [.ref r1, .int (nI 0)])), (r1, .inl (cI, 9, .inl (fun _ => 0))), (p4, .inl (cI, 9, .inl (fun _ => 0))), (p5, .inl (cJ, 0, .inr (.inl (fun _ => 0)))), (p6, .inl (cI, 0, .inl (fun _ => 0))), (hB, .inr (0, [.ref h4, .ref h3, .ref l3])), (l3, .inl (cI, 512, .inl (fun _ => 0))), (h5, .inr (5, [.ref lk1, .int (nI 0)])), (lk1, .inl (cI, 9, .inl (fun _ => 0))), (m0, .inr (7, [.int (nI 1), .ref g1, .ref g2, .ref g3, .int (nI 0), .ref g4, .int (-1 : Int32), .ref g5, .int (nI 0), .ref g6, .int (nI 0), .ref g7, .ref g8, .ref g9, .ref g10, .ref g11, .ref g12])), (g1, .inl (cI, 9, .inl vg)), (g2, .inl (cI, 9, .inl vb)), (g3, .inl (cI, 9, .inl vr)), (g4, .inl (cZ, 20480, .inl (fun _ => 0))), (g5, .inl (cI, 9, .inl vn)), (g6, .inl (cI, 9, .inl (fun _ => 0))), (g7, .inl (cI, 9, .inl (fun _ => 0))), (g8, .inl (cJ, 19683, .inr (.inl (fun _ => 0)))), (g9, .inl (cI, 19683, .inl (fun _ => 0))), (g10, .inl (cI, 19683, .inl (fun _ => 0))), (g11, .inl (cI, 19683, .inl (fun _ => 0))), (g12, .inl (cI, 9, .inl th))]) (va_runV (As := [.int (xs (0 + 1)), .int (xs (0 + 2)), .int (xs (0 + 3)), .int (xs (0 + 4))]) (rest := []) ⟨hx, hb, hml, hown, hts⟩ (c_X6_part l D cI cJ cZ x0 h4 h3 h2 h1 hB h5 a1 a2 a3 p4 p5 p6 (nI 0) 1 (nI 0) (nI 0) (xs (0 + 1)) (xs (0 + 2)) (xs (0 + 3)) (xs (0 + 4)) ug ub ur (by first | assumption | omega)) (cwV 4 hts gL_law_X6_part rfl rfl rfl (by decide +kernel) ⟨Nat.le_of_ble_eq_true rfl, Nat.le_of_ble_eq_true rfl⟩) ⟨pm_blind, va_recv hK hP (ci := 6) (q0 := 0) rfl rfl, fun U hU hW => ⟨rfl, by rw [hU]; exact hP.sub (ws' := [(x0, .inr (6, [.ref h4, .ref h3, .ref h2, .ref h1, .ref hB, .ref h5])), (h4, .inr (4, [.ref a1, .ref a2, .ref a3, .int (nI 1), .int (nI 0), .int (nI 0)])), (a1, .inl (cI, 9, .inl ug)), (a2, .inl (cI, 9, .inl ub)), (a3, .inl (cI, 9, .inl ur)), (h1, .inr (1, [.ref h4, .ref h3, .ref h2, .ref p4, .ref p5, .ref p6, .int (nI 0)]))]) [0, 1, 2, 3, 4, 10] rfl, hKN.warm hW, (hD.sub (ws' := [(x0, .inr (6, [.ref h4, .ref h3, .ref h2, .ref h1, .ref hB, .ref h5])), (h4, .inr (4, [.ref a1, .ref a2, .ref a3, .int (nI 1), .int (nI 0), .int (nI 0)])), (a1, .inl (cI, 9, .inl ug)), (a2, .inl (cI, 9, .inl ub)), (a3, .inl (cI, 9, .inl ur)), (h1, .inr (1, [.ref h4, .ref h3, .ref h2, .ref p4, .ref p5, .ref p6, .int (nI 0)]))]) [0, 1, 2, 3, 4, 10] (by decide) rfl).weaken (fun _ _ _ _ => trivial)⟩⟩ rfl rfl hl.1 rfl (lv_room (Nat.le_of_ble_eq_true rfl)) dL_law_184 ⟨Nat.le_of_ble_eq_true rfl, Nat.le_of_ble_eq_true rfl⟩) hS hP hD [0, 1, 2, 3, 4, 10] [5, 6, 7, 8, 9, 11, 12, 13, 14, 15, 16, 17, 18, 19, 20, 21, 22, 23, 24, 25, 26, 27, 28, 29, 30] rfl rfl rfl (by decide) (by decide) (fun r1 u1 H locs w1r hP hD hS => ?_)
  have w1 : B01 r1 (0 ≤ (xs (0 + 1)).toInt ∧ (xs (0 + 1)).toInt < 1 ∧ 1 ≤ (xs (0 + 2)).toInt ∧ (xs (0 + 2)).toInt ≤ 9 ∧ 1 ≤ (xs (0 + 3)).toInt ∧ (xs (0 + 3)).toInt ≤ 9 ∧ 0 ≤ (xs (0 + 4)).toInt ∧ (xs (0 + 4)).toInt ≤ 1000) := w1r
  clear w1r
  rcases w1 with ⟨rfl, w1⟩ | ⟨rfl, w1⟩
  · skip
    refine lv_aload_n hx hb dL_law_187 rfl (lv_at hl 1 rfl) ?_
    refine lv_aload_n hx hb dL_law_188 rfl (lv_at hl 3 rfl) ?_
    refine lv_iload_n hx hb dL_law_189 rfl (lv_at hl 0 rfl) ?_
    refine lv_iconst (v := nI 1) hx hb dL_law_190 (by decide) ?_
    refine lv_iadd hx hb dL_law_191 ?_
    refine cn_i (y := nI (0 + 1)) (nI_add 0 1) ?_
    refine va_sld hx hb hX hbl hbA hS (i := nI (0 + 1)) (vp_in_nI (by omega) (by omega)) dL_law_192 ?_
    refine cn_i (y := xs (0 + 1)) (congrArg xs (nI_clamp (by omega))) ?_
    refine lv_aload_n hx hb dL_law_193 rfl (lv_at hl 3 rfl) ?_
    refine lv_iload_n hx hb dL_law_194 rfl (lv_at hl 0 rfl) ?_
    refine lv_iconst (v := nI 2) hx hb dL_law_195 (by decide) ?_
    refine lv_iadd hx hb dL_law_196 ?_
    refine cn_i (y := nI (0 + 2)) (nI_add 0 2) ?_
    refine va_sld hx hb hX hbl hbA hS (i := nI (0 + 2)) (vp_in_nI (by omega) (by omega)) dL_law_197 ?_
    refine cn_i (y := xs (0 + 2)) (congrArg xs (nI_clamp (by omega))) ?_
    refine lv_aload_n hx hb dL_law_198 rfl (lv_at hl 3 rfl) ?_
    refine lv_iload_n hx hb dL_law_199 rfl (lv_at hl 0 rfl) ?_
    refine lv_iconst (v := nI 3) hx hb dL_law_200 (by decide) ?_
    refine lv_iadd hx hb dL_law_201 ?_
    refine cn_i (y := nI (0 + 3)) (nI_add 0 3) ?_
    refine va_sld hx hb hX hbl hbA hS (i := nI (0 + 3)) (vp_in_nI (by omega) (by omega)) dL_law_202 ?_
    refine cn_i (y := xs (0 + 3)) (congrArg xs (nI_clamp (by omega))) ?_
    refine lv_aload_n hx hb dL_law_203 rfl (lv_at hl 3 rfl) ?_
    refine lv_iload_n hx hb dL_law_204 rfl (lv_at hl 0 rfl) ?_
    refine lv_iconst (v := nI 4) hx hb dL_law_205 (by decide) ?_
    refine lv_iadd hx hb dL_law_206 ?_
    refine cn_i (y := nI (0 + 4)) (nI_add 0 4) ?_
    refine va_sld hx hb hX hbl hbA hS (i := nI (0 + 4)) (vp_in_nI (by omega) (by omega)) dL_law_207 ?_
    refine cn_i (y := xs (0 + 4)) (congrArg xs (nI_clamp (by omega))) ?_
    refine mx_i (wc := [(m0, .inr (7, [.int (nI 1), .ref g1, .ref g2, .ref g3, .int (nI 0), .ref g4, .int (-1 : Int32), .ref g5, .int (nI 0), .ref g6, .int (nI 0), .ref g7, .ref g8, .ref g9, .ref g10, .ref g11, .ref g12])), (g1, .inl (cI, 9, .inl vg)), (g2, .inl (cI, 9, .inl vb)), (g3, .inl (cI, 9, .inl vr))]) (wr := [(h3, .inr (3, [.ref b1, .ref b2, .int (nI 1), .int (nI 0), .int (-1 : Int32)])), (b1, .inl (cJ, 320, .inr (.inl (fun _ => 0)))), (b2, .inl (cI, 9, .inl (fun _ => 0))), (h2, .inr (2, [.ref r1, .int (nI 0)])), (r1, .inl (cI, 9, .inl (fun _ => 0))), (p4, .inl (cI, 9, .inl (fun _ => 0))), (p5, .inl (cJ, 0, .inr (.inl (fun _ => 0)))), (p6, .inl (cI, 0, .inl (fun _ => 0))), (hB, .inr (0, [.ref h4, .ref h3, .ref l3])), (l3, .inl (cI, 512, .inl (fun _ => 0))), (h5, .inr (5, [.ref lk1, .int (nI 0)])), (lk1, .inl (cI, 9, .inl (fun _ => 0))), (g4, .inl (cZ, 20480, .inl (fun _ => 0))), (g5, .inl (cI, 9, .inl vn)), (g6, .inl (cI, 9, .inl (fun _ => 0))), (g7, .inl (cI, 9, .inl (fun _ => 0))), (g8, .inl (cJ, 19683, .inr (.inl (fun _ => 0)))), (g9, .inl (cI, 19683, .inl (fun _ => 0))), (g10, .inl (cI, 19683, .inl (fun _ => 0))), (g11, .inl (cI, 19683, .inl (fun _ => 0))), (g12, .inl (cI, 9, .inl th))]) (va_runV (As := [.int (xs (0 + 1)), .int (xs (0 + 2)), .int (xs (0 + 3)), .int (xs (0 + 4))]) (rest := [.int (nI 1)]) ⟨hx, hb, hml, hown, hts⟩ (c_X7_part l D cI cJ cZ m0 g1 g2 g3 g4 g5 g6 g7 g8 g9 g10 g11 g12 1 (nI 0) (-1 : Int32) (nI 0) (nI 0) (xs (0 + 1)) (xs (0 + 2)) (xs (0 + 3)) (xs (0 + 4)) vg vb vr (by first | assumption | omega) (by first | assumption | omega)) (cwV 4 hts gL_law_X7_part rfl rfl rfl (by decide +kernel) ⟨Nat.le_of_ble_eq_true rfl, Nat.le_of_ble_eq_true rfl⟩) ⟨pm_blind, va_recv hK hP (ci := 7) (q0 := 12) rfl rfl, fun U hU hW => ⟨rfl, by rw [hU]; exact hP.sub (ws' := [(m0, .inr (7, [.int (nI 1), .ref g1, .ref g2, .ref g3, .int (nI 0), .ref g4, .int (-1 : Int32), .ref g5, .int (nI 0), .ref g6, .int (nI 0), .ref g7, .ref g8, .ref g9, .ref g10, .ref g11, .ref g12])), (g1, .inl (cI, 9, .inl vg)), (g2, .inl (cI, 9, .inl vb)), (g3, .inl (cI, 9, .inl vr))]) [12, 13, 14, 15] rfl, hKN.warm hW, (hD.sub (ws' := [(m0, .inr (7, [.int (nI 1), .ref g1, .ref g2, .ref g3, .int (nI 0), .ref g4, .int (-1 : Int32), .ref g5, .int (nI 0), .ref g6, .int (nI 0), .ref g7, .ref g8, .ref g9, .ref g10, .ref g11, .ref g12])), (g1, .inl (cI, 9, .inl vg)), (g2, .inl (cI, 9, .inl vb)), (g3, .inl (cI, 9, .inl vr))]) [12, 13, 14, 15] (by decide) rfl).weaken (fun _ _ _ _ => trivial)⟩⟩ rfl rfl hl.1 rfl (lv_room (Nat.le_of_ble_eq_true rfl)) dL_law_208 ⟨Nat.le_of_ble_eq_true rfl, Nat.le_of_ble_eq_true rfl⟩) hS hP hD [12, 13, 14, 15] [0, 1, 2, 3, 4, 5, 6, 7, 8, 9, 10, 11, 16, 17, 18, 19, 20, 21, 22, 23, 24] rfl rfl rfl (by decide) (by decide) (fun r2 u2 H locs w2r hP hD hS => ?_)
    have w2 : B01 r2 (0 ≤ (xs (0 + 1)).toInt ∧ (xs (0 + 1)).toInt < 1 ∧ 1 ≤ (xs (0 + 2)).toInt ∧ (xs (0 + 2)).toInt ≤ 9 ∧ 1 ≤ (xs (0 + 3)).toInt ∧ (xs (0 + 3)).toInt ≤ 9 ∧ 0 ≤ (xs (0 + 4)).toInt ∧ (xs (0 + 4)).toInt ≤ 1000) := w2r
    clear w2r
    rcases w2 with ⟨rfl, w2⟩ | ⟨rfl, w2⟩
    · skip
      refine lv_icmp_eq (tgt := 883) hx hb dL_law_211 (by decide) (fun c3 => ?_) (fun c3 => ?_)
      · skip
        exact law_tail hL6 C0 _ _ _ hS (lv_sub hl [0, 3] rfl)
      · exact absurd c3 (by first | decide | exact nz_lt (by omega) | exact fun h => h (nz_ge (by omega)))
    · skip
      refine lv_icmp_eq (tgt := 883) hx hb dL_law_211 (by decide) (fun c4 => ?_) (fun c4 => ?_)
      · exact absurd c4 (by first | decide | exact nz_lt (by omega) | exact fun h => h (nz_ge (by omega)))
      · skip
        refine lv_iconst (v := nI 0) hx hb dL_law_214 (by decide) ?_
        exact (by first | exact absurd w1 w2 | exact absurd w2 w1 | exact w1.elim | exact w2.elim)
  · skip
    refine lv_aload_n hx hb dL_law_187 rfl (lv_at hl 1 rfl) ?_
    refine lv_aload_n hx hb dL_law_188 rfl (lv_at hl 3 rfl) ?_
    refine lv_iload_n hx hb dL_law_189 rfl (lv_at hl 0 rfl) ?_
    refine lv_iconst (v := nI 1) hx hb dL_law_190 (by decide) ?_
    refine lv_iadd hx hb dL_law_191 ?_
    refine cn_i (y := nI (0 + 1)) (nI_add 0 1) ?_
    refine va_sld hx hb hX hbl hbA hS (i := nI (0 + 1)) (vp_in_nI (by omega) (by omega)) dL_law_192 ?_
    refine cn_i (y := xs (0 + 1)) (congrArg xs (nI_clamp (by omega))) ?_
    refine lv_aload_n hx hb dL_law_193 rfl (lv_at hl 3 rfl) ?_
    refine lv_iload_n hx hb dL_law_194 rfl (lv_at hl 0 rfl) ?_
    refine lv_iconst (v := nI 2) hx hb dL_law_195 (by decide) ?_
    refine lv_iadd hx hb dL_law_196 ?_
    refine cn_i (y := nI (0 + 2)) (nI_add 0 2) ?_
    refine va_sld hx hb hX hbl hbA hS (i := nI (0 + 2)) (vp_in_nI (by omega) (by omega)) dL_law_197 ?_
    refine cn_i (y := xs (0 + 2)) (congrArg xs (nI_clamp (by omega))) ?_
    refine lv_aload_n hx hb dL_law_198 rfl (lv_at hl 3 rfl) ?_
    refine lv_iload_n hx hb dL_law_199 rfl (lv_at hl 0 rfl) ?_
    refine lv_iconst (v := nI 3) hx hb dL_law_200 (by decide) ?_
    refine lv_iadd hx hb dL_law_201 ?_
    refine cn_i (y := nI (0 + 3)) (nI_add 0 3) ?_
    refine va_sld hx hb hX hbl hbA hS (i := nI (0 + 3)) (vp_in_nI (by omega) (by omega)) dL_law_202 ?_
    refine cn_i (y := xs (0 + 3)) (congrArg xs (nI_clamp (by omega))) ?_
    refine lv_aload_n hx hb dL_law_203 rfl (lv_at hl 3 rfl) ?_
    refine lv_iload_n hx hb dL_law_204 rfl (lv_at hl 0 rfl) ?_
    refine lv_iconst (v := nI 4) hx hb dL_law_205 (by decide) ?_
    refine lv_iadd hx hb dL_law_206 ?_
    refine cn_i (y := nI (0 + 4)) (nI_add 0 4) ?_
    refine va_sld hx hb hX hbl hbA hS (i := nI (0 + 4)) (vp_in_nI (by omega) (by omega)) dL_law_207 ?_
    refine cn_i (y := xs (0 + 4)) (congrArg xs (nI_clamp (by omega))) ?_
    refine mx_i (wc := [(m0, .inr (7, [.int (nI 1), .ref g1, .ref g2, .ref g3, .int (nI 0), .ref g4, .int (-1 : Int32), .ref g5, .int (nI 0), .ref g6, .int (nI 0), .ref g7, .ref g8, .ref g9, .ref g10, .ref g11, .ref g12])), (g1, .inl (cI, 9, .inl vg)), (g2, .inl (cI, 9, .inl vb)), (g3, .inl (cI, 9, .inl vr))]) (wr := [(h3, .inr (3, [.ref b1, .ref b2, .int (nI 1), .int (nI 0), .int (-1 : Int32)])), (b1, .inl (cJ, 320, .inr (.inl (fun _ => 0)))), (b2, .inl (cI, 9, .inl (fun _ => 0))), (h2, .inr (2, [.ref r1, .int (nI 0)])), (r1, .inl (cI, 9, .inl (fun _ => 0))), (p4, .inl (cI, 9, .inl (fun _ => 0))), (p5, .inl (cJ, 0, .inr (.inl (fun _ => 0)))), (p6, .inl (cI, 0, .inl (fun _ => 0))), (hB, .inr (0, [.ref h4, .ref h3, .ref l3])), (l3, .inl (cI, 512, .inl (fun _ => 0))), (h5, .inr (5, [.ref lk1, .int (nI 0)])), (lk1, .inl (cI, 9, .inl (fun _ => 0))), (g4, .inl (cZ, 20480, .inl (fun _ => 0))), (g5, .inl (cI, 9, .inl vn)), (g6, .inl (cI, 9, .inl (fun _ => 0))), (g7, .inl (cI, 9, .inl (fun _ => 0))), (g8, .inl (cJ, 19683, .inr (.inl (fun _ => 0)))), (g9, .inl (cI, 19683, .inl (fun _ => 0))), (g10, .inl (cI, 19683, .inl (fun _ => 0))), (g11, .inl (cI, 19683, .inl (fun _ => 0))), (g12, .inl (cI, 9, .inl th))]) (va_runV (As := [.int (xs (0 + 1)), .int (xs (0 + 2)), .int (xs (0 + 3)), .int (xs (0 + 4))]) (rest := [.int (nI 0)]) ⟨hx, hb, hml, hown, hts⟩ (c_X7_part l D cI cJ cZ m0 g1 g2 g3 g4 g5 g6 g7 g8 g9 g10 g11 g12 1 (nI 0) (-1 : Int32) (nI 0) (nI 0) (xs (0 + 1)) (xs (0 + 2)) (xs (0 + 3)) (xs (0 + 4)) vg vb vr (by first | assumption | omega) (by first | assumption | omega)) (cwV 4 hts gL_law_X7_part rfl rfl rfl (by decide +kernel) ⟨Nat.le_of_ble_eq_true rfl, Nat.le_of_ble_eq_true rfl⟩) ⟨pm_blind, va_recv hK hP (ci := 7) (q0 := 12) rfl rfl, fun U hU hW => ⟨rfl, by rw [hU]; exact hP.sub (ws' := [(m0, .inr (7, [.int (nI 1), .ref g1, .ref g2, .ref g3, .int (nI 0), .ref g4, .int (-1 : Int32), .ref g5, .int (nI 0), .ref g6, .int (nI 0), .ref g7, .ref g8, .ref g9, .ref g10, .ref g11, .ref g12])), (g1, .inl (cI, 9, .inl vg)), (g2, .inl (cI, 9, .inl vb)), (g3, .inl (cI, 9, .inl vr))]) [12, 13, 14, 15] rfl, hKN.warm hW, (hD.sub (ws' := [(m0, .inr (7, [.int (nI 1), .ref g1, .ref g2, .ref g3, .int (nI 0), .ref g4, .int (-1 : Int32), .ref g5, .int (nI 0), .ref g6, .int (nI 0), .ref g7, .ref g8, .ref g9, .ref g10, .ref g11, .ref g12])), (g1, .inl (cI, 9, .inl vg)), (g2, .inl (cI, 9, .inl vb)), (g3, .inl (cI, 9, .inl vr))]) [12, 13, 14, 15] (by decide) rfl).weaken (fun _ _ _ _ => trivial)⟩⟩ rfl rfl hl.1 rfl (lv_room (Nat.le_of_ble_eq_true rfl)) dL_law_208 ⟨Nat.le_of_ble_eq_true rfl, Nat.le_of_ble_eq_true rfl⟩) hS hP hD [12, 13, 14, 15] [0, 1, 2, 3, 4, 5, 6, 7, 8, 9, 10, 11, 16, 17, 18, 19, 20, 21, 22, 23, 24] rfl rfl rfl (by decide) (by decide) (fun r5 u5 H locs w5r hP hD hS => ?_)
    have w5 : B01 r5 (0 ≤ (xs (0 + 1)).toInt ∧ (xs (0 + 1)).toInt < 1 ∧ 1 ≤ (xs (0 + 2)).toInt ∧ (xs (0 + 2)).toInt ≤ 9 ∧ 1 ≤ (xs (0 + 3)).toInt ∧ (xs (0 + 3)).toInt ≤ 9 ∧ 0 ≤ (xs (0 + 4)).toInt ∧ (xs (0 + 4)).toInt ≤ 1000) := w5r
    clear w5r
    rcases w5 with ⟨rfl, w5⟩ | ⟨rfl, w5⟩
    · skip
      refine lv_icmp_eq (tgt := 883) hx hb dL_law_211 (by decide) (fun c6 => ?_) (fun c6 => ?_)
      · exact absurd c6 (by first | decide | exact nz_lt (by omega) | exact fun h => h (nz_ge (by omega)))
      · skip
        refine lv_iconst (v := nI 0) hx hb dL_law_214 (by decide) ?_
        exact (by first | exact absurd w1 w5 | exact absurd w5 w1 | exact w1.elim | exact w5.elim)
    · skip
      refine lv_icmp_eq (tgt := 883) hx hb dL_law_211 (by decide) (fun c7 => ?_) (fun c7 => ?_)
      · skip
        exact law_tail hL6 C0 _ _ _ hS (lv_sub hl [0, 3] rfl)
      · exact absurd c7 (by first | decide | exact nz_lt (by omega) | exact fun h => h (nz_ge (by omega)))
set_option maxHeartbeats 4000000 in
set_option maxRecDepth 100000 in
theorem law_c2 {p : Program} {l : Launch} {e : Env} {s : State} {m : MethodId} {below : List Frame} {meth : Method} {c : Code} {b L : Nat} {xs : Nat → Int32} (hL6 : L = 6) (C0 : lw_At p s m meth c b L xs) (D : va_G) (cI cJ cZ : ClassId) (hKN : KN D cI cJ cZ s) (x0 h4 a1 a2 a3 h3 b1 b2 h2 r1 h1 p4 p5 p6 hB l3 h5 lk1 m0 g1 g2 g3 g4 g5 g6 g7 g8 g9 g10 g11 g12 : Nat) (ug ub ur vg vb vr vn th : Nat → Int32) (hone : ∀ z, z < 9 → ug z = nI 1 ∧ ub z = nI 1 ∧ ur z = nI 1) (hmone : (∀ z, z < 9 → vg z = nI 1 ∧ vb z = nI 1 ∧ vr z = nI 1 ∧ vn z = -1) ∧ (∀ z, z < 9 → th z = nI (3 ^ z))) (hth : ∀ z, z < 9 → ¬ th z = 0) : ∀ (H : Heap) (locs : List Loc) (ls : Array Slot), va_P D vwCl [(x0, .inr (6, [.ref h4, .ref h3, .ref h2, .ref h1, .ref hB, .ref h5])), (h4, .inr (4, [.ref a1, .ref a2, .ref a3, .int (nI 1), .int (nI 0), .int (nI 0)])), (a1, .inl (cI, 9, .inl ug)), (a2, .inl (cI, 9, .inl ub)), (a3, .inl (cI, 9, .inl ur)), (h3, .inr (3, [.ref b1, .ref b2, .int (nI 1), .int (nI 0), .int (-1 : Int32)])), (b1, .inl (cJ, 320, .inr (.inl (fun _ => 0)))), (b2, .inl (cI, 9, .inl (fun _ => 0))), (h2, .inr (2, [.ref r1, .int (nI 0)])), (r1, .inl (cI, 9, .inl (fun _ => 0))), (h1, .inr (1, [.ref h4, .ref h3, .ref h2, .ref p4, .ref p5, .ref p6, .int (nI 0)])), (p4, .inl (cI, 9, .inl (fun _ => 0))), (p5, .inl (cJ, 0, .inr (.inl (fun _ => 0)))), (p6, .inl (cI, 0, .inl (fun _ => 0))), (hB, .inr (0, [.ref h4, .ref h3, .ref l3])), (l3, .inl (cI, 512, .inl (fun _ => 0))), (h5, .inr (5, [.ref lk1, .int (nI 0)])), (lk1, .inl (cI, 9, .inl (fun _ => 0))), (m0, .inr (7, [.int (nI 1), .ref g1, .ref g2, .ref g3, .int (nI 0), .ref g4, .int (-1 : Int32), .ref g5, .int (nI 0), .ref g6, .int (nI 0), .ref g7, .ref g8, .ref g9, .ref g10, .ref g11, .ref g12])), (g1, .inl (cI, 9, .inl vg)), (g2, .inl (cI, 9, .inl vb)), (g3, .inl (cI, 9, .inl vr)), (g4, .inl (cZ, 20480, .inl (fun _ => 0))), (g5, .inl (cI, 9, .inl vn)), (g6, .inl (cI, 9, .inl (fun _ => 0))), (g7, .inl (cI, 9, .inl (fun _ => 0))), (g8, .inl (cJ, 19683, .inr (.inl (fun _ => 0)))), (g9, .inl (cI, 19683, .inl (fun _ => 0))), (g10, .inl (cI, 19683, .inl (fun _ => 0))), (g11, .inl (cI, 19683, .inl (fun _ => 0))), (g12, .inl (cI, 9, .inl th))] H → va_D (fun q : Nat => s.heap.size ≤ q) [(x0, .inr (6, [.ref h4, .ref h3, .ref h2, .ref h1, .ref hB, .ref h5])), (h4, .inr (4, [.ref a1, .ref a2, .ref a3, .int (nI 1), .int (nI 0), .int (nI 0)])), (a1, .inl (cI, 9, .inl ug)), (a2, .inl (cI, 9, .inl ub)), (a3, .inl (cI, 9, .inl ur)), (h3, .inr (3, [.ref b1, .ref b2, .int (nI 1), .int (nI 0), .int (-1 : Int32)])), (b1, .inl (cJ, 320, .inr (.inl (fun _ => 0)))), (b2, .inl (cI, 9, .inl (fun _ => 0))), (h2, .inr (2, [.ref r1, .int (nI 0)])), (r1, .inl (cI, 9, .inl (fun _ => 0))), (h1, .inr (1, [.ref h4, .ref h3, .ref h2, .ref p4, .ref p5, .ref p6, .int (nI 0)])), (p4, .inl (cI, 9, .inl (fun _ => 0))), (p5, .inl (cJ, 0, .inr (.inl (fun _ => 0)))), (p6, .inl (cI, 0, .inl (fun _ => 0))), (hB, .inr (0, [.ref h4, .ref h3, .ref l3])), (l3, .inl (cI, 512, .inl (fun _ => 0))), (h5, .inr (5, [.ref lk1, .int (nI 0)])), (lk1, .inl (cI, 9, .inl (fun _ => 0))), (m0, .inr (7, [.int (nI 1), .ref g1, .ref g2, .ref g3, .int (nI 0), .ref g4, .int (-1 : Int32), .ref g5, .int (nI 0), .ref g6, .int (nI 0), .ref g7, .ref g8, .ref g9, .ref g10, .ref g11, .ref g12])), (g1, .inl (cI, 9, .inl vg)), (g2, .inl (cI, 9, .inl vb)), (g3, .inl (cI, 9, .inl vr)), (g4, .inl (cZ, 20480, .inl (fun _ => 0))), (g5, .inl (cI, 9, .inl vn)), (g6, .inl (cI, 9, .inl (fun _ => 0))), (g7, .inl (cI, 9, .inl (fun _ => 0))), (g8, .inl (cJ, 19683, .inr (.inl (fun _ => 0)))), (g9, .inl (cI, 19683, .inl (fun _ => 0))), (g10, .inl (cI, 19683, .inl (fun _ => 0))), (g11, .inl (cI, 19683, .inl (fun _ => 0))), (g12, .inl (cI, 9, .inl th))] → va_S (fun q : Nat => s.heap.size ≤ q) s.heap H locs → lv_has ls 4 [(3, .int (nI 0)), (2, .ref m0), (1, .ref x0), (0, .ref b)] → W p l e room_1 s m #[Value.ref b] below meth c H locs 31 100218 (lw_Z below #[Value.ref b] s) (F0 m 216 ls []) := by
  obtain ⟨hx, hb, hr, hml, hown, hts0, hX, hbl, hlocks, hgv⟩ := id C0
  have hts : ∀ w ∈ wsL_law, w.before #[Value.ref b] s = true := fun w h => hts0 w (wsL_law_in w h)
  have hown : s.vm.findClass RL = some m.cls := hown
  have hA : ∀ q : Nat, s.heap.size ≤ q → (fun q : Nat => s.heap.size ≤ q) q := fun _ h => h
  have hbA : ¬ (fun q : Nat => s.heap.size ≤ q) b := Nat.not_le.mpr hbl
  have hK := hKN.1
  intro H locs ls hP hD hS hl
  refine lv_aload_n hx hb dL_law_216 rfl (lv_at hl 2 rfl) ?_
  refine lv_aload_n hx hb dL_law_217 rfl (lv_at hl 3 rfl) ?_
  refine lv_iload_n hx hb dL_law_218 rfl (lv_at hl 0 rfl) ?_
  refine lv_iconst (v := nI 1) hx hb dL_law_219 (by decide) ?_
  refine lv_iadd hx hb dL_law_220 ?_
  refine cn_i (y := nI (0 + 1)) (nI_add 0 1) ?_
  refine va_sld hx hb hX hbl hbA hS (i := nI (0 + 1)) (vp_in_nI (by omega) (by omega)) dL_law_221 ?_
  refine cn_i (y := xs (0 + 1)) (congrArg xs (nI_clamp (by omega))) ?_
  refine mx_i (wc := [(x0, .inr (6, [.ref h4, .ref h3, .ref h2, .ref h1, .ref hB, .ref h5])), (h4, .inr (4, [.ref a1, .ref a2, .ref a3, .int (nI 1), .int (nI 0), .int (nI 0)])), (h3, .inr (3, [.ref b1, .ref b2, .int (nI 1), .int (nI 0), .int (-1 : Int32)])), (b1, .inl (cJ, 320, .inr (.inl (fun _ => 0))))]) (wr := [(a1, .inl (cI, 9, .inl ug)), (a2, .inl (cI, 9, .inl ub)), (a3, .inl (cI, 9, .inl ur)), (b2, .inl (cI, 9, .inl (fun _ => 0))), (h2, .inr (2, [.ref r1, .int (nI 0)])), (r1, .inl (cI, 9, .inl (fun _ => 0))), (h1, .inr (1, [.ref h4, .ref h3, .ref h2, .ref p4, .ref p5, .ref p6, .int (nI 0)])), (p4, .inl (cI, 9, .inl (fun _ => 0))), (p5, .inl (cJ, 0, .inr (.inl (fun _ => 0)))), (p6, .inl (cI, 0, .inl (fun _ => 0))), (hB, .inr (0, [.ref h4, .ref h3, .ref l3])), (l3, .inl (cI, 512, .inl (fun _ => 0))), (h5, .inr (5, [.ref lk1, .int (nI 0)])), (lk1, .inl (cI, 9, .inl (fun _ => 0))), (m0, .inr (7, [.int (nI 1), .ref g1, .ref g2, .ref g3, .int (nI 0), .ref g4, .int (-1 : Int32), .ref g5, .int (nI 0), .ref g6, .int (nI 0), .ref g7, .ref g8, .ref g9, .ref g10, .ref g11, .ref g12])), (g1, .inl (cI, 9, .inl vg)), (g2, .inl (cI, 9, .inl vb)), (g3, .inl (cI, 9, .inl vr)), (g4, .inl (cZ, 20480, .inl (fun _ => 0))), (g5, .inl (cI, 9, .inl vn)), (g6, .inl (cI, 9, .inl (fun _ => 0))), (g7, .inl (cI, 9, .inl (fun _ => 0))), (g8, .inl (cJ, 19683, .inr (.inl (fun _ => 0)))), (g9, .inl (cI, 19683, .inl (fun _ => 0))), (g10, .inl (cI, 19683, .inl (fun _ => 0))), (g11, .inl (cI, 19683, .inl (fun _ => 0))), (g12, .inl (cI, 9, .inl th))]) (va_runV (As := [.int (xs (0 + 1))]) (rest := []) ⟨hx, hb, hml, hown, hts⟩ (c_X6_single l D cI cJ cZ x0 h4 h3 h2 h1 hB h5 a1 a2 a3 b1 b2 1 0 (nI 0) (nI 0) (-1 : Int32) (xs (0 + 1)) (fun _ => 0) (by first | assumption | omega) (by first | assumption | omega)) (cwV 1 hts gL_law_X6_single rfl rfl rfl (by decide +kernel) ⟨Nat.le_of_ble_eq_true rfl, Nat.le_of_ble_eq_true rfl⟩) ⟨pm_blind, va_recv hK hP (ci := 6) (q0 := 0) rfl rfl, fun U hU hW => ⟨rfl, by rw [hU]; exact hP.sub (ws' := [(x0, .inr (6, [.ref h4, .ref h3, .ref h2, .ref h1, .ref hB, .ref h5])), (h4, .inr (4, [.ref a1, .ref a2, .ref a3, .int (nI 1), .int (nI 0), .int (nI 0)])), (h3, .inr (3, [.ref b1, .ref b2, .int (nI 1), .int (nI 0), .int (-1 : Int32)])), (b1, .inl (cJ, 320, .inr (.inl (fun _ => 0))))]) [0, 1, 5, 6] rfl, hKN.warm hW, (hD.sub (ws' := [(x0, .inr (6, [.ref h4, .ref h3, .ref h2, .ref h1, .ref hB, .ref h5])), (h4, .inr (4, [.ref a1, .ref a2, .ref a3, .int (nI 1), .int (nI 0), .int (nI 0)])), (h3, .inr (3, [.ref b1, .ref b2, .int (nI 1), .int (nI 0), .int (-1 : Int32)])), (b1, .inl (cJ, 320, .inr (.inl (fun _ => 0))))]) [0, 1, 5, 6] (by decide) rfl).weaken (fun _ _ _ _ => trivial)⟩⟩ rfl rfl hl.1 rfl (lv_room (Nat.le_of_ble_eq_true rfl)) dL_law_222 ⟨Nat.le_of_ble_eq_true rfl, Nat.le_of_ble_eq_true rfl⟩) hS hP hD [0, 1, 5, 6] [2, 3, 4, 7, 8, 9, 10, 11, 12, 13, 14, 15, 16, 17, 18, 19, 20, 21, 22, 23, 24, 25, 26, 27, 28, 29, 30] rfl rfl rfl (by decide) (by decide) (fun r1 u1 H locs w1r hP hD hS => ?_)
  have w1 : R1 r1 (nI 0) (0 ≤ (xs (0 + 1)).toInt ∧ (xs (0 + 1)).toInt < 1 ∧ 0 < 40) := w1r
  clear w1r
  rcases w1 with ⟨rfl, w1⟩ | ⟨rfl, w1⟩
  · skip
    refine lv_aload_n hx hb dL_law_225 rfl (lv_at hl 1 rfl) ?_
    refine lv_aload_n hx hb dL_law_226 rfl (lv_at hl 3 rfl) ?_
    refine lv_iload_n hx hb dL_law_227 rfl (lv_at hl 0 rfl) ?_
    refine lv_iconst (v := nI 1) hx hb dL_law_228 (by decide) ?_
    refine lv_iadd hx hb dL_law_229 ?_
    refine cn_i (y := nI (0 + 1)) (nI_add 0 1) ?_
    refine va_sld hx hb hX hbl hbA hS (i := nI (0 + 1)) (vp_in_nI (by omega) (by omega)) dL_law_230 ?_
    refine cn_i (y := xs (0 + 1)) (congrArg xs (nI_clamp (by omega))) ?_
    refine mx_i (wc := [(m0, .inr (7, [.int (nI 1), .ref g1, .ref g2, .ref g3, .int (nI 0), .ref g4, .int (-1 : Int32), .ref g5, .int (nI 0), .ref g6, .int (nI 0), .ref g7, .ref g8, .ref g9, .ref g10, .ref g11, .ref g12])), (g4, .inl (cZ, 20480, .inl (fun _ => 0)))]) (wr := [(a1, .inl (cI, 9, .inl ug)), (a2, .inl (cI, 9, .inl ub)), (a3, .inl (cI, 9, .inl ur)), (b2, .inl (cI, 9, .inl (fun _ => 0))), (h2, .inr (2, [.ref r1, .int (nI 0)])), (r1, .inl (cI, 9, .inl (fun _ => 0))), (h1, .inr (1, [.ref h4, .ref h3, .ref h2, .ref p4, .ref p5, .ref p6, .int (nI 0)])), (p4, .inl (cI, 9, .inl (fun _ => 0))), (p5, .inl (cJ, 0, .inr (.inl (fun _ => 0)))), (p6, .inl (cI, 0, .inl (fun _ => 0))), (hB, .inr (0, [.ref h4, .ref h3, .ref l3])), (l3, .inl (cI, 512, .inl (fun _ => 0))), (h5, .inr (5, [.ref lk1, .int (nI 0)])), (lk1, .inl (cI, 9, .inl (fun _ => 0))), (g1, .inl (cI, 9, .inl vg)), (g2, .inl (cI, 9, .inl vb)), (g3, .inl (cI, 9, .inl vr)), (g5, .inl (cI, 9, .inl vn)), (g6, .inl (cI, 9, .inl (fun _ => 0))), (g7, .inl (cI, 9, .inl (fun _ => 0))), (g8, .inl (cJ, 19683, .inr (.inl (fun _ => 0)))), (g9, .inl (cI, 19683, .inl (fun _ => 0))), (g10, .inl (cI, 19683, .inl (fun _ => 0))), (g11, .inl (cI, 19683, .inl (fun _ => 0))), (g12, .inl (cI, 9, .inl th))]) (va_runV (As := [.int (xs (0 + 1))]) (rest := [.int (nI 0)]) ⟨hx, hb, hml, hown, hts⟩ (c_X7_single l D cI cJ cZ m0 g1 g2 g3 g4 g5 g6 g7 g8 g9 g10 g11 g12 1 0 (-1 : Int32) (nI 0) (nI 0) (xs (0 + 1)) (fun _ => 0) (by first | assumption | omega) (by first | assumption | omega) (by first | assumption | omega)) (cwV 1 hts gL_law_X7_single rfl rfl rfl (by decide +kernel) ⟨Nat.le_of_ble_eq_true rfl, Nat.le_of_ble_eq_true rfl⟩) ⟨pm_blind, va_recv hK hP (ci := 7) (q0 := 14) rfl rfl, fun U hU hW => ⟨rfl, by rw [hU]; exact hP.sub (ws' := [(m0, .inr (7, [.int (nI 1), .ref g1, .ref g2, .ref g3, .int (nI 0), .ref g4, .int (-1 : Int32), .ref g5, .int (nI 0), .ref g6, .int (nI 0), .ref g7, .ref g8, .ref g9, .ref g10, .ref g11, .ref g12])), (g4, .inl (cZ, 20480, .inl (fun _ => 0)))]) [14, 18] rfl, hKN.warm hW, (hD.sub (ws' := [(m0, .inr (7, [.int (nI 1), .ref g1, .ref g2, .ref g3, .int (nI 0), .ref g4, .int (-1 : Int32), .ref g5, .int (nI 0), .ref g6, .int (nI 0), .ref g7, .ref g8, .ref g9, .ref g10, .ref g11, .ref g12])), (g4, .inl (cZ, 20480, .inl (fun _ => 0)))]) [14, 18] (by decide) rfl).weaken (fun _ _ _ _ => trivial)⟩⟩ rfl rfl hl.1 rfl (lv_room (Nat.le_of_ble_eq_true rfl)) dL_law_231 ⟨Nat.le_of_ble_eq_true rfl, Nat.le_of_ble_eq_true rfl⟩) hS hP hD [14, 18] [0, 1, 2, 3, 4, 5, 6, 7, 8, 9, 10, 11, 12, 13, 15, 16, 17, 19, 20, 21, 22, 23, 24, 25, 26] rfl rfl rfl (by decide) (by decide) (fun r2 u2 H locs w2r hP hD hS => ?_)
    have w2 : R1 r2 (nI 0) (0 ≤ (xs (0 + 1)).toInt ∧ (xs (0 + 1)).toInt < 1 ∧ 0 < 40) := w2r
    clear w2r
    rcases w2 with ⟨rfl, w2⟩ | ⟨rfl, w2⟩
    · skip
      refine lv_icmp_eq (tgt := 883) hx hb dL_law_234 (by decide) (fun c3 => ?_) (fun c3 => ?_)
      · skip
        exact law_tail hL6 C0 _ _ _ hS (lv_sub hl [0, 3] rfl)
      · exact absurd c3 (by first | decide | exact nz_lt (by omega) | exact fun h => h (nz_ge (by omega)))
    · skip
      refine lv_icmp_eq (tgt := 883) hx hb dL_law_234 (by decide) (fun c4 => ?_) (fun c4 => ?_)
      · exact absurd c4 (by first | decide | exact nz_lt (by omega) | exact fun h => h (nz_ge (by omega)))
      · skip
        refine lv_iconst (v := nI 0) hx hb dL_law_237 (by decide) ?_
        exact (by first | exact absurd w1 w2 | exact absurd w2 w1 | exact w1.elim | exact w2.elim)
  · skip
    refine lv_aload_n hx hb dL_law_225 rfl (lv_at hl 1 rfl) ?_
    refine lv_aload_n hx hb dL_law_226 rfl (lv_at hl 3 rfl) ?_
    refine lv_iload_n hx hb dL_law_227 rfl (lv_at hl 0 rfl) ?_
    refine lv_iconst (v := nI 1) hx hb dL_law_228 (by decide) ?_
    refine lv_iadd hx hb dL_law_229 ?_
    refine cn_i (y := nI (0 + 1)) (nI_add 0 1) ?_
    refine va_sld hx hb hX hbl hbA hS (i := nI (0 + 1)) (vp_in_nI (by omega) (by omega)) dL_law_230 ?_
    refine cn_i (y := xs (0 + 1)) (congrArg xs (nI_clamp (by omega))) ?_
    refine mx_i (wc := [(m0, .inr (7, [.int (nI 1), .ref g1, .ref g2, .ref g3, .int (nI 0), .ref g4, .int (-1 : Int32), .ref g5, .int (nI 0), .ref g6, .int (nI 0), .ref g7, .ref g8, .ref g9, .ref g10, .ref g11, .ref g12])), (g4, .inl (cZ, 20480, .inl (fun _ => 0)))]) (wr := [(a1, .inl (cI, 9, .inl ug)), (a2, .inl (cI, 9, .inl ub)), (a3, .inl (cI, 9, .inl ur)), (b2, .inl (cI, 9, .inl (fun _ => 0))), (h2, .inr (2, [.ref r1, .int (nI 0)])), (r1, .inl (cI, 9, .inl (fun _ => 0))), (h1, .inr (1, [.ref h4, .ref h3, .ref h2, .ref p4, .ref p5, .ref p6, .int (nI 0)])), (p4, .inl (cI, 9, .inl (fun _ => 0))), (p5, .inl (cJ, 0, .inr (.inl (fun _ => 0)))), (p6, .inl (cI, 0, .inl (fun _ => 0))), (hB, .inr (0, [.ref h4, .ref h3, .ref l3])), (l3, .inl (cI, 512, .inl (fun _ => 0))), (h5, .inr (5, [.ref lk1, .int (nI 0)])), (lk1, .inl (cI, 9, .inl (fun _ => 0))), (g1, .inl (cI, 9, .inl vg)), (g2, .inl (cI, 9, .inl vb)), (g3, .inl (cI, 9, .inl vr)), (g5, .inl (cI, 9, .inl vn)), (g6, .inl (cI, 9, .inl (fun _ => 0))), (g7, .inl (cI, 9, .inl (fun _ => 0))), (g8, .inl (cJ, 19683, .inr (.inl (fun _ => 0)))), (g9, .inl (cI, 19683, .inl (fun _ => 0))), (g10, .inl (cI, 19683, .inl (fun _ => 0))), (g11, .inl (cI, 19683, .inl (fun _ => 0))), (g12, .inl (cI, 9, .inl th))]) (va_runV (As := [.int (xs (0 + 1))]) (rest := [.int (-1 : Int32)]) ⟨hx, hb, hml, hown, hts⟩ (c_X7_single l D cI cJ cZ m0 g1 g2 g3 g4 g5 g6 g7 g8 g9 g10 g11 g12 1 0 (-1 : Int32) (nI 0) (nI 0) (xs (0 + 1)) (fun _ => 0) (by first | assumption | omega) (by first | assumption | omega) (by first | assumption | omega)) (cwV 1 hts gL_law_X7_single rfl rfl rfl (by decide +kernel) ⟨Nat.le_of_ble_eq_true rfl, Nat.le_of_ble_eq_true rfl⟩) ⟨pm_blind, va_recv hK hP (ci := 7) (q0 := 14) rfl rfl, fun U hU hW => ⟨rfl, by rw [hU]; exact hP.sub (ws' := [(m0, .inr (7, [.int (nI 1), .ref g1, .ref g2, .ref g3, .int (nI 0), .ref g4, .int (-1 : Int32), .ref g5, .int (nI 0), .ref g6, .int (nI 0), .ref g7, .ref g8, .ref g9, .ref g10, .ref g11, .ref g12])), (g4, .inl (cZ, 20480, .inl (fun _ => 0)))]) [14, 18] rfl, hKN.warm hW, (hD.sub (ws' := [(m0, .inr (7, [.int (nI 1), .ref g1, .ref g2, .ref g3, .int (nI 0), .ref g4, .int (-1 : Int32), .ref g5, .int (nI 0), .ref g6, .int (nI 0), .ref g7, .ref g8, .ref g9, .ref g10, .ref g11, .ref g12])), (g4, .inl (cZ, 20480, .inl (fun _ => 0)))]) [14, 18] (by decide) rfl).weaken (fun _ _ _ _ => trivial)⟩⟩ rfl rfl hl.1 rfl (lv_room (Nat.le_of_ble_eq_true rfl)) dL_law_231 ⟨Nat.le_of_ble_eq_true rfl, Nat.le_of_ble_eq_true rfl⟩) hS hP hD [14, 18] [0, 1, 2, 3, 4, 5, 6, 7, 8, 9, 10, 11, 12, 13, 15, 16, 17, 19, 20, 21, 22, 23, 24, 25, 26] rfl rfl rfl (by decide) (by decide) (fun r5 u5 H locs w5r hP hD hS => ?_)
    have w5 : R1 r5 (nI 0) (0 ≤ (xs (0 + 1)).toInt ∧ (xs (0 + 1)).toInt < 1 ∧ 0 < 40) := w5r
    clear w5r
    rcases w5 with ⟨rfl, w5⟩ | ⟨rfl, w5⟩
    · skip
      refine lv_icmp_eq (tgt := 883) hx hb dL_law_234 (by decide) (fun c6 => ?_) (fun c6 => ?_)
      · exact absurd c6 (by first | decide | exact nz_lt (by omega) | exact fun h => h (nz_ge (by omega)))
      · skip
        refine lv_iconst (v := nI 0) hx hb dL_law_237 (by decide) ?_
        exact (by first | exact absurd w1 w5 | exact absurd w5 w1 | exact w1.elim | exact w5.elim)
    · skip
      refine lv_icmp_eq (tgt := 883) hx hb dL_law_234 (by decide) (fun c7 => ?_) (fun c7 => ?_)
      · skip
        exact law_tail hL6 C0 _ _ _ hS (lv_sub hl [0, 3] rfl)
      · exact absurd c7 (by first | decide | exact nz_lt (by omega) | exact fun h => h (nz_ge (by omega)))
set_option maxHeartbeats 4000000 in
set_option maxRecDepth 100000 in
theorem law_c3 {p : Program} {l : Launch} {e : Env} {s : State} {m : MethodId} {below : List Frame} {meth : Method} {c : Code} {b L : Nat} {xs : Nat → Int32} (hL6 : L = 6) (C0 : lw_At p s m meth c b L xs) (D : va_G) (cI cJ cZ : ClassId) (hKN : KN D cI cJ cZ s) (x0 h4 a1 a2 a3 h3 b1 b2 h2 r1 h1 p4 p5 p6 hB l3 h5 lk1 m0 g1 g2 g3 g4 g5 g6 g7 g8 g9 g10 g11 g12 : Nat) (ug ub ur vg vb vr vn th : Nat → Int32) (hone : ∀ z, z < 9 → ug z = nI 1 ∧ ub z = nI 1 ∧ ur z = nI 1) (hmone : (∀ z, z < 9 → vg z = nI 1 ∧ vb z = nI 1 ∧ vr z = nI 1 ∧ vn z = -1) ∧ (∀ z, z < 9 → th z = nI (3 ^ z))) (hth : ∀ z, z < 9 → ¬ th z = 0) : ∀ (H : Heap) (locs : List Loc) (ls : Array Slot), va_P D vwCl [(x0, .inr (6, [.ref h4, .ref h3, .ref h2, .ref h1, .ref hB, .ref h5])), (h4, .inr (4, [.ref a1, .ref a2, .ref a3, .int (nI 1), .int (nI 0), .int (nI 0)])), (a1, .inl (cI, 9, .inl ug)), (a2, .inl (cI, 9, .inl ub)), (a3, .inl (cI, 9, .inl ur)), (h3, .inr (3, [.ref b1, .ref b2, .int (nI 1), .int (nI 0), .int (-1 : Int32)])), (b1, .inl (cJ, 320, .inr (.inl (fun _ => 0)))), (b2, .inl (cI, 9, .inl (fun _ => 0))), (h2, .inr (2, [.ref r1, .int (nI 0)])), (r1, .inl (cI, 9, .inl (fun _ => 0))), (h1, .inr (1, [.ref h4, .ref h3, .ref h2, .ref p4, .ref p5, .ref p6, .int (nI 0)])), (p4, .inl (cI, 9, .inl (fun _ => 0))), (p5, .inl (cJ, 0, .inr (.inl (fun _ => 0)))), (p6, .inl (cI, 0, .inl (fun _ => 0))), (hB, .inr (0, [.ref h4, .ref h3, .ref l3])), (l3, .inl (cI, 512, .inl (fun _ => 0))), (h5, .inr (5, [.ref lk1, .int (nI 0)])), (lk1, .inl (cI, 9, .inl (fun _ => 0))), (m0, .inr (7, [.int (nI 1), .ref g1, .ref g2, .ref g3, .int (nI 0), .ref g4, .int (-1 : Int32), .ref g5, .int (nI 0), .ref g6, .int (nI 0), .ref g7, .ref g8, .ref g9, .ref g10, .ref g11, .ref g12])), (g1, .inl (cI, 9, .inl vg)), (g2, .inl (cI, 9, .inl vb)), (g3, .inl (cI, 9, .inl vr)), (g4, .inl (cZ, 20480, .inl (fun _ => 0))), (g5, .inl (cI, 9, .inl vn)), (g6, .inl (cI, 9, .inl (fun _ => 0))), (g7, .inl (cI, 9, .inl (fun _ => 0))), (g8, .inl (cJ, 19683, .inr (.inl (fun _ => 0)))), (g9, .inl (cI, 19683, .inl (fun _ => 0))), (g10, .inl (cI, 19683, .inl (fun _ => 0))), (g11, .inl (cI, 19683, .inl (fun _ => 0))), (g12, .inl (cI, 9, .inl th))] H → va_D (fun q : Nat => s.heap.size ≤ q) [(x0, .inr (6, [.ref h4, .ref h3, .ref h2, .ref h1, .ref hB, .ref h5])), (h4, .inr (4, [.ref a1, .ref a2, .ref a3, .int (nI 1), .int (nI 0), .int (nI 0)])), (a1, .inl (cI, 9, .inl ug)), (a2, .inl (cI, 9, .inl ub)), (a3, .inl (cI, 9, .inl ur)), (h3, .inr (3, [.ref b1, .ref b2, .int (nI 1), .int (nI 0), .int (-1 : Int32)])), (b1, .inl (cJ, 320, .inr (.inl (fun _ => 0)))), (b2, .inl (cI, 9, .inl (fun _ => 0))), (h2, .inr (2, [.ref r1, .int (nI 0)])), (r1, .inl (cI, 9, .inl (fun _ => 0))), (h1, .inr (1, [.ref h4, .ref h3, .ref h2, .ref p4, .ref p5, .ref p6, .int (nI 0)])), (p4, .inl (cI, 9, .inl (fun _ => 0))), (p5, .inl (cJ, 0, .inr (.inl (fun _ => 0)))), (p6, .inl (cI, 0, .inl (fun _ => 0))), (hB, .inr (0, [.ref h4, .ref h3, .ref l3])), (l3, .inl (cI, 512, .inl (fun _ => 0))), (h5, .inr (5, [.ref lk1, .int (nI 0)])), (lk1, .inl (cI, 9, .inl (fun _ => 0))), (m0, .inr (7, [.int (nI 1), .ref g1, .ref g2, .ref g3, .int (nI 0), .ref g4, .int (-1 : Int32), .ref g5, .int (nI 0), .ref g6, .int (nI 0), .ref g7, .ref g8, .ref g9, .ref g10, .ref g11, .ref g12])), (g1, .inl (cI, 9, .inl vg)), (g2, .inl (cI, 9, .inl vb)), (g3, .inl (cI, 9, .inl vr)), (g4, .inl (cZ, 20480, .inl (fun _ => 0))), (g5, .inl (cI, 9, .inl vn)), (g6, .inl (cI, 9, .inl (fun _ => 0))), (g7, .inl (cI, 9, .inl (fun _ => 0))), (g8, .inl (cJ, 19683, .inr (.inl (fun _ => 0)))), (g9, .inl (cI, 19683, .inl (fun _ => 0))), (g10, .inl (cI, 19683, .inl (fun _ => 0))), (g11, .inl (cI, 19683, .inl (fun _ => 0))), (g12, .inl (cI, 9, .inl th))] → va_S (fun q : Nat => s.heap.size ≤ q) s.heap H locs → lv_has ls 4 [(3, .int (nI 0)), (2, .ref m0), (1, .ref x0), (0, .ref b)] → W p l e room_1 s m #[Value.ref b] below meth c H locs 31 100218 (lw_Z below #[Value.ref b] s) (F0 m 239 ls []) := by
  obtain ⟨hx, hb, hr, hml, hown, hts0, hX, hbl, hlocks, hgv⟩ := id C0
  have hts : ∀ w ∈ wsL_law, w.before #[Value.ref b] s = true := fun w h => hts0 w (wsL_law_in w h)
  have hown : s.vm.findClass RL = some m.cls := hown
  have hA : ∀ q : Nat, s.heap.size ≤ q → (fun q : Nat => s.heap.size ≤ q) q := fun _ h => h
  have hbA : ¬ (fun q : Nat => s.heap.size ≤ q) b := Nat.not_le.mpr hbl
  have hK := hKN.1
  intro H locs ls hP hD hS hl
  refine lv_aload_n hx hb dL_law_239 rfl (lv_at hl 2 rfl) ?_
  refine lv_aload_n hx hb dL_law_240 rfl (lv_at hl 3 rfl) ?_
  refine lv_iload_n hx hb dL_law_241 rfl (lv_at hl 0 rfl) ?_
  refine lv_iconst (v := nI 1) hx hb dL_law_242 (by decide) ?_
  refine lv_iadd hx hb dL_law_243 ?_
  refine cn_i (y := nI (0 + 1)) (nI_add 0 1) ?_
  refine va_sld hx hb hX hbl hbA hS (i := nI (0 + 1)) (vp_in_nI (by omega) (by omega)) dL_law_244 ?_
  refine cn_i (y := xs (0 + 1)) (congrArg xs (nI_clamp (by omega))) ?_
  refine lv_aload_n hx hb dL_law_245 rfl (lv_at hl 3 rfl) ?_
  refine lv_iload_n hx hb dL_law_246 rfl (lv_at hl 0 rfl) ?_
  refine lv_iconst (v := nI 2) hx hb dL_law_247 (by decide) ?_
  refine lv_iadd hx hb dL_law_248 ?_
  refine cn_i (y := nI (0 + 2)) (nI_add 0 2) ?_
  refine va_sld hx hb hX hbl hbA hS (i := nI (0 + 2)) (vp_in_nI (by omega) (by omega)) dL_law_249 ?_
  refine cn_i (y := xs (0 + 2)) (congrArg xs (nI_clamp (by omega))) ?_
  refine pu_i (va_runV (As := [.int (xs (0 + 1)), .int (xs (0 + 2))]) (rest := []) ⟨hx, hb, hml, hown, hts⟩ (c_X6_row l D cI cJ cZ x0 h4 h3 h2 h1 hB h5 b1 b2 (nI 1) (-1 : Int32) (xs (0 + 1)) (xs (0 + 2))) (cwV 2 hts gL_law_X6_row rfl rfl rfl (by decide +kernel) ⟨Nat.le_of_ble_eq_true rfl, Nat.le_of_ble_eq_true rfl⟩) ⟨pc_blind, va_recv hK hP (ci := 6) (q0 := 0) rfl rfl, fun U hU hW => ⟨rfl, by rw [hU]; exact hP.sub (ws' := [(x0, .inr (6, [.ref h4, .ref h3, .ref h2, .ref h1, .ref hB, .ref h5])), (h3, .inr (3, [.ref b1, .ref b2, .int (nI 1), .int (nI 0), .int (-1 : Int32)]))]) [0, 5] rfl, hKN.warm hW⟩⟩ rfl rfl hl.1 rfl (lv_room (Nat.le_of_ble_eq_true rfl)) dL_law_250 ⟨Nat.le_of_ble_eq_true rfl, Nat.le_of_ble_eq_true rfl⟩) hS hP (fun r1 H locs w1r hP hS => ?_)
  have w1 : r1 = -1 := w1r
  clear w1r
  obtain rfl : r1 = (-1 : Int32) := w1
  refine lv_aload_n hx hb dL_law_253 rfl (lv_at hl 1 rfl) ?_
  refine lv_aload_n hx hb dL_law_254 rfl (lv_at hl 3 rfl) ?_
  refine lv_iload_n hx hb dL_law_255 rfl (lv_at hl 0 rfl) ?_
  refine lv_iconst (v := nI 1) hx hb dL_law_256 (by decide) ?_
  refine lv_iadd hx hb dL_law_257 ?_
  refine cn_i (y := nI (0 + 1)) (nI_add 0 1) ?_
  refine va_sld hx hb hX hbl hbA hS (i := nI (0 + 1)) (vp_in_nI (by omega) (by omega)) dL_law_258 ?_
  refine cn_i (y := xs (0 + 1)) (congrArg xs (nI_clamp (by omega))) ?_
  refine lv_aload_n hx hb dL_law_259 rfl (lv_at hl 3 rfl) ?_
  refine lv_iload_n hx hb dL_law_260 rfl (lv_at hl 0 rfl) ?_
  refine lv_iconst (v := nI 2) hx hb dL_law_261 (by decide) ?_
  refine lv_iadd hx hb dL_law_262 ?_
  refine cn_i (y := nI (0 + 2)) (nI_add 0 2) ?_
  refine va_sld hx hb hX hbl hbA hS (i := nI (0 + 2)) (vp_in_nI (by omega) (by omega)) dL_law_263 ?_
  refine cn_i (y := xs (0 + 2)) (congrArg xs (nI_clamp (by omega))) ?_
  refine pu_i (va_runV (As := [.int (xs (0 + 1)), .int (xs (0 + 2))]) (rest := [.int (-1 : Int32)]) ⟨hx, hb, hml, hown, hts⟩ (c_X7_row l D cI cJ cZ m0 g1 g2 g3 g4 g5 g6 g7 g8 g9 g10 g11 g12 (nI 1) (-1 : Int32) (nI 0) (nI 0) (xs (0 + 1)) (xs (0 + 2))) (cwV 2 hts gL_law_X7_row rfl rfl rfl (by decide +kernel) ⟨Nat.le_of_ble_eq_true rfl, Nat.le_of_ble_eq_true rfl⟩) ⟨pc_blind, va_recv hK hP (ci := 7) (q0 := 18) rfl rfl, fun U hU hW => ⟨rfl, by rw [hU]; exact hP.sub (ws' := [(m0, .inr (7, [.int (nI 1), .ref g1, .ref g2, .ref g3, .int (nI 0), .ref g4, .int (-1 : Int32), .ref g5, .int (nI 0), .ref g6, .int (nI 0), .ref g7, .ref g8, .ref g9, .ref g10, .ref g11, .ref g12]))]) [18] rfl, hKN.warm hW⟩⟩ rfl rfl hl.1 rfl (lv_room (Nat.le_of_ble_eq_true rfl)) dL_law_264 ⟨Nat.le_of_ble_eq_true rfl, Nat.le_of_ble_eq_true rfl⟩) hS hP (fun r2 H locs w2r hP hS => ?_)
  have w2 : r2 = -1 := w2r
  clear w2r
  obtain rfl : r2 = (-1 : Int32) := w2
  refine lv_icmp_eq (tgt := 883) hx hb dL_law_267 (by decide) (fun c3 => ?_) (fun c3 => ?_)
  · skip
    exact law_tail hL6 C0 _ _ _ hS (lv_sub hl [0, 3] rfl)
  · exact absurd c3 (by first | decide | exact nz_lt (by omega) | exact fun h => h (nz_ge (by omega)))
set_option maxHeartbeats 4000000 in
set_option maxRecDepth 100000 in
theorem law_c4 {p : Program} {l : Launch} {e : Env} {s : State} {m : MethodId} {below : List Frame} {meth : Method} {c : Code} {b L : Nat} {xs : Nat → Int32} (hL6 : L = 6) (C0 : lw_At p s m meth c b L xs) (D : va_G) (cI cJ cZ : ClassId) (hKN : KN D cI cJ cZ s) (x0 h4 a1 a2 a3 h3 b1 b2 h2 r1 h1 p4 p5 p6 hB l3 h5 lk1 m0 g1 g2 g3 g4 g5 g6 g7 g8 g9 g10 g11 g12 : Nat) (ug ub ur vg vb vr vn th : Nat → Int32) (hone : ∀ z, z < 9 → ug z = nI 1 ∧ ub z = nI 1 ∧ ur z = nI 1) (hmone : (∀ z, z < 9 → vg z = nI 1 ∧ vb z = nI 1 ∧ vr z = nI 1 ∧ vn z = -1) ∧ (∀ z, z < 9 → th z = nI (3 ^ z))) (hth : ∀ z, z < 9 → ¬ th z = 0) : ∀ (H : Heap) (locs : List Loc) (ls : Array Slot), va_P D vwCl [(x0, .inr (6, [.ref h4, .ref h3, .ref h2, .ref h1, .ref hB, .ref h5])), (h4, .inr (4, [.ref a1, .ref a2, .ref a3, .int (nI 1), .int (nI 0), .int (nI 0)])), (a1, .inl (cI, 9, .inl ug)), (a2, .inl (cI, 9, .inl ub)), (a3, .inl (cI, 9, .inl ur)), (h3, .inr (3, [.ref b1, .ref b2, .int (nI 1), .int (nI 0), .int (-1 : Int32)])), (b1, .inl (cJ, 320, .inr (.inl (fun _ => 0)))), (b2, .inl (cI, 9, .inl (fun _ => 0))), (h2, .inr (2, [.ref r1, .int (nI 0)])), (r1, .inl (cI, 9, .inl (fun _ => 0))), (h1, .inr (1, [.ref h4, .ref h3, .ref h2, .ref p4, .ref p5, .ref p6, .int (nI 0)])), (p4, .inl (cI, 9, .inl (fun _ => 0))), (p5, .inl (cJ, 0, .inr (.inl (fun _ => 0)))), (p6, .inl (cI, 0, .inl (fun _ => 0))), (hB, .inr (0, [.ref h4, .ref h3, .ref l3])), (l3, .inl (cI, 512, .inl (fun _ => 0))), (h5, .inr (5, [.ref lk1, .int (nI 0)])), (lk1, .inl (cI, 9, .inl (fun _ => 0))), (m0, .inr (7, [.int (nI 1), .ref g1, .ref g2, .ref g3, .int (nI 0), .ref g4, .int (-1 : Int32), .ref g5, .int (nI 0), .ref g6, .int (nI 0), .ref g7, .ref g8, .ref g9, .ref g10, .ref g11, .ref g12])), (g1, .inl (cI, 9, .inl vg)), (g2, .inl (cI, 9, .inl vb)), (g3, .inl (cI, 9, .inl vr)), (g4, .inl (cZ, 20480, .inl (fun _ => 0))), (g5, .inl (cI, 9, .inl vn)), (g6, .inl (cI, 9, .inl (fun _ => 0))), (g7, .inl (cI, 9, .inl (fun _ => 0))), (g8, .inl (cJ, 19683, .inr (.inl (fun _ => 0)))), (g9, .inl (cI, 19683, .inl (fun _ => 0))), (g10, .inl (cI, 19683, .inl (fun _ => 0))), (g11, .inl (cI, 19683, .inl (fun _ => 0))), (g12, .inl (cI, 9, .inl th))] H → va_D (fun q : Nat => s.heap.size ≤ q) [(x0, .inr (6, [.ref h4, .ref h3, .ref h2, .ref h1, .ref hB, .ref h5])), (h4, .inr (4, [.ref a1, .ref a2, .ref a3, .int (nI 1), .int (nI 0), .int (nI 0)])), (a1, .inl (cI, 9, .inl ug)), (a2, .inl (cI, 9, .inl ub)), (a3, .inl (cI, 9, .inl ur)), (h3, .inr (3, [.ref b1, .ref b2, .int (nI 1), .int (nI 0), .int (-1 : Int32)])), (b1, .inl (cJ, 320, .inr (.inl (fun _ => 0)))), (b2, .inl (cI, 9, .inl (fun _ => 0))), (h2, .inr (2, [.ref r1, .int (nI 0)])), (r1, .inl (cI, 9, .inl (fun _ => 0))), (h1, .inr (1, [.ref h4, .ref h3, .ref h2, .ref p4, .ref p5, .ref p6, .int (nI 0)])), (p4, .inl (cI, 9, .inl (fun _ => 0))), (p5, .inl (cJ, 0, .inr (.inl (fun _ => 0)))), (p6, .inl (cI, 0, .inl (fun _ => 0))), (hB, .inr (0, [.ref h4, .ref h3, .ref l3])), (l3, .inl (cI, 512, .inl (fun _ => 0))), (h5, .inr (5, [.ref lk1, .int (nI 0)])), (lk1, .inl (cI, 9, .inl (fun _ => 0))), (m0, .inr (7, [.int (nI 1), .ref g1, .ref g2, .ref g3, .int (nI 0), .ref g4, .int (-1 : Int32), .ref g5, .int (nI 0), .ref g6, .int (nI 0), .ref g7, .ref g8, .ref g9, .ref g10, .ref g11, .ref g12])), (g1, .inl (cI, 9, .inl vg)), (g2, .inl (cI, 9, .inl vb)), (g3, .inl (cI, 9, .inl vr)), (g4, .inl (cZ, 20480, .inl (fun _ => 0))), (g5, .inl (cI, 9, .inl vn)), (g6, .inl (cI, 9, .inl (fun _ => 0))), (g7, .inl (cI, 9, .inl (fun _ => 0))), (g8, .inl (cJ, 19683, .inr (.inl (fun _ => 0)))), (g9, .inl (cI, 19683, .inl (fun _ => 0))), (g10, .inl (cI, 19683, .inl (fun _ => 0))), (g11, .inl (cI, 19683, .inl (fun _ => 0))), (g12, .inl (cI, 9, .inl th))] → va_S (fun q : Nat => s.heap.size ≤ q) s.heap H locs → lv_has ls 4 [(3, .int (nI 0)), (2, .ref m0), (1, .ref x0), (0, .ref b)] → W p l e room_1 s m #[Value.ref b] below meth c H locs 31 100218 (lw_Z below #[Value.ref b] s) (F0 m 272 ls []) := by
  obtain ⟨hx, hb, hr, hml, hown, hts0, hX, hbl, hlocks, hgv⟩ := id C0
  have hts : ∀ w ∈ wsL_law, w.before #[Value.ref b] s = true := fun w h => hts0 w (wsL_law_in w h)
  have hown : s.vm.findClass RL = some m.cls := hown
  have hA : ∀ q : Nat, s.heap.size ≤ q → (fun q : Nat => s.heap.size ≤ q) q := fun _ h => h
  have hbA : ¬ (fun q : Nat => s.heap.size ≤ q) b := Nat.not_le.mpr hbl
  have hK := hKN.1
  intro H locs ls hP hD hS hl
  refine lv_aload_n hx hb dL_law_272 rfl (lv_at hl 2 rfl) ?_
  refine lv_aload_n hx hb dL_law_273 rfl (lv_at hl 3 rfl) ?_
  refine lv_iload_n hx hb dL_law_274 rfl (lv_at hl 0 rfl) ?_
  refine lv_iconst (v := nI 1) hx hb dL_law_275 (by decide) ?_
  refine lv_iadd hx hb dL_law_276 ?_
  refine cn_i (y := nI (0 + 1)) (nI_add 0 1) ?_
  refine va_sld hx hb hX hbl hbA hS (i := nI (0 + 1)) (vp_in_nI (by omega) (by omega)) dL_law_277 ?_
  refine cn_i (y := xs (0 + 1)) (congrArg xs (nI_clamp (by omega))) ?_
  refine lv_aload_n hx hb dL_law_278 rfl (lv_at hl 3 rfl) ?_
  refine lv_iload_n hx hb dL_law_279 rfl (lv_at hl 0 rfl) ?_
  refine lv_iconst (v := nI 2) hx hb dL_law_280 (by decide) ?_
  refine lv_iadd hx hb dL_law_281 ?_
  refine cn_i (y := nI (0 + 2)) (nI_add 0 2) ?_
  refine va_sld hx hb hX hbl hbA hS (i := nI (0 + 2)) (vp_in_nI (by omega) (by omega)) dL_law_282 ?_
  refine cn_i (y := xs (0 + 2)) (congrArg xs (nI_clamp (by omega))) ?_
  refine pu_i (va_runV (As := [.int (xs (0 + 1)), .int (xs (0 + 2))]) (rest := []) ⟨hx, hb, hml, hown, hts⟩ (c_X6_side l D cI cJ cZ x0 h4 h3 h2 h1 hB h5 b1 b2 (nI 1) (-1 : Int32) (xs (0 + 1)) (xs (0 + 2))) (cwV 2 hts gL_law_X6_side rfl rfl rfl (by decide +kernel) ⟨Nat.le_of_ble_eq_true rfl, Nat.le_of_ble_eq_true rfl⟩) ⟨pc_blind, va_recv hK hP (ci := 6) (q0 := 0) rfl rfl, fun U hU hW => ⟨rfl, by rw [hU]; exact hP.sub (ws' := [(x0, .inr (6, [.ref h4, .ref h3, .ref h2, .ref h1, .ref hB, .ref h5])), (h3, .inr (3, [.ref b1, .ref b2, .int (nI 1), .int (nI 0), .int (-1 : Int32)]))]) [0, 5] rfl, hKN.warm hW⟩⟩ rfl rfl hl.1 rfl (lv_room (Nat.le_of_ble_eq_true rfl)) dL_law_283 ⟨Nat.le_of_ble_eq_true rfl, Nat.le_of_ble_eq_true rfl⟩) hS hP (fun r1 H locs w1r hP hS => ?_)
  have w1 : r1 = -1 := w1r
  clear w1r
  obtain rfl : r1 = (-1 : Int32) := w1
  refine lv_aload_n hx hb dL_law_286 rfl (lv_at hl 1 rfl) ?_
  refine lv_aload_n hx hb dL_law_287 rfl (lv_at hl 3 rfl) ?_
  refine lv_iload_n hx hb dL_law_288 rfl (lv_at hl 0 rfl) ?_
  refine lv_iconst (v := nI 1) hx hb dL_law_289 (by decide) ?_
  refine lv_iadd hx hb dL_law_290 ?_
  refine cn_i (y := nI (0 + 1)) (nI_add 0 1) ?_
  refine va_sld hx hb hX hbl hbA hS (i := nI (0 + 1)) (vp_in_nI (by omega) (by omega)) dL_law_291 ?_
  refine cn_i (y := xs (0 + 1)) (congrArg xs (nI_clamp (by omega))) ?_
  refine lv_aload_n hx hb dL_law_292 rfl (lv_at hl 3 rfl) ?_
  refine lv_iload_n hx hb dL_law_293 rfl (lv_at hl 0 rfl) ?_
  refine lv_iconst (v := nI 2) hx hb dL_law_294 (by decide) ?_
  refine lv_iadd hx hb dL_law_295 ?_
  refine cn_i (y := nI (0 + 2)) (nI_add 0 2) ?_
  refine va_sld hx hb hX hbl hbA hS (i := nI (0 + 2)) (vp_in_nI (by omega) (by omega)) dL_law_296 ?_
  refine cn_i (y := xs (0 + 2)) (congrArg xs (nI_clamp (by omega))) ?_
  refine pu_i (va_runV (As := [.int (xs (0 + 1)), .int (xs (0 + 2))]) (rest := [.int (-1 : Int32)]) ⟨hx, hb, hml, hown, hts⟩ (c_X7_side l D cI cJ cZ m0 g1 g2 g3 g4 g5 g6 g7 g8 g9 g10 g11 g12 (nI 1) (-1 : Int32) (nI 0) (nI 0) (xs (0 + 1)) (xs (0 + 2))) (cwV 2 hts gL_law_X7_side rfl rfl rfl (by decide +kernel) ⟨Nat.le_of_ble_eq_true rfl, Nat.le_of_ble_eq_true rfl⟩) ⟨pc_blind, va_recv hK hP (ci := 7) (q0 := 18) rfl rfl, fun U hU hW => ⟨rfl, by rw [hU]; exact hP.sub (ws' := [(m0, .inr (7, [.int (nI 1), .ref g1, .ref g2, .ref g3, .int (nI 0), .ref g4, .int (-1 : Int32), .ref g5, .int (nI 0), .ref g6, .int (nI 0), .ref g7, .ref g8, .ref g9, .ref g10, .ref g11, .ref g12]))]) [18] rfl, hKN.warm hW⟩⟩ rfl rfl hl.1 rfl (lv_room (Nat.le_of_ble_eq_true rfl)) dL_law_297 ⟨Nat.le_of_ble_eq_true rfl, Nat.le_of_ble_eq_true rfl⟩) hS hP (fun r2 H locs w2r hP hS => ?_)
  have w2 : r2 = -1 := w2r
  clear w2r
  obtain rfl : r2 = (-1 : Int32) := w2
  refine lv_icmp_eq (tgt := 883) hx hb dL_law_300 (by decide) (fun c3 => ?_) (fun c3 => ?_)
  · skip
    exact law_tail hL6 C0 _ _ _ hS (lv_sub hl [0, 3] rfl)
  · exact absurd c3 (by first | decide | exact nz_lt (by omega) | exact fun h => h (nz_ge (by omega)))
set_option maxHeartbeats 4000000 in
set_option maxRecDepth 100000 in
theorem law_c5 {p : Program} {l : Launch} {e : Env} {s : State} {m : MethodId} {below : List Frame} {meth : Method} {c : Code} {b L : Nat} {xs : Nat → Int32} (hL6 : L = 6) (C0 : lw_At p s m meth c b L xs) (D : va_G) (cI cJ cZ : ClassId) (hKN : KN D cI cJ cZ s) (x0 h4 a1 a2 a3 h3 b1 b2 h2 r1 h1 p4 p5 p6 hB l3 h5 lk1 m0 g1 g2 g3 g4 g5 g6 g7 g8 g9 g10 g11 g12 : Nat) (ug ub ur vg vb vr vn th : Nat → Int32) (hone : ∀ z, z < 9 → ug z = nI 1 ∧ ub z = nI 1 ∧ ur z = nI 1) (hmone : (∀ z, z < 9 → vg z = nI 1 ∧ vb z = nI 1 ∧ vr z = nI 1 ∧ vn z = -1) ∧ (∀ z, z < 9 → th z = nI (3 ^ z))) (hth : ∀ z, z < 9 → ¬ th z = 0) : ∀ (H : Heap) (locs : List Loc) (ls : Array Slot), va_P D vwCl [(x0, .inr (6, [.ref h4, .ref h3, .ref h2, .ref h1, .ref hB, .ref h5])), (h4, .inr (4, [.ref a1, .ref a2, .ref a3, .int (nI 1), .int (nI 0), .int (nI 0)])), (a1, .inl (cI, 9, .inl ug)), (a2, .inl (cI, 9, .inl ub)), (a3, .inl (cI, 9, .inl ur)), (h3, .inr (3, [.ref b1, .ref b2, .int (nI 1), .int (nI 0), .int (-1 : Int32)])), (b1, .inl (cJ, 320, .inr (.inl (fun _ => 0)))), (b2, .inl (cI, 9, .inl (fun _ => 0))), (h2, .inr (2, [.ref r1, .int (nI 0)])), (r1, .inl (cI, 9, .inl (fun _ => 0))), (h1, .inr (1, [.ref h4, .ref h3, .ref h2, .ref p4, .ref p5, .ref p6, .int (nI 0)])), (p4, .inl (cI, 9, .inl (fun _ => 0))), (p5, .inl (cJ, 0, .inr (.inl (fun _ => 0)))), (p6, .inl (cI, 0, .inl (fun _ => 0))), (hB, .inr (0, [.ref h4, .ref h3, .ref l3])), (l3, .inl (cI, 512, .inl (fun _ => 0))), (h5, .inr (5, [.ref lk1, .int (nI 0)])), (lk1, .inl (cI, 9, .inl (fun _ => 0))), (m0, .inr (7, [.int (nI 1), .ref g1, .ref g2, .ref g3, .int (nI 0), .ref g4, .int (-1 : Int32), .ref g5, .int (nI 0), .ref g6, .int (nI 0), .ref g7, .ref g8, .ref g9, .ref g10, .ref g11, .ref g12])), (g1, .inl (cI, 9, .inl vg)), (g2, .inl (cI, 9, .inl vb)), (g3, .inl (cI, 9, .inl vr)), (g4, .inl (cZ, 20480, .inl (fun _ => 0))), (g5, .inl (cI, 9, .inl vn)), (g6, .inl (cI, 9, .inl (fun _ => 0))), (g7, .inl (cI, 9, .inl (fun _ => 0))), (g8, .inl (cJ, 19683, .inr (.inl (fun _ => 0)))), (g9, .inl (cI, 19683, .inl (fun _ => 0))), (g10, .inl (cI, 19683, .inl (fun _ => 0))), (g11, .inl (cI, 19683, .inl (fun _ => 0))), (g12, .inl (cI, 9, .inl th))] H → va_D (fun q : Nat => s.heap.size ≤ q) [(x0, .inr (6, [.ref h4, .ref h3, .ref h2, .ref h1, .ref hB, .ref h5])), (h4, .inr (4, [.ref a1, .ref a2, .ref a3, .int (nI 1), .int (nI 0), .int (nI 0)])), (a1, .inl (cI, 9, .inl ug)), (a2, .inl (cI, 9, .inl ub)), (a3, .inl (cI, 9, .inl ur)), (h3, .inr (3, [.ref b1, .ref b2, .int (nI 1), .int (nI 0), .int (-1 : Int32)])), (b1, .inl (cJ, 320, .inr (.inl (fun _ => 0)))), (b2, .inl (cI, 9, .inl (fun _ => 0))), (h2, .inr (2, [.ref r1, .int (nI 0)])), (r1, .inl (cI, 9, .inl (fun _ => 0))), (h1, .inr (1, [.ref h4, .ref h3, .ref h2, .ref p4, .ref p5, .ref p6, .int (nI 0)])), (p4, .inl (cI, 9, .inl (fun _ => 0))), (p5, .inl (cJ, 0, .inr (.inl (fun _ => 0)))), (p6, .inl (cI, 0, .inl (fun _ => 0))), (hB, .inr (0, [.ref h4, .ref h3, .ref l3])), (l3, .inl (cI, 512, .inl (fun _ => 0))), (h5, .inr (5, [.ref lk1, .int (nI 0)])), (lk1, .inl (cI, 9, .inl (fun _ => 0))), (m0, .inr (7, [.int (nI 1), .ref g1, .ref g2, .ref g3, .int (nI 0), .ref g4, .int (-1 : Int32), .ref g5, .int (nI 0), .ref g6, .int (nI 0), .ref g7, .ref g8, .ref g9, .ref g10, .ref g11, .ref g12])), (g1, .inl (cI, 9, .inl vg)), (g2, .inl (cI, 9, .inl vb)), (g3, .inl (cI, 9, .inl vr)), (g4, .inl (cZ, 20480, .inl (fun _ => 0))), (g5, .inl (cI, 9, .inl vn)), (g6, .inl (cI, 9, .inl (fun _ => 0))), (g7, .inl (cI, 9, .inl (fun _ => 0))), (g8, .inl (cJ, 19683, .inr (.inl (fun _ => 0)))), (g9, .inl (cI, 19683, .inl (fun _ => 0))), (g10, .inl (cI, 19683, .inl (fun _ => 0))), (g11, .inl (cI, 19683, .inl (fun _ => 0))), (g12, .inl (cI, 9, .inl th))] → va_S (fun q : Nat => s.heap.size ≤ q) s.heap H locs → lv_has ls 4 [(3, .int (nI 0)), (2, .ref m0), (1, .ref x0), (0, .ref b)] → W p l e room_1 s m #[Value.ref b] below meth c H locs 31 100218 (lw_Z below #[Value.ref b] s) (F0 m 305 ls []) := by
  obtain ⟨hx, hb, hr, hml, hown, hts0, hX, hbl, hlocks, hgv⟩ := id C0
  have hts : ∀ w ∈ wsL_law, w.before #[Value.ref b] s = true := fun w h => hts0 w (wsL_law_in w h)
  have hown : s.vm.findClass RL = some m.cls := hown
  have hA : ∀ q : Nat, s.heap.size ≤ q → (fun q : Nat => s.heap.size ≤ q) q := fun _ h => h
  have hbA : ¬ (fun q : Nat => s.heap.size ≤ q) b := Nat.not_le.mpr hbl
  have hK := hKN.1
  intro H locs ls hP hD hS hl
  refine lv_aload_n hx hb dL_law_305 rfl (lv_at hl 2 rfl) ?_
  refine lv_aload_n hx hb dL_law_306 rfl (lv_at hl 3 rfl) ?_
  refine lv_iload_n hx hb dL_law_307 rfl (lv_at hl 0 rfl) ?_
  refine lv_iconst (v := nI 1) hx hb dL_law_308 (by decide) ?_
  refine lv_iadd hx hb dL_law_309 ?_
  refine cn_i (y := nI (0 + 1)) (nI_add 0 1) ?_
  refine va_sld hx hb hX hbl hbA hS (i := nI (0 + 1)) (vp_in_nI (by omega) (by omega)) dL_law_310 ?_
  refine cn_i (y := xs (0 + 1)) (congrArg xs (nI_clamp (by omega))) ?_
  refine lv_aload_n hx hb dL_law_311 rfl (lv_at hl 3 rfl) ?_
  refine lv_iload_n hx hb dL_law_312 rfl (lv_at hl 0 rfl) ?_
  refine lv_iconst (v := nI 2) hx hb dL_law_313 (by decide) ?_
  refine lv_iadd hx hb dL_law_314 ?_
  refine cn_i (y := nI (0 + 2)) (nI_add 0 2) ?_
  refine va_sld hx hb hX hbl hbA hS (i := nI (0 + 2)) (vp_in_nI (by omega) (by omega)) dL_law_315 ?_
  refine cn_i (y := xs (0 + 2)) (congrArg xs (nI_clamp (by omega))) ?_
  refine lv_i2l hx hb dL_law_316 rfl ?_
  refine lv_bipush (v := nI 32) hx hb dL_law_317 (by decide) ?_
  refine lv_lshl hx hb dL_law_319 rfl ?_
  refine lv_aload_n hx hb dL_law_320 rfl (lv_at hl 3 rfl) ?_
  refine lv_iload_n hx hb dL_law_321 rfl (lv_at hl 0 rfl) ?_
  refine lv_iconst (v := nI 3) hx hb dL_law_322 (by decide) ?_
  refine lv_iadd hx hb dL_law_323 ?_
  refine cn_i (y := nI (0 + 3)) (nI_add 0 3) ?_
  refine va_sld hx hb hX hbl hbA hS (i := nI (0 + 3)) (vp_in_nI (by omega) (by omega)) dL_law_324 ?_
  refine cn_i (y := xs (0 + 3)) (congrArg xs (nI_clamp (by omega))) ?_
  refine lv_i2l hx hb dL_law_325 rfl ?_
  refine lv_ldc2 (v := lN 4294967295) hx hb hown (hts (.constantLong RL 37 (lN 4294967295)) (by decide +kernel)) dL_law_326 ?_
  refine lv_land hx hb dL_law_329 ?_
  refine lv_lor hx hb dL_law_330 ?_
  refine lv_aload_n hx hb dL_law_331 rfl (lv_at hl 3 rfl) ?_
  refine lv_iload_n hx hb dL_law_332 rfl (lv_at hl 0 rfl) ?_
  refine lv_iconst (v := nI 4) hx hb dL_law_333 (by decide) ?_
  refine lv_iadd hx hb dL_law_334 ?_
  refine cn_i (y := nI (0 + 4)) (nI_add 0 4) ?_
  refine va_sld hx hb hX hbl hbA hS (i := nI (0 + 4)) (vp_in_nI (by omega) (by omega)) dL_law_335 ?_
  refine cn_i (y := xs (0 + 4)) (congrArg xs (nI_clamp (by omega))) ?_
  refine lv_aload_n hx hb dL_law_336 rfl (lv_at hl 3 rfl) ?_
  refine lv_iload_n hx hb dL_law_337 rfl (lv_at hl 0 rfl) ?_
  refine lv_iconst (v := nI 5) hx hb dL_law_338 (by decide) ?_
  refine lv_iadd hx hb dL_law_339 ?_
  refine cn_i (y := nI (0 + 5)) (nI_add 0 5) ?_
  refine va_sld hx hb hX hbl hbA hS (i := nI (0 + 5)) (vp_in_nI (by omega) (by omega)) dL_law_340 ?_
  refine cn_i (y := xs (0 + 5)) (congrArg xs (nI_clamp (by omega))) ?_
  refine mx_i (wc := [(x0, .inr (6, [.ref h4, .ref h3, .ref h2, .ref h1, .ref hB, .ref h5])), (h4, .inr (4, [.ref a1, .ref a2, .ref a3, .int (nI 1), .int (nI 0), .int (nI 0)])), (h3, .inr (3, [.ref b1, .ref b2, .int (nI 1), .int (nI 0), .int (-1 : Int32)])), (b1, .inl (cJ, 320, .inr (.inl (fun _ => 0)))), (b2, .inl (cI, 9, .inl (fun _ => 0)))]) (wr := [(a1, .inl (cI, 9, .inl ug)), (a2, .inl (cI, 9, .inl ub)), (a3, .inl (cI, 9, .inl ur)), (h2, .inr (2, [.ref r1, .int (nI 0)])), (r1, .inl (cI, 9, .inl (fun _ => 0))), (h1, .inr (1, [.ref h4, .ref h3, .ref h2, .ref p4, .ref p5, .ref p6, .int (nI 0)])), (p4, .inl (cI, 9, .inl (fun _ => 0))), (p5, .inl (cJ, 0, .inr (.inl (fun _ => 0)))), (p6, .inl (cI, 0, .inl (fun _ => 0))), (hB, .inr (0, [.ref h4, .ref h3, .ref l3])), (l3, .inl (cI, 512, .inl (fun _ => 0))), (h5, .inr (5, [.ref lk1, .int (nI 0)])), (lk1, .inl (cI, 9, .inl (fun _ => 0))), (m0, .inr (7, [.int (nI 1), .ref g1, .ref g2, .ref g3, .int (nI 0), .ref g4, .int (-1 : Int32), .ref g5, .int (nI 0), .ref g6, .int (nI 0), .ref g7, .ref g8, .ref g9, .ref g10, .ref g11, .ref g12])), (g1, .inl (cI, 9, .inl vg)), (g2, .inl (cI, 9, .inl vb)), (g3, .inl (cI, 9, .inl vr)), (g4, .inl (cZ, 20480, .inl (fun _ => 0))), (g5, .inl (cI, 9, .inl vn)), (g6, .inl (cI, 9, .inl (fun _ => 0))), (g7, .inl (cI, 9, .inl (fun _ => 0))), (g8, .inl (cJ, 19683, .inr (.inl (fun _ => 0)))), (g9, .inl (cI, 19683, .inl (fun _ => 0))), (g10, .inl (cI, 19683, .inl (fun _ => 0))), (g11, .inl (cI, 19683, .inl (fun _ => 0))), (g12, .inl (cI, 9, .inl th))]) (va_runV (As := [.int (xs (0 + 1)), .long ((((xs (0 + 2)).toInt64) <<< ((nI 32).toInt64 &&& 63)) ||| (((xs (0 + 3)).toInt64) &&& (lN 4294967295))), .int (xs (0 + 4)), .int (xs (0 + 5))]) (rest := []) ⟨hx, hb, hml, hown, hts⟩ (c_X6_some l D cI cJ cZ x0 h4 h3 h2 h1 hB h5 a1 a2 a3 b1 b2 1 0 (nI 0) (nI 0) (-1 : Int32) (xs (0 + 1)) (xs (0 + 4)) (xs (0 + 5)) ((((xs (0 + 2)).toInt64) <<< ((nI 32).toInt64 &&& 63)) ||| (((xs (0 + 3)).toInt64) &&& (lN 4294967295))) (fun _ => 0) (fun _ => 0) (by first | assumption | omega) (by first | assumption | omega)) (cwV 4 hts gL_law_X6_some rfl rfl rfl (by decide +kernel) ⟨Nat.le_of_ble_eq_true rfl, Nat.le_of_ble_eq_true rfl⟩) ⟨pm_blind, va_recv hK hP (ci := 6) (q0 := 0) rfl rfl, fun U hU hW => ⟨rfl, by rw [hU]; exact hP.sub (ws' := [(x0, .inr (6, [.ref h4, .ref h3, .ref h2, .ref h1, .ref hB, .ref h5])), (h4, .inr (4, [.ref a1, .ref a2, .ref a3, .int (nI 1), .int (nI 0), .int (nI 0)])), (h3, .inr (3, [.ref b1, .ref b2, .int (nI 1), .int (nI 0), .int (-1 : Int32)])), (b1, .inl (cJ, 320, .inr (.inl (fun _ => 0)))), (b2, .inl (cI, 9, .inl (fun _ => 0)))]) [0, 1, 5, 6, 7] rfl, hKN.warm hW, (hD.sub (ws' := [(x0, .inr (6, [.ref h4, .ref h3, .ref h2, .ref h1, .ref hB, .ref h5])), (h4, .inr (4, [.ref a1, .ref a2, .ref a3, .int (nI 1), .int (nI 0), .int (nI 0)])), (h3, .inr (3, [.ref b1, .ref b2, .int (nI 1), .int (nI 0), .int (-1 : Int32)])), (b1, .inl (cJ, 320, .inr (.inl (fun _ => 0)))), (b2, .inl (cI, 9, .inl (fun _ => 0)))]) [0, 1, 5, 6, 7] (by decide) rfl).weaken (fun _ _ _ _ => trivial)⟩⟩ rfl rfl hl.1 rfl (lv_room (Nat.le_of_ble_eq_true rfl)) dL_law_341 ⟨Nat.le_of_ble_eq_true rfl, Nat.le_of_ble_eq_true rfl⟩) hS hP hD [0, 1, 5, 6, 7] [2, 3, 4, 8, 9, 10, 11, 12, 13, 14, 15, 16, 17, 18, 19, 20, 21, 22, 23, 24, 25, 26, 27, 28, 29, 30] rfl rfl rfl (by decide) (by decide) (fun r1 u1 H locs w1r hP hD hS => ?_)
  have w1 : R1 r1 (nI 0) (0 ≤ (xs (0 + 1)).toInt ∧ (xs (0 + 1)).toInt < (2 ^ 1 : Nat) ∧ 0 ≤ ((((xs (0 + 2)).toInt64) <<< ((nI 32).toInt64 &&& 63)) ||| (((xs (0 + 3)).toInt64) &&& (lN 4294967295))).toInt ∧ 0 ≤ (xs (0 + 4)).toInt ∧ (xs (0 + 4)).toInt ≤ 3 ∧ 0 ≤ (xs (0 + 5)).toInt ∧ (xs (0 + 5)).toInt ≤ 100 ∧ 0 < 40) := w1r
  clear w1r
  rcases w1 with ⟨rfl, w1⟩ | ⟨rfl, w1⟩
  · skip
    refine lv_aload_n hx hb dL_law_344 rfl (lv_at hl 1 rfl) ?_
    refine lv_aload_n hx hb dL_law_345 rfl (lv_at hl 3 rfl) ?_
    refine lv_iload_n hx hb dL_law_346 rfl (lv_at hl 0 rfl) ?_
    refine lv_iconst (v := nI 1) hx hb dL_law_347 (by decide) ?_
    refine lv_iadd hx hb dL_law_348 ?_
    refine cn_i (y := nI (0 + 1)) (nI_add 0 1) ?_
    refine va_sld hx hb hX hbl hbA hS (i := nI (0 + 1)) (vp_in_nI (by omega) (by omega)) dL_law_349 ?_
    refine cn_i (y := xs (0 + 1)) (congrArg xs (nI_clamp (by omega))) ?_
    refine lv_aload_n hx hb dL_law_350 rfl (lv_at hl 3 rfl) ?_
    refine lv_iload_n hx hb dL_law_351 rfl (lv_at hl 0 rfl) ?_
    refine lv_iconst (v := nI 2) hx hb dL_law_352 (by decide) ?_
    refine lv_iadd hx hb dL_law_353 ?_
    refine cn_i (y := nI (0 + 2)) (nI_add 0 2) ?_
    refine va_sld hx hb hX hbl hbA hS (i := nI (0 + 2)) (vp_in_nI (by omega) (by omega)) dL_law_354 ?_
    refine cn_i (y := xs (0 + 2)) (congrArg xs (nI_clamp (by omega))) ?_
    refine lv_i2l hx hb dL_law_355 rfl ?_
    refine lv_bipush (v := nI 32) hx hb dL_law_356 (by decide) ?_
    refine lv_lshl hx hb dL_law_358 rfl ?_
    refine lv_aload_n hx hb dL_law_359 rfl (lv_at hl 3 rfl) ?_
    refine lv_iload_n hx hb dL_law_360 rfl (lv_at hl 0 rfl) ?_
    refine lv_iconst (v := nI 3) hx hb dL_law_361 (by decide) ?_
    refine lv_iadd hx hb dL_law_362 ?_
    refine cn_i (y := nI (0 + 3)) (nI_add 0 3) ?_
    refine va_sld hx hb hX hbl hbA hS (i := nI (0 + 3)) (vp_in_nI (by omega) (by omega)) dL_law_363 ?_
    refine cn_i (y := xs (0 + 3)) (congrArg xs (nI_clamp (by omega))) ?_
    refine lv_i2l hx hb dL_law_364 rfl ?_
    refine lv_ldc2 (v := lN 4294967295) hx hb hown (hts (.constantLong RL 37 (lN 4294967295)) (by decide +kernel)) dL_law_365 ?_
    refine lv_land hx hb dL_law_368 ?_
    refine lv_lor hx hb dL_law_369 ?_
    refine lv_aload_n hx hb dL_law_370 rfl (lv_at hl 3 rfl) ?_
    refine lv_iload_n hx hb dL_law_371 rfl (lv_at hl 0 rfl) ?_
    refine lv_iconst (v := nI 4) hx hb dL_law_372 (by decide) ?_
    refine lv_iadd hx hb dL_law_373 ?_
    refine cn_i (y := nI (0 + 4)) (nI_add 0 4) ?_
    refine va_sld hx hb hX hbl hbA hS (i := nI (0 + 4)) (vp_in_nI (by omega) (by omega)) dL_law_374 ?_
    refine cn_i (y := xs (0 + 4)) (congrArg xs (nI_clamp (by omega))) ?_
    refine lv_aload_n hx hb dL_law_375 rfl (lv_at hl 3 rfl) ?_
    refine lv_iload_n hx hb dL_law_376 rfl (lv_at hl 0 rfl) ?_
    refine lv_iconst (v := nI 5) hx hb dL_law_377 (by decide) ?_
    refine lv_iadd hx hb dL_law_378 ?_
    refine cn_i (y := nI (0 + 5)) (nI_add 0 5) ?_
    refine va_sld hx hb hX hbl hbA hS (i := nI (0 + 5)) (vp_in_nI (by omega) (by omega)) dL_law_379 ?_
    refine cn_i (y := xs (0 + 5)) (congrArg xs (nI_clamp (by omega))) ?_
    refine mx_i (wc := [(m0, .inr (7, [.int (nI 1), .ref g1, .ref g2, .ref g3, .int (nI 0), .ref g4, .int (-1 : Int32), .ref g5, .int (nI 0), .ref g6, .int (nI 0), .ref g7, .ref g8, .ref g9, .ref g10, .ref g11, .ref g12])), (g4, .inl (cZ, 20480, .inl (fun _ => 0)))]) (wr := [(a1, .inl (cI, 9, .inl ug)), (a2, .inl (cI, 9, .inl ub)), (a3, .inl (cI, 9, .inl ur)), (h2, .inr (2, [.ref r1, .int (nI 0)])), (r1, .inl (cI, 9, .inl (fun _ => 0))), (h1, .inr (1, [.ref h4, .ref h3, .ref h2, .ref p4, .ref p5, .ref p6, .int (nI 0)])), (p4, .inl (cI, 9, .inl (fun _ => 0))), (p5, .inl (cJ, 0, .inr (.inl (fun _ => 0)))), (p6, .inl (cI, 0, .inl (fun _ => 0))), (hB, .inr (0, [.ref h4, .ref h3, .ref l3])), (l3, .inl (cI, 512, .inl (fun _ => 0))), (h5, .inr (5, [.ref lk1, .int (nI 0)])), (lk1, .inl (cI, 9, .inl (fun _ => 0))), (g1, .inl (cI, 9, .inl vg)), (g2, .inl (cI, 9, .inl vb)), (g3, .inl (cI, 9, .inl vr)), (g5, .inl (cI, 9, .inl vn)), (g6, .inl (cI, 9, .inl (fun _ => 0))), (g7, .inl (cI, 9, .inl (fun _ => 0))), (g8, .inl (cJ, 19683, .inr (.inl (fun _ => 0)))), (g9, .inl (cI, 19683, .inl (fun _ => 0))), (g10, .inl (cI, 19683, .inl (fun _ => 0))), (g11, .inl (cI, 19683, .inl (fun _ => 0))), (g12, .inl (cI, 9, .inl th))]) (va_runV (As := [.int (xs (0 + 1)), .long ((((xs (0 + 2)).toInt64) <<< ((nI 32).toInt64 &&& 63)) ||| (((xs (0 + 3)).toInt64) &&& (lN 4294967295))), .int (xs (0 + 4)), .int (xs (0 + 5))]) (rest := [.int (nI 0)]) ⟨hx, hb, hml, hown, hts⟩ (c_X7_some l D cI cJ cZ m0 g1 g2 g3 g4 g5 g6 g7 g8 g9 g10 g11 g12 1 0 (-1 : Int32) (nI 0) (nI 0) (xs (0 + 1)) (xs (0 + 4)) (xs (0 + 5)) ((((xs (0 + 2)).toInt64) <<< ((nI 32).toInt64 &&& 63)) ||| (((xs (0 + 3)).toInt64) &&& (lN 4294967295))) (fun _ => 0) (by first | assumption | omega) (by first | assumption | omega) (by first | assumption | omega)) (cwV 4 hts gL_law_X7_some rfl rfl rfl (by decide +kernel) ⟨Nat.le_of_ble_eq_true rfl, Nat.le_of_ble_eq_true rfl⟩) ⟨pm_blind, va_recv hK hP (ci := 7) (q0 := 13) rfl rfl, fun U hU hW => ⟨rfl, by rw [hU]; exact hP.sub (ws' := [(m0, .inr (7, [.int (nI 1), .ref g1, .ref g2, .ref g3, .int (nI 0), .ref g4, .int (-1 : Int32), .ref g5, .int (nI 0), .ref g6, .int (nI 0), .ref g7, .ref g8, .ref g9, .ref g10, .ref g11, .ref g12])), (g4, .inl (cZ, 20480, .inl (fun _ => 0)))]) [13, 17] rfl, hKN.warm hW, (hD.sub (ws' := [(m0, .inr (7, [.int (nI 1), .ref g1, .ref g2, .ref g3, .int (nI 0), .ref g4, .int (-1 : Int32), .ref g5, .int (nI 0), .ref g6, .int (nI 0), .ref g7, .ref g8, .ref g9, .ref g10, .ref g11, .ref g12])), (g4, .inl (cZ, 20480, .inl (fun _ => 0)))]) [13, 17] (by decide) rfl).weaken (fun _ _ _ _ => trivial)⟩⟩ rfl rfl hl.1 rfl (lv_room (Nat.le_of_ble_eq_true rfl)) dL_law_380 ⟨Nat.le_of_ble_eq_true rfl, Nat.le_of_ble_eq_true rfl⟩) hS hP hD [13, 17] [0, 1, 2, 3, 4, 5, 6, 7, 8, 9, 10, 11, 12, 14, 15, 16, 18, 19, 20, 21, 22, 23, 24, 25] rfl rfl rfl (by decide) (by decide) (fun r2 u2 H locs w2r hP hD hS => ?_)
    have w2 : R1 r2 (nI 0) (0 ≤ (xs (0 + 1)).toInt ∧ (xs (0 + 1)).toInt < (2 ^ 1 : Nat) ∧ 0 ≤ ((((xs (0 + 2)).toInt64) <<< ((nI 32).toInt64 &&& 63)) ||| (((xs (0 + 3)).toInt64) &&& (lN 4294967295))).toInt ∧ 0 ≤ (xs (0 + 4)).toInt ∧ (xs (0 + 4)).toInt ≤ 3 ∧ 0 ≤ (xs (0 + 5)).toInt ∧ (xs (0 + 5)).toInt ≤ 100 ∧ 0 < 40) := w2r
    clear w2r
    rcases w2 with ⟨rfl, w2⟩ | ⟨rfl, w2⟩
    · skip
      refine lv_icmp_eq (tgt := 883) hx hb dL_law_383 (by decide) (fun c3 => ?_) (fun c3 => ?_)
      · skip
        exact law_tail hL6 C0 _ _ _ hS (lv_sub hl [0, 3] rfl)
      · exact absurd c3 (by first | decide | exact nz_lt (by omega) | exact fun h => h (nz_ge (by omega)))
    · skip
      refine lv_icmp_eq (tgt := 883) hx hb dL_law_383 (by decide) (fun c4 => ?_) (fun c4 => ?_)
      · exact absurd c4 (by first | decide | exact nz_lt (by omega) | exact fun h => h (nz_ge (by omega)))
      · skip
        refine lv_iconst (v := nI 0) hx hb dL_law_386 (by decide) ?_
        exact (by first | exact absurd w1 w2 | exact absurd w2 w1 | exact w1.elim | exact w2.elim)
  · skip
    refine lv_aload_n hx hb dL_law_344 rfl (lv_at hl 1 rfl) ?_
    refine lv_aload_n hx hb dL_law_345 rfl (lv_at hl 3 rfl) ?_
    refine lv_iload_n hx hb dL_law_346 rfl (lv_at hl 0 rfl) ?_
    refine lv_iconst (v := nI 1) hx hb dL_law_347 (by decide) ?_
    refine lv_iadd hx hb dL_law_348 ?_
    refine cn_i (y := nI (0 + 1)) (nI_add 0 1) ?_
    refine va_sld hx hb hX hbl hbA hS (i := nI (0 + 1)) (vp_in_nI (by omega) (by omega)) dL_law_349 ?_
    refine cn_i (y := xs (0 + 1)) (congrArg xs (nI_clamp (by omega))) ?_
    refine lv_aload_n hx hb dL_law_350 rfl (lv_at hl 3 rfl) ?_
    refine lv_iload_n hx hb dL_law_351 rfl (lv_at hl 0 rfl) ?_
    refine lv_iconst (v := nI 2) hx hb dL_law_352 (by decide) ?_
    refine lv_iadd hx hb dL_law_353 ?_
    refine cn_i (y := nI (0 + 2)) (nI_add 0 2) ?_
    refine va_sld hx hb hX hbl hbA hS (i := nI (0 + 2)) (vp_in_nI (by omega) (by omega)) dL_law_354 ?_
    refine cn_i (y := xs (0 + 2)) (congrArg xs (nI_clamp (by omega))) ?_
    refine lv_i2l hx hb dL_law_355 rfl ?_
    refine lv_bipush (v := nI 32) hx hb dL_law_356 (by decide) ?_
    refine lv_lshl hx hb dL_law_358 rfl ?_
    refine lv_aload_n hx hb dL_law_359 rfl (lv_at hl 3 rfl) ?_
    refine lv_iload_n hx hb dL_law_360 rfl (lv_at hl 0 rfl) ?_
    refine lv_iconst (v := nI 3) hx hb dL_law_361 (by decide) ?_
    refine lv_iadd hx hb dL_law_362 ?_
    refine cn_i (y := nI (0 + 3)) (nI_add 0 3) ?_
    refine va_sld hx hb hX hbl hbA hS (i := nI (0 + 3)) (vp_in_nI (by omega) (by omega)) dL_law_363 ?_
    refine cn_i (y := xs (0 + 3)) (congrArg xs (nI_clamp (by omega))) ?_
    refine lv_i2l hx hb dL_law_364 rfl ?_
    refine lv_ldc2 (v := lN 4294967295) hx hb hown (hts (.constantLong RL 37 (lN 4294967295)) (by decide +kernel)) dL_law_365 ?_
    refine lv_land hx hb dL_law_368 ?_
    refine lv_lor hx hb dL_law_369 ?_
    refine lv_aload_n hx hb dL_law_370 rfl (lv_at hl 3 rfl) ?_
    refine lv_iload_n hx hb dL_law_371 rfl (lv_at hl 0 rfl) ?_
    refine lv_iconst (v := nI 4) hx hb dL_law_372 (by decide) ?_
    refine lv_iadd hx hb dL_law_373 ?_
    refine cn_i (y := nI (0 + 4)) (nI_add 0 4) ?_
    refine va_sld hx hb hX hbl hbA hS (i := nI (0 + 4)) (vp_in_nI (by omega) (by omega)) dL_law_374 ?_
    refine cn_i (y := xs (0 + 4)) (congrArg xs (nI_clamp (by omega))) ?_
    refine lv_aload_n hx hb dL_law_375 rfl (lv_at hl 3 rfl) ?_
    refine lv_iload_n hx hb dL_law_376 rfl (lv_at hl 0 rfl) ?_
    refine lv_iconst (v := nI 5) hx hb dL_law_377 (by decide) ?_
    refine lv_iadd hx hb dL_law_378 ?_
    refine cn_i (y := nI (0 + 5)) (nI_add 0 5) ?_
    refine va_sld hx hb hX hbl hbA hS (i := nI (0 + 5)) (vp_in_nI (by omega) (by omega)) dL_law_379 ?_
    refine cn_i (y := xs (0 + 5)) (congrArg xs (nI_clamp (by omega))) ?_
    refine mx_i (wc := [(m0, .inr (7, [.int (nI 1), .ref g1, .ref g2, .ref g3, .int (nI 0), .ref g4, .int (-1 : Int32), .ref g5, .int (nI 0), .ref g6, .int (nI 0), .ref g7, .ref g8, .ref g9, .ref g10, .ref g11, .ref g12])), (g4, .inl (cZ, 20480, .inl (fun _ => 0)))]) (wr := [(a1, .inl (cI, 9, .inl ug)), (a2, .inl (cI, 9, .inl ub)), (a3, .inl (cI, 9, .inl ur)), (h2, .inr (2, [.ref r1, .int (nI 0)])), (r1, .inl (cI, 9, .inl (fun _ => 0))), (h1, .inr (1, [.ref h4, .ref h3, .ref h2, .ref p4, .ref p5, .ref p6, .int (nI 0)])), (p4, .inl (cI, 9, .inl (fun _ => 0))), (p5, .inl (cJ, 0, .inr (.inl (fun _ => 0)))), (p6, .inl (cI, 0, .inl (fun _ => 0))), (hB, .inr (0, [.ref h4, .ref h3, .ref l3])), (l3, .inl (cI, 512, .inl (fun _ => 0))), (h5, .inr (5, [.ref lk1, .int (nI 0)])), (lk1, .inl (cI, 9, .inl (fun _ => 0))), (g1, .inl (cI, 9, .inl vg)), (g2, .inl (cI, 9, .inl vb)), (g3, .inl (cI, 9, .inl vr)), (g5, .inl (cI, 9, .inl vn)), (g6, .inl (cI, 9, .inl (fun _ => 0))), (g7, .inl (cI, 9, .inl (fun _ => 0))), (g8, .inl (cJ, 19683, .inr (.inl (fun _ => 0)))), (g9, .inl (cI, 19683, .inl (fun _ => 0))), (g10, .inl (cI, 19683, .inl (fun _ => 0))), (g11, .inl (cI, 19683, .inl (fun _ => 0))), (g12, .inl (cI, 9, .inl th))]) (va_runV (As := [.int (xs (0 + 1)), .long ((((xs (0 + 2)).toInt64) <<< ((nI 32).toInt64 &&& 63)) ||| (((xs (0 + 3)).toInt64) &&& (lN 4294967295))), .int (xs (0 + 4)), .int (xs (0 + 5))]) (rest := [.int (-1 : Int32)]) ⟨hx, hb, hml, hown, hts⟩ (c_X7_some l D cI cJ cZ m0 g1 g2 g3 g4 g5 g6 g7 g8 g9 g10 g11 g12 1 0 (-1 : Int32) (nI 0) (nI 0) (xs (0 + 1)) (xs (0 + 4)) (xs (0 + 5)) ((((xs (0 + 2)).toInt64) <<< ((nI 32).toInt64 &&& 63)) ||| (((xs (0 + 3)).toInt64) &&& (lN 4294967295))) (fun _ => 0) (by first | assumption | omega) (by first | assumption | omega) (by first | assumption | omega)) (cwV 4 hts gL_law_X7_some rfl rfl rfl (by decide +kernel) ⟨Nat.le_of_ble_eq_true rfl, Nat.le_of_ble_eq_true rfl⟩) ⟨pm_blind, va_recv hK hP (ci := 7) (q0 := 13) rfl rfl, fun U hU hW => ⟨rfl, by rw [hU]; exact hP.sub (ws' := [(m0, .inr (7, [.int (nI 1), .ref g1, .ref g2, .ref g3, .int (nI 0), .ref g4, .int (-1 : Int32), .ref g5, .int (nI 0), .ref g6, .int (nI 0), .ref g7, .ref g8, .ref g9, .ref g10, .ref g11, .ref g12])), (g4, .inl (cZ, 20480, .inl (fun _ => 0)))]) [13, 17] rfl, hKN.warm hW, (hD.sub (ws' := [(m0, .inr (7, [.int (nI 1), .ref g1, .ref g2, .ref g3, .int (nI 0), .ref g4, .int (-1 : Int32), .ref g5, .int (nI 0), .ref g6, .int (nI 0), .ref g7, .ref g8, .ref g9, .ref g10, .ref g11, .ref g12])), (g4, .inl (cZ, 20480, .inl (fun _ => 0)))]) [13, 17] (by decide) rfl).weaken (fun _ _ _ _ => trivial)⟩⟩ rfl rfl hl.1 rfl (lv_room (Nat.le_of_ble_eq_true rfl)) dL_law_380 ⟨Nat.le_of_ble_eq_true rfl, Nat.le_of_ble_eq_true rfl⟩) hS hP hD [13, 17] [0, 1, 2, 3, 4, 5, 6, 7, 8, 9, 10, 11, 12, 14, 15, 16, 18, 19, 20, 21, 22, 23, 24, 25] rfl rfl rfl (by decide) (by decide) (fun r5 u5 H locs w5r hP hD hS => ?_)
    have w5 : R1 r5 (nI 0) (0 ≤ (xs (0 + 1)).toInt ∧ (xs (0 + 1)).toInt < (2 ^ 1 : Nat) ∧ 0 ≤ ((((xs (0 + 2)).toInt64) <<< ((nI 32).toInt64 &&& 63)) ||| (((xs (0 + 3)).toInt64) &&& (lN 4294967295))).toInt ∧ 0 ≤ (xs (0 + 4)).toInt ∧ (xs (0 + 4)).toInt ≤ 3 ∧ 0 ≤ (xs (0 + 5)).toInt ∧ (xs (0 + 5)).toInt ≤ 100 ∧ 0 < 40) := w5r
    clear w5r
    rcases w5 with ⟨rfl, w5⟩ | ⟨rfl, w5⟩
    · skip
      refine lv_icmp_eq (tgt := 883) hx hb dL_law_383 (by decide) (fun c6 => ?_) (fun c6 => ?_)
      · exact absurd c6 (by first | decide | exact nz_lt (by omega) | exact fun h => h (nz_ge (by omega)))
      · skip
        refine lv_iconst (v := nI 0) hx hb dL_law_386 (by decide) ?_
        exact (by first | exact absurd w1 w5 | exact absurd w5 w1 | exact w1.elim | exact w5.elim)
    · skip
      refine lv_icmp_eq (tgt := 883) hx hb dL_law_383 (by decide) (fun c7 => ?_) (fun c7 => ?_)
      · skip
        exact law_tail hL6 C0 _ _ _ hS (lv_sub hl [0, 3] rfl)
      · exact absurd c7 (by first | decide | exact nz_lt (by omega) | exact fun h => h (nz_ge (by omega)))
set_option maxHeartbeats 4000000 in
set_option maxRecDepth 100000 in
theorem law_c6 {p : Program} {l : Launch} {e : Env} {s : State} {m : MethodId} {below : List Frame} {meth : Method} {c : Code} {b L : Nat} {xs : Nat → Int32} (hL6 : L = 6) (C0 : lw_At p s m meth c b L xs) (D : va_G) (cI cJ cZ : ClassId) (hKN : KN D cI cJ cZ s) (x0 h4 a1 a2 a3 h3 b1 b2 h2 r1 h1 p4 p5 p6 hB l3 h5 lk1 m0 g1 g2 g3 g4 g5 g6 g7 g8 g9 g10 g11 g12 : Nat) (ug ub ur vg vb vr vn th : Nat → Int32) (hone : ∀ z, z < 9 → ug z = nI 1 ∧ ub z = nI 1 ∧ ur z = nI 1) (hmone : (∀ z, z < 9 → vg z = nI 1 ∧ vb z = nI 1 ∧ vr z = nI 1 ∧ vn z = -1) ∧ (∀ z, z < 9 → th z = nI (3 ^ z))) (hth : ∀ z, z < 9 → ¬ th z = 0) : ∀ (H : Heap) (locs : List Loc) (ls : Array Slot), va_P D vwCl [(x0, .inr (6, [.ref h4, .ref h3, .ref h2, .ref h1, .ref hB, .ref h5])), (h4, .inr (4, [.ref a1, .ref a2, .ref a3, .int (nI 1), .int (nI 0), .int (nI 0)])), (a1, .inl (cI, 9, .inl ug)), (a2, .inl (cI, 9, .inl ub)), (a3, .inl (cI, 9, .inl ur)), (h3, .inr (3, [.ref b1, .ref b2, .int (nI 1), .int (nI 0), .int (-1 : Int32)])), (b1, .inl (cJ, 320, .inr (.inl (fun _ => 0)))), (b2, .inl (cI, 9, .inl (fun _ => 0))), (h2, .inr (2, [.ref r1, .int (nI 0)])), (r1, .inl (cI, 9, .inl (fun _ => 0))), (h1, .inr (1, [.ref h4, .ref h3, .ref h2, .ref p4, .ref p5, .ref p6, .int (nI 0)])), (p4, .inl (cI, 9, .inl (fun _ => 0))), (p5, .inl (cJ, 0, .inr (.inl (fun _ => 0)))), (p6, .inl (cI, 0, .inl (fun _ => 0))), (hB, .inr (0, [.ref h4, .ref h3, .ref l3])), (l3, .inl (cI, 512, .inl (fun _ => 0))), (h5, .inr (5, [.ref lk1, .int (nI 0)])), (lk1, .inl (cI, 9, .inl (fun _ => 0))), (m0, .inr (7, [.int (nI 1), .ref g1, .ref g2, .ref g3, .int (nI 0), .ref g4, .int (-1 : Int32), .ref g5, .int (nI 0), .ref g6, .int (nI 0), .ref g7, .ref g8, .ref g9, .ref g10, .ref g11, .ref g12])), (g1, .inl (cI, 9, .inl vg)), (g2, .inl (cI, 9, .inl vb)), (g3, .inl (cI, 9, .inl vr)), (g4, .inl (cZ, 20480, .inl (fun _ => 0))), (g5, .inl (cI, 9, .inl vn)), (g6, .inl (cI, 9, .inl (fun _ => 0))), (g7, .inl (cI, 9, .inl (fun _ => 0))), (g8, .inl (cJ, 19683, .inr (.inl (fun _ => 0)))), (g9, .inl (cI, 19683, .inl (fun _ => 0))), (g10, .inl (cI, 19683, .inl (fun _ => 0))), (g11, .inl (cI, 19683, .inl (fun _ => 0))), (g12, .inl (cI, 9, .inl th))] H → va_D (fun q : Nat => s.heap.size ≤ q) [(x0, .inr (6, [.ref h4, .ref h3, .ref h2, .ref h1, .ref hB, .ref h5])), (h4, .inr (4, [.ref a1, .ref a2, .ref a3, .int (nI 1), .int (nI 0), .int (nI 0)])), (a1, .inl (cI, 9, .inl ug)), (a2, .inl (cI, 9, .inl ub)), (a3, .inl (cI, 9, .inl ur)), (h3, .inr (3, [.ref b1, .ref b2, .int (nI 1), .int (nI 0), .int (-1 : Int32)])), (b1, .inl (cJ, 320, .inr (.inl (fun _ => 0)))), (b2, .inl (cI, 9, .inl (fun _ => 0))), (h2, .inr (2, [.ref r1, .int (nI 0)])), (r1, .inl (cI, 9, .inl (fun _ => 0))), (h1, .inr (1, [.ref h4, .ref h3, .ref h2, .ref p4, .ref p5, .ref p6, .int (nI 0)])), (p4, .inl (cI, 9, .inl (fun _ => 0))), (p5, .inl (cJ, 0, .inr (.inl (fun _ => 0)))), (p6, .inl (cI, 0, .inl (fun _ => 0))), (hB, .inr (0, [.ref h4, .ref h3, .ref l3])), (l3, .inl (cI, 512, .inl (fun _ => 0))), (h5, .inr (5, [.ref lk1, .int (nI 0)])), (lk1, .inl (cI, 9, .inl (fun _ => 0))), (m0, .inr (7, [.int (nI 1), .ref g1, .ref g2, .ref g3, .int (nI 0), .ref g4, .int (-1 : Int32), .ref g5, .int (nI 0), .ref g6, .int (nI 0), .ref g7, .ref g8, .ref g9, .ref g10, .ref g11, .ref g12])), (g1, .inl (cI, 9, .inl vg)), (g2, .inl (cI, 9, .inl vb)), (g3, .inl (cI, 9, .inl vr)), (g4, .inl (cZ, 20480, .inl (fun _ => 0))), (g5, .inl (cI, 9, .inl vn)), (g6, .inl (cI, 9, .inl (fun _ => 0))), (g7, .inl (cI, 9, .inl (fun _ => 0))), (g8, .inl (cJ, 19683, .inr (.inl (fun _ => 0)))), (g9, .inl (cI, 19683, .inl (fun _ => 0))), (g10, .inl (cI, 19683, .inl (fun _ => 0))), (g11, .inl (cI, 19683, .inl (fun _ => 0))), (g12, .inl (cI, 9, .inl th))] → va_S (fun q : Nat => s.heap.size ≤ q) s.heap H locs → lv_has ls 4 [(3, .int (nI 0)), (2, .ref m0), (1, .ref x0), (0, .ref b)] → W p l e room_1 s m #[Value.ref b] below meth c H locs 31 100218 (lw_Z below #[Value.ref b] s) (F0 m 388 ls []) := by
  obtain ⟨hx, hb, hr, hml, hown, hts0, hX, hbl, hlocks, hgv⟩ := id C0
  have hts : ∀ w ∈ wsL_law, w.before #[Value.ref b] s = true := fun w h => hts0 w (wsL_law_in w h)
  have hown : s.vm.findClass RL = some m.cls := hown
  have hA : ∀ q : Nat, s.heap.size ≤ q → (fun q : Nat => s.heap.size ≤ q) q := fun _ h => h
  have hbA : ¬ (fun q : Nat => s.heap.size ≤ q) b := Nat.not_le.mpr hbl
  have hK := hKN.1
  intro H locs ls hP hD hS hl
  refine lv_aload_n hx hb dL_law_388 rfl (lv_at hl 2 rfl) ?_
  refine lv_aload_n hx hb dL_law_389 rfl (lv_at hl 3 rfl) ?_
  refine lv_iload_n hx hb dL_law_390 rfl (lv_at hl 0 rfl) ?_
  refine lv_iconst (v := nI 1) hx hb dL_law_391 (by decide) ?_
  refine lv_iadd hx hb dL_law_392 ?_
  refine cn_i (y := nI (0 + 1)) (nI_add 0 1) ?_
  refine va_sld hx hb hX hbl hbA hS (i := nI (0 + 1)) (vp_in_nI (by omega) (by omega)) dL_law_393 ?_
  refine cn_i (y := xs (0 + 1)) (congrArg xs (nI_clamp (by omega))) ?_
  refine pu_i (va_runV (As := [.int (xs (0 + 1))]) (rest := []) ⟨hx, hb, hml, hown, hts⟩ (c_X6_dual l D cI cJ cZ x0 h4 h3 h2 h1 hB h5 b1 b2 (nI 1) (-1 : Int32) (xs (0 + 1))) (cwV 1 hts gL_law_X6_dual rfl rfl rfl (by decide +kernel) ⟨Nat.le_of_ble_eq_true rfl, Nat.le_of_ble_eq_true rfl⟩) ⟨pc_blind, va_recv hK hP (ci := 6) (q0 := 0) rfl rfl, fun U hU hW => ⟨rfl, by rw [hU]; exact hP.sub (ws' := [(x0, .inr (6, [.ref h4, .ref h3, .ref h2, .ref h1, .ref hB, .ref h5])), (h3, .inr (3, [.ref b1, .ref b2, .int (nI 1), .int (nI 0), .int (-1 : Int32)]))]) [0, 5] rfl, hKN.warm hW⟩⟩ rfl rfl hl.1 rfl (lv_room (Nat.le_of_ble_eq_true rfl)) dL_law_394 ⟨Nat.le_of_ble_eq_true rfl, Nat.le_of_ble_eq_true rfl⟩) hS hP (fun r1 H locs w1r hP hS => ?_)
  have w1 : r1 = -1 := w1r
  clear w1r
  obtain rfl : r1 = (-1 : Int32) := w1
  refine lv_aload_n hx hb dL_law_397 rfl (lv_at hl 1 rfl) ?_
  refine lv_aload_n hx hb dL_law_398 rfl (lv_at hl 3 rfl) ?_
  refine lv_iload_n hx hb dL_law_399 rfl (lv_at hl 0 rfl) ?_
  refine lv_iconst (v := nI 1) hx hb dL_law_400 (by decide) ?_
  refine lv_iadd hx hb dL_law_401 ?_
  refine cn_i (y := nI (0 + 1)) (nI_add 0 1) ?_
  refine va_sld hx hb hX hbl hbA hS (i := nI (0 + 1)) (vp_in_nI (by omega) (by omega)) dL_law_402 ?_
  refine cn_i (y := xs (0 + 1)) (congrArg xs (nI_clamp (by omega))) ?_
  refine pu_i (va_runV (As := [.int (xs (0 + 1))]) (rest := [.int (-1 : Int32)]) ⟨hx, hb, hml, hown, hts⟩ (c_X7_dual l D cI cJ cZ m0 g1 g2 g3 g4 g5 g6 g7 g8 g9 g10 g11 g12 (nI 1) (-1 : Int32) (nI 0) (nI 0) (xs (0 + 1))) (cwV 1 hts gL_law_X7_dual rfl rfl rfl (by decide +kernel) ⟨Nat.le_of_ble_eq_true rfl, Nat.le_of_ble_eq_true rfl⟩) ⟨pc_blind, va_recv hK hP (ci := 7) (q0 := 18) rfl rfl, fun U hU hW => ⟨rfl, by rw [hU]; exact hP.sub (ws' := [(m0, .inr (7, [.int (nI 1), .ref g1, .ref g2, .ref g3, .int (nI 0), .ref g4, .int (-1 : Int32), .ref g5, .int (nI 0), .ref g6, .int (nI 0), .ref g7, .ref g8, .ref g9, .ref g10, .ref g11, .ref g12]))]) [18] rfl, hKN.warm hW⟩⟩ rfl rfl hl.1 rfl (lv_room (Nat.le_of_ble_eq_true rfl)) dL_law_403 ⟨Nat.le_of_ble_eq_true rfl, Nat.le_of_ble_eq_true rfl⟩) hS hP (fun r2 H locs w2r hP hS => ?_)
  have w2 : r2 = -1 := w2r
  clear w2r
  obtain rfl : r2 = (-1 : Int32) := w2
  refine lv_icmp_eq (tgt := 883) hx hb dL_law_406 (by decide) (fun c3 => ?_) (fun c3 => ?_)
  · skip
    exact law_tail hL6 C0 _ _ _ hS (lv_sub hl [0, 3] rfl)
  · exact absurd c3 (by first | decide | exact nz_lt (by omega) | exact fun h => h (nz_ge (by omega)))
set_option maxHeartbeats 4000000 in
set_option maxRecDepth 100000 in
theorem law_c7 {p : Program} {l : Launch} {e : Env} {s : State} {m : MethodId} {below : List Frame} {meth : Method} {c : Code} {b L : Nat} {xs : Nat → Int32} (hL6 : L = 6) (C0 : lw_At p s m meth c b L xs) (D : va_G) (cI cJ cZ : ClassId) (hKN : KN D cI cJ cZ s) (x0 h4 a1 a2 a3 h3 b1 b2 h2 r1 h1 p4 p5 p6 hB l3 h5 lk1 m0 g1 g2 g3 g4 g5 g6 g7 g8 g9 g10 g11 g12 : Nat) (ug ub ur vg vb vr vn th : Nat → Int32) (hone : ∀ z, z < 9 → ug z = nI 1 ∧ ub z = nI 1 ∧ ur z = nI 1) (hmone : (∀ z, z < 9 → vg z = nI 1 ∧ vb z = nI 1 ∧ vr z = nI 1 ∧ vn z = -1) ∧ (∀ z, z < 9 → th z = nI (3 ^ z))) (hth : ∀ z, z < 9 → ¬ th z = 0) : ∀ (H : Heap) (locs : List Loc) (ls : Array Slot), va_P D vwCl [(x0, .inr (6, [.ref h4, .ref h3, .ref h2, .ref h1, .ref hB, .ref h5])), (h4, .inr (4, [.ref a1, .ref a2, .ref a3, .int (nI 1), .int (nI 0), .int (nI 0)])), (a1, .inl (cI, 9, .inl ug)), (a2, .inl (cI, 9, .inl ub)), (a3, .inl (cI, 9, .inl ur)), (h3, .inr (3, [.ref b1, .ref b2, .int (nI 1), .int (nI 0), .int (-1 : Int32)])), (b1, .inl (cJ, 320, .inr (.inl (fun _ => 0)))), (b2, .inl (cI, 9, .inl (fun _ => 0))), (h2, .inr (2, [.ref r1, .int (nI 0)])), (r1, .inl (cI, 9, .inl (fun _ => 0))), (h1, .inr (1, [.ref h4, .ref h3, .ref h2, .ref p4, .ref p5, .ref p6, .int (nI 0)])), (p4, .inl (cI, 9, .inl (fun _ => 0))), (p5, .inl (cJ, 0, .inr (.inl (fun _ => 0)))), (p6, .inl (cI, 0, .inl (fun _ => 0))), (hB, .inr (0, [.ref h4, .ref h3, .ref l3])), (l3, .inl (cI, 512, .inl (fun _ => 0))), (h5, .inr (5, [.ref lk1, .int (nI 0)])), (lk1, .inl (cI, 9, .inl (fun _ => 0))), (m0, .inr (7, [.int (nI 1), .ref g1, .ref g2, .ref g3, .int (nI 0), .ref g4, .int (-1 : Int32), .ref g5, .int (nI 0), .ref g6, .int (nI 0), .ref g7, .ref g8, .ref g9, .ref g10, .ref g11, .ref g12])), (g1, .inl (cI, 9, .inl vg)), (g2, .inl (cI, 9, .inl vb)), (g3, .inl (cI, 9, .inl vr)), (g4, .inl (cZ, 20480, .inl (fun _ => 0))), (g5, .inl (cI, 9, .inl vn)), (g6, .inl (cI, 9, .inl (fun _ => 0))), (g7, .inl (cI, 9, .inl (fun _ => 0))), (g8, .inl (cJ, 19683, .inr (.inl (fun _ => 0)))), (g9, .inl (cI, 19683, .inl (fun _ => 0))), (g10, .inl (cI, 19683, .inl (fun _ => 0))), (g11, .inl (cI, 19683, .inl (fun _ => 0))), (g12, .inl (cI, 9, .inl th))] H → va_D (fun q : Nat => s.heap.size ≤ q) [(x0, .inr (6, [.ref h4, .ref h3, .ref h2, .ref h1, .ref hB, .ref h5])), (h4, .inr (4, [.ref a1, .ref a2, .ref a3, .int (nI 1), .int (nI 0), .int (nI 0)])), (a1, .inl (cI, 9, .inl ug)), (a2, .inl (cI, 9, .inl ub)), (a3, .inl (cI, 9, .inl ur)), (h3, .inr (3, [.ref b1, .ref b2, .int (nI 1), .int (nI 0), .int (-1 : Int32)])), (b1, .inl (cJ, 320, .inr (.inl (fun _ => 0)))), (b2, .inl (cI, 9, .inl (fun _ => 0))), (h2, .inr (2, [.ref r1, .int (nI 0)])), (r1, .inl (cI, 9, .inl (fun _ => 0))), (h1, .inr (1, [.ref h4, .ref h3, .ref h2, .ref p4, .ref p5, .ref p6, .int (nI 0)])), (p4, .inl (cI, 9, .inl (fun _ => 0))), (p5, .inl (cJ, 0, .inr (.inl (fun _ => 0)))), (p6, .inl (cI, 0, .inl (fun _ => 0))), (hB, .inr (0, [.ref h4, .ref h3, .ref l3])), (l3, .inl (cI, 512, .inl (fun _ => 0))), (h5, .inr (5, [.ref lk1, .int (nI 0)])), (lk1, .inl (cI, 9, .inl (fun _ => 0))), (m0, .inr (7, [.int (nI 1), .ref g1, .ref g2, .ref g3, .int (nI 0), .ref g4, .int (-1 : Int32), .ref g5, .int (nI 0), .ref g6, .int (nI 0), .ref g7, .ref g8, .ref g9, .ref g10, .ref g11, .ref g12])), (g1, .inl (cI, 9, .inl vg)), (g2, .inl (cI, 9, .inl vb)), (g3, .inl (cI, 9, .inl vr)), (g4, .inl (cZ, 20480, .inl (fun _ => 0))), (g5, .inl (cI, 9, .inl vn)), (g6, .inl (cI, 9, .inl (fun _ => 0))), (g7, .inl (cI, 9, .inl (fun _ => 0))), (g8, .inl (cJ, 19683, .inr (.inl (fun _ => 0)))), (g9, .inl (cI, 19683, .inl (fun _ => 0))), (g10, .inl (cI, 19683, .inl (fun _ => 0))), (g11, .inl (cI, 19683, .inl (fun _ => 0))), (g12, .inl (cI, 9, .inl th))] → va_S (fun q : Nat => s.heap.size ≤ q) s.heap H locs → lv_has ls 4 [(3, .int (nI 0)), (2, .ref m0), (1, .ref x0), (0, .ref b)] → W p l e room_1 s m #[Value.ref b] below meth c H locs 31 100218 (lw_Z below #[Value.ref b] s) (F0 m 411 ls []) := by
  obtain ⟨hx, hb, hr, hml, hown, hts0, hX, hbl, hlocks, hgv⟩ := id C0
  have hts : ∀ w ∈ wsL_law, w.before #[Value.ref b] s = true := fun w h => hts0 w (wsL_law_in w h)
  have hown : s.vm.findClass RL = some m.cls := hown
  have hA : ∀ q : Nat, s.heap.size ≤ q → (fun q : Nat => s.heap.size ≤ q) q := fun _ h => h
  have hbA : ¬ (fun q : Nat => s.heap.size ≤ q) b := Nat.not_le.mpr hbl
  have hK := hKN.1
  intro H locs ls hP hD hS hl
  refine lv_aload_n hx hb dL_law_411 rfl (lv_at hl 2 rfl) ?_
  refine lv_aload_n hx hb dL_law_412 rfl (lv_at hl 3 rfl) ?_
  refine lv_iload_n hx hb dL_law_413 rfl (lv_at hl 0 rfl) ?_
  refine lv_iconst (v := nI 1) hx hb dL_law_414 (by decide) ?_
  refine lv_iadd hx hb dL_law_415 ?_
  refine cn_i (y := nI (0 + 1)) (nI_add 0 1) ?_
  refine va_sld hx hb hX hbl hbA hS (i := nI (0 + 1)) (vp_in_nI (by omega) (by omega)) dL_law_416 ?_
  refine cn_i (y := xs (0 + 1)) (congrArg xs (nI_clamp (by omega))) ?_
  refine pu_i (va_runV (As := [.int (xs (0 + 1))]) (rest := []) ⟨hx, hb, hml, hown, hts⟩ (c_X6_system l D cI cJ cZ x0 h4 h3 h2 h1 hB h5 b1 b2 (nI 1) (-1 : Int32) (xs (0 + 1))) (cwV 1 hts gL_law_X6_system rfl rfl rfl (by decide +kernel) ⟨Nat.le_of_ble_eq_true rfl, Nat.le_of_ble_eq_true rfl⟩) ⟨pc_blind, va_recv hK hP (ci := 6) (q0 := 0) rfl rfl, fun U hU hW => ⟨rfl, by rw [hU]; exact hP.sub (ws' := [(x0, .inr (6, [.ref h4, .ref h3, .ref h2, .ref h1, .ref hB, .ref h5])), (h3, .inr (3, [.ref b1, .ref b2, .int (nI 1), .int (nI 0), .int (-1 : Int32)]))]) [0, 5] rfl, hKN.warm hW⟩⟩ rfl rfl hl.1 rfl (lv_room (Nat.le_of_ble_eq_true rfl)) dL_law_417 ⟨Nat.le_of_ble_eq_true rfl, Nat.le_of_ble_eq_true rfl⟩) hS hP (fun r1 H locs w1r hP hS => ?_)
  have w1 : B01 r1 False := w1r
  clear w1r
  rcases w1 with ⟨rfl, w1⟩ | ⟨rfl, w1⟩
  · skip
    refine lv_aload_n hx hb dL_law_420 rfl (lv_at hl 1 rfl) ?_
    refine lv_aload_n hx hb dL_law_421 rfl (lv_at hl 3 rfl) ?_
    refine lv_iload_n hx hb dL_law_422 rfl (lv_at hl 0 rfl) ?_
    refine lv_iconst (v := nI 1) hx hb dL_law_423 (by decide) ?_
    refine lv_iadd hx hb dL_law_424 ?_
    refine cn_i (y := nI (0 + 1)) (nI_add 0 1) ?_
    refine va_sld hx hb hX hbl hbA hS (i := nI (0 + 1)) (vp_in_nI (by omega) (by omega)) dL_law_425 ?_
    refine cn_i (y := xs (0 + 1)) (congrArg xs (nI_clamp (by omega))) ?_
    refine pu_i (va_runV (As := [.int (xs (0 + 1))]) (rest := [.int (nI 1)]) ⟨hx, hb, hml, hown, hts⟩ (c_X7_system l D cI cJ cZ m0 g1 g2 g3 g4 g5 g6 g7 g8 g9 g10 g11 g12 (nI 1) (-1 : Int32) (nI 0) (nI 0) (xs (0 + 1))) (cwV 1 hts gL_law_X7_system rfl rfl rfl (by decide +kernel) ⟨Nat.le_of_ble_eq_true rfl, Nat.le_of_ble_eq_true rfl⟩) ⟨pc_blind, va_recv hK hP (ci := 7) (q0 := 18) rfl rfl, fun U hU hW => ⟨rfl, by rw [hU]; exact hP.sub (ws' := [(m0, .inr (7, [.int (nI 1), .ref g1, .ref g2, .ref g3, .int (nI 0), .ref g4, .int (-1 : Int32), .ref g5, .int (nI 0), .ref g6, .int (nI 0), .ref g7, .ref g8, .ref g9, .ref g10, .ref g11, .ref g12]))]) [18] rfl, hKN.warm hW⟩⟩ rfl rfl hl.1 rfl (lv_room (Nat.le_of_ble_eq_true rfl)) dL_law_426 ⟨Nat.le_of_ble_eq_true rfl, Nat.le_of_ble_eq_true rfl⟩) hS hP (fun r2 H locs w2r hP hS => ?_)
    have w2 : B01 r2 False := w2r
    clear w2r
    rcases w2 with ⟨rfl, w2⟩ | ⟨rfl, w2⟩
    · skip
      refine lv_icmp_eq (tgt := 883) hx hb dL_law_429 (by decide) (fun c3 => ?_) (fun c3 => ?_)
      · skip
        exact law_tail hL6 C0 _ _ _ hS (lv_sub hl [0, 3] rfl)
      · exact absurd c3 (by first | decide | exact nz_lt (by omega) | exact fun h => h (nz_ge (by omega)))
    · skip
      refine lv_icmp_eq (tgt := 883) hx hb dL_law_429 (by decide) (fun c4 => ?_) (fun c4 => ?_)
      · exact absurd c4 (by first | decide | exact nz_lt (by omega) | exact fun h => h (nz_ge (by omega)))
      · skip
        refine lv_iconst (v := nI 0) hx hb dL_law_432 (by decide) ?_
        exact (by first | exact absurd w1 w2 | exact absurd w2 w1 | exact w1.elim | exact w2.elim)
  · skip
    refine lv_aload_n hx hb dL_law_420 rfl (lv_at hl 1 rfl) ?_
    refine lv_aload_n hx hb dL_law_421 rfl (lv_at hl 3 rfl) ?_
    refine lv_iload_n hx hb dL_law_422 rfl (lv_at hl 0 rfl) ?_
    refine lv_iconst (v := nI 1) hx hb dL_law_423 (by decide) ?_
    refine lv_iadd hx hb dL_law_424 ?_
    refine cn_i (y := nI (0 + 1)) (nI_add 0 1) ?_
    refine va_sld hx hb hX hbl hbA hS (i := nI (0 + 1)) (vp_in_nI (by omega) (by omega)) dL_law_425 ?_
    refine cn_i (y := xs (0 + 1)) (congrArg xs (nI_clamp (by omega))) ?_
    refine pu_i (va_runV (As := [.int (xs (0 + 1))]) (rest := [.int (nI 0)]) ⟨hx, hb, hml, hown, hts⟩ (c_X7_system l D cI cJ cZ m0 g1 g2 g3 g4 g5 g6 g7 g8 g9 g10 g11 g12 (nI 1) (-1 : Int32) (nI 0) (nI 0) (xs (0 + 1))) (cwV 1 hts gL_law_X7_system rfl rfl rfl (by decide +kernel) ⟨Nat.le_of_ble_eq_true rfl, Nat.le_of_ble_eq_true rfl⟩) ⟨pc_blind, va_recv hK hP (ci := 7) (q0 := 18) rfl rfl, fun U hU hW => ⟨rfl, by rw [hU]; exact hP.sub (ws' := [(m0, .inr (7, [.int (nI 1), .ref g1, .ref g2, .ref g3, .int (nI 0), .ref g4, .int (-1 : Int32), .ref g5, .int (nI 0), .ref g6, .int (nI 0), .ref g7, .ref g8, .ref g9, .ref g10, .ref g11, .ref g12]))]) [18] rfl, hKN.warm hW⟩⟩ rfl rfl hl.1 rfl (lv_room (Nat.le_of_ble_eq_true rfl)) dL_law_426 ⟨Nat.le_of_ble_eq_true rfl, Nat.le_of_ble_eq_true rfl⟩) hS hP (fun r5 H locs w5r hP hS => ?_)
    have w5 : B01 r5 False := w5r
    clear w5r
    rcases w5 with ⟨rfl, w5⟩ | ⟨rfl, w5⟩
    · skip
      refine lv_icmp_eq (tgt := 883) hx hb dL_law_429 (by decide) (fun c6 => ?_) (fun c6 => ?_)
      · exact absurd c6 (by first | decide | exact nz_lt (by omega) | exact fun h => h (nz_ge (by omega)))
      · skip
        refine lv_iconst (v := nI 0) hx hb dL_law_432 (by decide) ?_
        exact (by first | exact absurd w1 w5 | exact absurd w5 w1 | exact w1.elim | exact w5.elim)
    · skip
      refine lv_icmp_eq (tgt := 883) hx hb dL_law_429 (by decide) (fun c7 => ?_) (fun c7 => ?_)
      · skip
        exact law_tail hL6 C0 _ _ _ hS (lv_sub hl [0, 3] rfl)
      · exact absurd c7 (by first | decide | exact nz_lt (by omega) | exact fun h => h (nz_ge (by omega)))
set_option maxHeartbeats 4000000 in
set_option maxRecDepth 100000 in
theorem law_c8 {p : Program} {l : Launch} {e : Env} {s : State} {m : MethodId} {below : List Frame} {meth : Method} {c : Code} {b L : Nat} {xs : Nat → Int32} (hL6 : L = 6) (C0 : lw_At p s m meth c b L xs) (D : va_G) (cI cJ cZ : ClassId) (hKN : KN D cI cJ cZ s) (x0 h4 a1 a2 a3 h3 b1 b2 h2 r1 h1 p4 p5 p6 hB l3 h5 lk1 m0 g1 g2 g3 g4 g5 g6 g7 g8 g9 g10 g11 g12 : Nat) (ug ub ur vg vb vr vn th : Nat → Int32) (hone : ∀ z, z < 9 → ug z = nI 1 ∧ ub z = nI 1 ∧ ur z = nI 1) (hmone : (∀ z, z < 9 → vg z = nI 1 ∧ vb z = nI 1 ∧ vr z = nI 1 ∧ vn z = -1) ∧ (∀ z, z < 9 → th z = nI (3 ^ z))) (hth : ∀ z, z < 9 → ¬ th z = 0) : ∀ (H : Heap) (locs : List Loc) (ls : Array Slot), va_P D vwCl [(x0, .inr (6, [.ref h4, .ref h3, .ref h2, .ref h1, .ref hB, .ref h5])), (h4, .inr (4, [.ref a1, .ref a2, .ref a3, .int (nI 1), .int (nI 0), .int (nI 0)])), (a1, .inl (cI, 9, .inl ug)), (a2, .inl (cI, 9, .inl ub)), (a3, .inl (cI, 9, .inl ur)), (h3, .inr (3, [.ref b1, .ref b2, .int (nI 1), .int (nI 0), .int (-1 : Int32)])), (b1, .inl (cJ, 320, .inr (.inl (fun _ => 0)))), (b2, .inl (cI, 9, .inl (fun _ => 0))), (h2, .inr (2, [.ref r1, .int (nI 0)])), (r1, .inl (cI, 9, .inl (fun _ => 0))), (h1, .inr (1, [.ref h4, .ref h3, .ref h2, .ref p4, .ref p5, .ref p6, .int (nI 0)])), (p4, .inl (cI, 9, .inl (fun _ => 0))), (p5, .inl (cJ, 0, .inr (.inl (fun _ => 0)))), (p6, .inl (cI, 0, .inl (fun _ => 0))), (hB, .inr (0, [.ref h4, .ref h3, .ref l3])), (l3, .inl (cI, 512, .inl (fun _ => 0))), (h5, .inr (5, [.ref lk1, .int (nI 0)])), (lk1, .inl (cI, 9, .inl (fun _ => 0))), (m0, .inr (7, [.int (nI 1), .ref g1, .ref g2, .ref g3, .int (nI 0), .ref g4, .int (-1 : Int32), .ref g5, .int (nI 0), .ref g6, .int (nI 0), .ref g7, .ref g8, .ref g9, .ref g10, .ref g11, .ref g12])), (g1, .inl (cI, 9, .inl vg)), (g2, .inl (cI, 9, .inl vb)), (g3, .inl (cI, 9, .inl vr)), (g4, .inl (cZ, 20480, .inl (fun _ => 0))), (g5, .inl (cI, 9, .inl vn)), (g6, .inl (cI, 9, .inl (fun _ => 0))), (g7, .inl (cI, 9, .inl (fun _ => 0))), (g8, .inl (cJ, 19683, .inr (.inl (fun _ => 0)))), (g9, .inl (cI, 19683, .inl (fun _ => 0))), (g10, .inl (cI, 19683, .inl (fun _ => 0))), (g11, .inl (cI, 19683, .inl (fun _ => 0))), (g12, .inl (cI, 9, .inl th))] H → va_D (fun q : Nat => s.heap.size ≤ q) [(x0, .inr (6, [.ref h4, .ref h3, .ref h2, .ref h1, .ref hB, .ref h5])), (h4, .inr (4, [.ref a1, .ref a2, .ref a3, .int (nI 1), .int (nI 0), .int (nI 0)])), (a1, .inl (cI, 9, .inl ug)), (a2, .inl (cI, 9, .inl ub)), (a3, .inl (cI, 9, .inl ur)), (h3, .inr (3, [.ref b1, .ref b2, .int (nI 1), .int (nI 0), .int (-1 : Int32)])), (b1, .inl (cJ, 320, .inr (.inl (fun _ => 0)))), (b2, .inl (cI, 9, .inl (fun _ => 0))), (h2, .inr (2, [.ref r1, .int (nI 0)])), (r1, .inl (cI, 9, .inl (fun _ => 0))), (h1, .inr (1, [.ref h4, .ref h3, .ref h2, .ref p4, .ref p5, .ref p6, .int (nI 0)])), (p4, .inl (cI, 9, .inl (fun _ => 0))), (p5, .inl (cJ, 0, .inr (.inl (fun _ => 0)))), (p6, .inl (cI, 0, .inl (fun _ => 0))), (hB, .inr (0, [.ref h4, .ref h3, .ref l3])), (l3, .inl (cI, 512, .inl (fun _ => 0))), (h5, .inr (5, [.ref lk1, .int (nI 0)])), (lk1, .inl (cI, 9, .inl (fun _ => 0))), (m0, .inr (7, [.int (nI 1), .ref g1, .ref g2, .ref g3, .int (nI 0), .ref g4, .int (-1 : Int32), .ref g5, .int (nI 0), .ref g6, .int (nI 0), .ref g7, .ref g8, .ref g9, .ref g10, .ref g11, .ref g12])), (g1, .inl (cI, 9, .inl vg)), (g2, .inl (cI, 9, .inl vb)), (g3, .inl (cI, 9, .inl vr)), (g4, .inl (cZ, 20480, .inl (fun _ => 0))), (g5, .inl (cI, 9, .inl vn)), (g6, .inl (cI, 9, .inl (fun _ => 0))), (g7, .inl (cI, 9, .inl (fun _ => 0))), (g8, .inl (cJ, 19683, .inr (.inl (fun _ => 0)))), (g9, .inl (cI, 19683, .inl (fun _ => 0))), (g10, .inl (cI, 19683, .inl (fun _ => 0))), (g11, .inl (cI, 19683, .inl (fun _ => 0))), (g12, .inl (cI, 9, .inl th))] → va_S (fun q : Nat => s.heap.size ≤ q) s.heap H locs → lv_has ls 4 [(3, .int (nI 0)), (2, .ref m0), (1, .ref x0), (0, .ref b)] → W p l e room_1 s m #[Value.ref b] below meth c H locs 31 100218 (lw_Z below #[Value.ref b] s) (F0 m 434 ls []) := by
  obtain ⟨hx, hb, hr, hml, hown, hts0, hX, hbl, hlocks, hgv⟩ := id C0
  have hts : ∀ w ∈ wsL_law, w.before #[Value.ref b] s = true := fun w h => hts0 w (wsL_law_in w h)
  have hown : s.vm.findClass RL = some m.cls := hown
  have hA : ∀ q : Nat, s.heap.size ≤ q → (fun q : Nat => s.heap.size ≤ q) q := fun _ h => h
  have hbA : ¬ (fun q : Nat => s.heap.size ≤ q) b := Nat.not_le.mpr hbl
  have hK := hKN.1
  intro H locs ls hP hD hS hl
  refine lv_aload_n hx hb dL_law_434 rfl (lv_at hl 2 rfl) ?_
  refine lv_aload_n hx hb dL_law_435 rfl (lv_at hl 3 rfl) ?_
  refine lv_iload_n hx hb dL_law_436 rfl (lv_at hl 0 rfl) ?_
  refine lv_iconst (v := nI 1) hx hb dL_law_437 (by decide) ?_
  refine lv_iadd hx hb dL_law_438 ?_
  refine cn_i (y := nI (0 + 1)) (nI_add 0 1) ?_
  refine va_sld hx hb hX hbl hbA hS (i := nI (0 + 1)) (vp_in_nI (by omega) (by omega)) dL_law_439 ?_
  refine cn_i (y := xs (0 + 1)) (congrArg xs (nI_clamp (by omega))) ?_
  refine lv_aload_n hx hb dL_law_440 rfl (lv_at hl 3 rfl) ?_
  refine lv_iload_n hx hb dL_law_441 rfl (lv_at hl 0 rfl) ?_
  refine lv_iconst (v := nI 2) hx hb dL_law_442 (by decide) ?_
  refine lv_iadd hx hb dL_law_443 ?_
  refine cn_i (y := nI (0 + 2)) (nI_add 0 2) ?_
  refine va_sld hx hb hX hbl hbA hS (i := nI (0 + 2)) (vp_in_nI (by omega) (by omega)) dL_law_444 ?_
  refine cn_i (y := xs (0 + 2)) (congrArg xs (nI_clamp (by omega))) ?_
  refine pu_i (va_runV (As := [.int (xs (0 + 1)), .int (xs (0 + 2))]) (rest := []) ⟨hx, hb, hml, hown, hts⟩ (c_X6_says l D cI cJ cZ x0 h4 h3 h2 h1 hB h5 b1 b2 (nI 1) (-1 : Int32) (xs (0 + 1)) (xs (0 + 2))) (cwV 2 hts gL_law_X6_says rfl rfl rfl (by decide +kernel) ⟨Nat.le_of_ble_eq_true rfl, Nat.le_of_ble_eq_true rfl⟩) ⟨pc_blind, va_recv hK hP (ci := 6) (q0 := 0) rfl rfl, fun U hU hW => ⟨rfl, by rw [hU]; exact hP.sub (ws' := [(x0, .inr (6, [.ref h4, .ref h3, .ref h2, .ref h1, .ref hB, .ref h5])), (h3, .inr (3, [.ref b1, .ref b2, .int (nI 1), .int (nI 0), .int (-1 : Int32)]))]) [0, 5] rfl, hKN.warm hW⟩⟩ rfl rfl hl.1 rfl (lv_room (Nat.le_of_ble_eq_true rfl)) dL_law_445 ⟨Nat.le_of_ble_eq_true rfl, Nat.le_of_ble_eq_true rfl⟩) hS hP (fun r1 H locs w1r hP hS => ?_)
  have w1 : r1 = -1 := w1r
  clear w1r
  obtain rfl : r1 = (-1 : Int32) := w1
  refine lv_aload_n hx hb dL_law_448 rfl (lv_at hl 1 rfl) ?_
  refine lv_aload_n hx hb dL_law_449 rfl (lv_at hl 3 rfl) ?_
  refine lv_iload_n hx hb dL_law_450 rfl (lv_at hl 0 rfl) ?_
  refine lv_iconst (v := nI 1) hx hb dL_law_451 (by decide) ?_
  refine lv_iadd hx hb dL_law_452 ?_
  refine cn_i (y := nI (0 + 1)) (nI_add 0 1) ?_
  refine va_sld hx hb hX hbl hbA hS (i := nI (0 + 1)) (vp_in_nI (by omega) (by omega)) dL_law_453 ?_
  refine cn_i (y := xs (0 + 1)) (congrArg xs (nI_clamp (by omega))) ?_
  refine lv_aload_n hx hb dL_law_454 rfl (lv_at hl 3 rfl) ?_
  refine lv_iload_n hx hb dL_law_455 rfl (lv_at hl 0 rfl) ?_
  refine lv_iconst (v := nI 2) hx hb dL_law_456 (by decide) ?_
  refine lv_iadd hx hb dL_law_457 ?_
  refine cn_i (y := nI (0 + 2)) (nI_add 0 2) ?_
  refine va_sld hx hb hX hbl hbA hS (i := nI (0 + 2)) (vp_in_nI (by omega) (by omega)) dL_law_458 ?_
  refine cn_i (y := xs (0 + 2)) (congrArg xs (nI_clamp (by omega))) ?_
  refine pu_i (va_runV (As := [.int (xs (0 + 1)), .int (xs (0 + 2))]) (rest := [.int (-1 : Int32)]) ⟨hx, hb, hml, hown, hts⟩ (c_X7_says l D cI cJ cZ m0 g1 g2 g3 g4 g5 g6 g7 g8 g9 g10 g11 g12 (nI 1) (-1 : Int32) (nI 0) (nI 0) (xs (0 + 1)) (xs (0 + 2))) (cwV 2 hts gL_law_X7_says rfl rfl rfl (by decide +kernel) ⟨Nat.le_of_ble_eq_true rfl, Nat.le_of_ble_eq_true rfl⟩) ⟨pc_blind, va_recv hK hP (ci := 7) (q0 := 18) rfl rfl, fun U hU hW => ⟨rfl, by rw [hU]; exact hP.sub (ws' := [(m0, .inr (7, [.int (nI 1), .ref g1, .ref g2, .ref g3, .int (nI 0), .ref g4, .int (-1 : Int32), .ref g5, .int (nI 0), .ref g6, .int (nI 0), .ref g7, .ref g8, .ref g9, .ref g10, .ref g11, .ref g12]))]) [18] rfl, hKN.warm hW⟩⟩ rfl rfl hl.1 rfl (lv_room (Nat.le_of_ble_eq_true rfl)) dL_law_459 ⟨Nat.le_of_ble_eq_true rfl, Nat.le_of_ble_eq_true rfl⟩) hS hP (fun r2 H locs w2r hP hS => ?_)
  have w2 : r2 = -1 := w2r
  clear w2r
  obtain rfl : r2 = (-1 : Int32) := w2
  refine lv_icmp_eq (tgt := 883) hx hb dL_law_462 (by decide) (fun c3 => ?_) (fun c3 => ?_)
  · skip
    exact law_tail hL6 C0 _ _ _ hS (lv_sub hl [0, 3] rfl)
  · exact absurd c3 (by first | decide | exact nz_lt (by omega) | exact fun h => h (nz_ge (by omega)))
set_option maxHeartbeats 4000000 in
set_option maxRecDepth 100000 in
theorem law_c9 {p : Program} {l : Launch} {e : Env} {s : State} {m : MethodId} {below : List Frame} {meth : Method} {c : Code} {b L : Nat} {xs : Nat → Int32} (hL6 : L = 6) (C0 : lw_At p s m meth c b L xs) (D : va_G) (cI cJ cZ : ClassId) (hKN : KN D cI cJ cZ s) (x0 h4 a1 a2 a3 h3 b1 b2 h2 r1 h1 p4 p5 p6 hB l3 h5 lk1 m0 g1 g2 g3 g4 g5 g6 g7 g8 g9 g10 g11 g12 : Nat) (ug ub ur vg vb vr vn th : Nat → Int32) (hone : ∀ z, z < 9 → ug z = nI 1 ∧ ub z = nI 1 ∧ ur z = nI 1) (hmone : (∀ z, z < 9 → vg z = nI 1 ∧ vb z = nI 1 ∧ vr z = nI 1 ∧ vn z = -1) ∧ (∀ z, z < 9 → th z = nI (3 ^ z))) (hth : ∀ z, z < 9 → ¬ th z = 0) : ∀ (H : Heap) (locs : List Loc) (ls : Array Slot), va_P D vwCl [(x0, .inr (6, [.ref h4, .ref h3, .ref h2, .ref h1, .ref hB, .ref h5])), (h4, .inr (4, [.ref a1, .ref a2, .ref a3, .int (nI 1), .int (nI 0), .int (nI 0)])), (a1, .inl (cI, 9, .inl ug)), (a2, .inl (cI, 9, .inl ub)), (a3, .inl (cI, 9, .inl ur)), (h3, .inr (3, [.ref b1, .ref b2, .int (nI 1), .int (nI 0), .int (-1 : Int32)])), (b1, .inl (cJ, 320, .inr (.inl (fun _ => 0)))), (b2, .inl (cI, 9, .inl (fun _ => 0))), (h2, .inr (2, [.ref r1, .int (nI 0)])), (r1, .inl (cI, 9, .inl (fun _ => 0))), (h1, .inr (1, [.ref h4, .ref h3, .ref h2, .ref p4, .ref p5, .ref p6, .int (nI 0)])), (p4, .inl (cI, 9, .inl (fun _ => 0))), (p5, .inl (cJ, 0, .inr (.inl (fun _ => 0)))), (p6, .inl (cI, 0, .inl (fun _ => 0))), (hB, .inr (0, [.ref h4, .ref h3, .ref l3])), (l3, .inl (cI, 512, .inl (fun _ => 0))), (h5, .inr (5, [.ref lk1, .int (nI 0)])), (lk1, .inl (cI, 9, .inl (fun _ => 0))), (m0, .inr (7, [.int (nI 1), .ref g1, .ref g2, .ref g3, .int (nI 0), .ref g4, .int (-1 : Int32), .ref g5, .int (nI 0), .ref g6, .int (nI 0), .ref g7, .ref g8, .ref g9, .ref g10, .ref g11, .ref g12])), (g1, .inl (cI, 9, .inl vg)), (g2, .inl (cI, 9, .inl vb)), (g3, .inl (cI, 9, .inl vr)), (g4, .inl (cZ, 20480, .inl (fun _ => 0))), (g5, .inl (cI, 9, .inl vn)), (g6, .inl (cI, 9, .inl (fun _ => 0))), (g7, .inl (cI, 9, .inl (fun _ => 0))), (g8, .inl (cJ, 19683, .inr (.inl (fun _ => 0)))), (g9, .inl (cI, 19683, .inl (fun _ => 0))), (g10, .inl (cI, 19683, .inl (fun _ => 0))), (g11, .inl (cI, 19683, .inl (fun _ => 0))), (g12, .inl (cI, 9, .inl th))] H → va_D (fun q : Nat => s.heap.size ≤ q) [(x0, .inr (6, [.ref h4, .ref h3, .ref h2, .ref h1, .ref hB, .ref h5])), (h4, .inr (4, [.ref a1, .ref a2, .ref a3, .int (nI 1), .int (nI 0), .int (nI 0)])), (a1, .inl (cI, 9, .inl ug)), (a2, .inl (cI, 9, .inl ub)), (a3, .inl (cI, 9, .inl ur)), (h3, .inr (3, [.ref b1, .ref b2, .int (nI 1), .int (nI 0), .int (-1 : Int32)])), (b1, .inl (cJ, 320, .inr (.inl (fun _ => 0)))), (b2, .inl (cI, 9, .inl (fun _ => 0))), (h2, .inr (2, [.ref r1, .int (nI 0)])), (r1, .inl (cI, 9, .inl (fun _ => 0))), (h1, .inr (1, [.ref h4, .ref h3, .ref h2, .ref p4, .ref p5, .ref p6, .int (nI 0)])), (p4, .inl (cI, 9, .inl (fun _ => 0))), (p5, .inl (cJ, 0, .inr (.inl (fun _ => 0)))), (p6, .inl (cI, 0, .inl (fun _ => 0))), (hB, .inr (0, [.ref h4, .ref h3, .ref l3])), (l3, .inl (cI, 512, .inl (fun _ => 0))), (h5, .inr (5, [.ref lk1, .int (nI 0)])), (lk1, .inl (cI, 9, .inl (fun _ => 0))), (m0, .inr (7, [.int (nI 1), .ref g1, .ref g2, .ref g3, .int (nI 0), .ref g4, .int (-1 : Int32), .ref g5, .int (nI 0), .ref g6, .int (nI 0), .ref g7, .ref g8, .ref g9, .ref g10, .ref g11, .ref g12])), (g1, .inl (cI, 9, .inl vg)), (g2, .inl (cI, 9, .inl vb)), (g3, .inl (cI, 9, .inl vr)), (g4, .inl (cZ, 20480, .inl (fun _ => 0))), (g5, .inl (cI, 9, .inl vn)), (g6, .inl (cI, 9, .inl (fun _ => 0))), (g7, .inl (cI, 9, .inl (fun _ => 0))), (g8, .inl (cJ, 19683, .inr (.inl (fun _ => 0)))), (g9, .inl (cI, 19683, .inl (fun _ => 0))), (g10, .inl (cI, 19683, .inl (fun _ => 0))), (g11, .inl (cI, 19683, .inl (fun _ => 0))), (g12, .inl (cI, 9, .inl th))] → va_S (fun q : Nat => s.heap.size ≤ q) s.heap H locs → lv_has ls 4 [(3, .int (nI 0)), (2, .ref m0), (1, .ref x0), (0, .ref b)] → W p l e room_1 s m #[Value.ref b] below meth c H locs 31 100218 (lw_Z below #[Value.ref b] s) (F0 m 467 ls []) := by
  obtain ⟨hx, hb, hr, hml, hown, hts0, hX, hbl, hlocks, hgv⟩ := id C0
  have hts : ∀ w ∈ wsL_law, w.before #[Value.ref b] s = true := fun w h => hts0 w (wsL_law_in w h)
  have hown : s.vm.findClass RL = some m.cls := hown
  have hA : ∀ q : Nat, s.heap.size ≤ q → (fun q : Nat => s.heap.size ≤ q) q := fun _ h => h
  have hbA : ¬ (fun q : Nat => s.heap.size ≤ q) b := Nat.not_le.mpr hbl
  have hK := hKN.1
  intro H locs ls hP hD hS hl
  refine lv_aload_n hx hb dL_law_467 rfl (lv_at hl 2 rfl) ?_
  refine lv_aload_n hx hb dL_law_468 rfl (lv_at hl 3 rfl) ?_
  refine lv_iload_n hx hb dL_law_469 rfl (lv_at hl 0 rfl) ?_
  refine lv_iconst (v := nI 1) hx hb dL_law_470 (by decide) ?_
  refine lv_iadd hx hb dL_law_471 ?_
  refine cn_i (y := nI (0 + 1)) (nI_add 0 1) ?_
  refine va_sld hx hb hX hbl hbA hS (i := nI (0 + 1)) (vp_in_nI (by omega) (by omega)) dL_law_472 ?_
  refine cn_i (y := xs (0 + 1)) (congrArg xs (nI_clamp (by omega))) ?_
  refine lv_aload_n hx hb dL_law_473 rfl (lv_at hl 3 rfl) ?_
  refine lv_iload_n hx hb dL_law_474 rfl (lv_at hl 0 rfl) ?_
  refine lv_iconst (v := nI 2) hx hb dL_law_475 (by decide) ?_
  refine lv_iadd hx hb dL_law_476 ?_
  refine cn_i (y := nI (0 + 2)) (nI_add 0 2) ?_
  refine va_sld hx hb hX hbl hbA hS (i := nI (0 + 2)) (vp_in_nI (by omega) (by omega)) dL_law_477 ?_
  refine cn_i (y := xs (0 + 2)) (congrArg xs (nI_clamp (by omega))) ?_
  refine pu_i (va_runV (As := [.int (xs (0 + 1)), .int (xs (0 + 2))]) (rest := []) ⟨hx, hb, hml, hown, hts⟩ (c_X6_differ l D cI cJ cZ x0 h4 h3 h2 h1 hB h5 b1 b2 (nI 1) (-1 : Int32) (xs (0 + 1)) (xs (0 + 2))) (cwV 2 hts gL_law_X6_differ rfl rfl rfl (by decide +kernel) ⟨Nat.le_of_ble_eq_true rfl, Nat.le_of_ble_eq_true rfl⟩) ⟨pc_blind, va_recv hK hP (ci := 6) (q0 := 0) rfl rfl, fun U hU hW => ⟨rfl, by rw [hU]; exact hP.sub (ws' := [(x0, .inr (6, [.ref h4, .ref h3, .ref h2, .ref h1, .ref hB, .ref h5])), (h3, .inr (3, [.ref b1, .ref b2, .int (nI 1), .int (nI 0), .int (-1 : Int32)]))]) [0, 5] rfl, hKN.warm hW⟩⟩ rfl rfl hl.1 rfl (lv_room (Nat.le_of_ble_eq_true rfl)) dL_law_478 ⟨Nat.le_of_ble_eq_true rfl, Nat.le_of_ble_eq_true rfl⟩) hS hP (fun r1 H locs w1r hP hS => ?_)
  have w1 : r1 = -1 := w1r
  clear w1r
  obtain rfl : r1 = (-1 : Int32) := w1
  refine lv_aload_n hx hb dL_law_481 rfl (lv_at hl 1 rfl) ?_
  refine lv_aload_n hx hb dL_law_482 rfl (lv_at hl 3 rfl) ?_
  refine lv_iload_n hx hb dL_law_483 rfl (lv_at hl 0 rfl) ?_
  refine lv_iconst (v := nI 1) hx hb dL_law_484 (by decide) ?_
  refine lv_iadd hx hb dL_law_485 ?_
  refine cn_i (y := nI (0 + 1)) (nI_add 0 1) ?_
  refine va_sld hx hb hX hbl hbA hS (i := nI (0 + 1)) (vp_in_nI (by omega) (by omega)) dL_law_486 ?_
  refine cn_i (y := xs (0 + 1)) (congrArg xs (nI_clamp (by omega))) ?_
  refine lv_aload_n hx hb dL_law_487 rfl (lv_at hl 3 rfl) ?_
  refine lv_iload_n hx hb dL_law_488 rfl (lv_at hl 0 rfl) ?_
  refine lv_iconst (v := nI 2) hx hb dL_law_489 (by decide) ?_
  refine lv_iadd hx hb dL_law_490 ?_
  refine cn_i (y := nI (0 + 2)) (nI_add 0 2) ?_
  refine va_sld hx hb hX hbl hbA hS (i := nI (0 + 2)) (vp_in_nI (by omega) (by omega)) dL_law_491 ?_
  refine cn_i (y := xs (0 + 2)) (congrArg xs (nI_clamp (by omega))) ?_
  refine pu_i (va_runV (As := [.int (xs (0 + 1)), .int (xs (0 + 2))]) (rest := [.int (-1 : Int32)]) ⟨hx, hb, hml, hown, hts⟩ (c_X7_differ l D cI cJ cZ m0 g1 g2 g3 g4 g5 g6 g7 g8 g9 g10 g11 g12 (nI 1) (-1 : Int32) (nI 0) (nI 0) (xs (0 + 1)) (xs (0 + 2))) (cwV 2 hts gL_law_X7_differ rfl rfl rfl (by decide +kernel) ⟨Nat.le_of_ble_eq_true rfl, Nat.le_of_ble_eq_true rfl⟩) ⟨pc_blind, va_recv hK hP (ci := 7) (q0 := 18) rfl rfl, fun U hU hW => ⟨rfl, by rw [hU]; exact hP.sub (ws' := [(m0, .inr (7, [.int (nI 1), .ref g1, .ref g2, .ref g3, .int (nI 0), .ref g4, .int (-1 : Int32), .ref g5, .int (nI 0), .ref g6, .int (nI 0), .ref g7, .ref g8, .ref g9, .ref g10, .ref g11, .ref g12]))]) [18] rfl, hKN.warm hW⟩⟩ rfl rfl hl.1 rfl (lv_room (Nat.le_of_ble_eq_true rfl)) dL_law_492 ⟨Nat.le_of_ble_eq_true rfl, Nat.le_of_ble_eq_true rfl⟩) hS hP (fun r2 H locs w2r hP hS => ?_)
  have w2 : r2 = -1 := w2r
  clear w2r
  obtain rfl : r2 = (-1 : Int32) := w2
  refine lv_icmp_eq (tgt := 883) hx hb dL_law_495 (by decide) (fun c3 => ?_) (fun c3 => ?_)
  · skip
    exact law_tail hL6 C0 _ _ _ hS (lv_sub hl [0, 3] rfl)
  · exact absurd c3 (by first | decide | exact nz_lt (by omega) | exact fun h => h (nz_ge (by omega)))
set_option maxHeartbeats 4000000 in
set_option maxRecDepth 100000 in
theorem law_c10 {p : Program} {l : Launch} {e : Env} {s : State} {m : MethodId} {below : List Frame} {meth : Method} {c : Code} {b L : Nat} {xs : Nat → Int32} (hL6 : L = 6) (C0 : lw_At p s m meth c b L xs) (D : va_G) (cI cJ cZ : ClassId) (hKN : KN D cI cJ cZ s) (x0 h4 a1 a2 a3 h3 b1 b2 h2 r1 h1 p4 p5 p6 hB l3 h5 lk1 m0 g1 g2 g3 g4 g5 g6 g7 g8 g9 g10 g11 g12 : Nat) (ug ub ur vg vb vr vn th : Nat → Int32) (hone : ∀ z, z < 9 → ug z = nI 1 ∧ ub z = nI 1 ∧ ur z = nI 1) (hmone : (∀ z, z < 9 → vg z = nI 1 ∧ vb z = nI 1 ∧ vr z = nI 1 ∧ vn z = -1) ∧ (∀ z, z < 9 → th z = nI (3 ^ z))) (hth : ∀ z, z < 9 → ¬ th z = 0) : ∀ (H : Heap) (locs : List Loc) (ls : Array Slot), va_P D vwCl [(x0, .inr (6, [.ref h4, .ref h3, .ref h2, .ref h1, .ref hB, .ref h5])), (h4, .inr (4, [.ref a1, .ref a2, .ref a3, .int (nI 1), .int (nI 0), .int (nI 0)])), (a1, .inl (cI, 9, .inl ug)), (a2, .inl (cI, 9, .inl ub)), (a3, .inl (cI, 9, .inl ur)), (h3, .inr (3, [.ref b1, .ref b2, .int (nI 1), .int (nI 0), .int (-1 : Int32)])), (b1, .inl (cJ, 320, .inr (.inl (fun _ => 0)))), (b2, .inl (cI, 9, .inl (fun _ => 0))), (h2, .inr (2, [.ref r1, .int (nI 0)])), (r1, .inl (cI, 9, .inl (fun _ => 0))), (h1, .inr (1, [.ref h4, .ref h3, .ref h2, .ref p4, .ref p5, .ref p6, .int (nI 0)])), (p4, .inl (cI, 9, .inl (fun _ => 0))), (p5, .inl (cJ, 0, .inr (.inl (fun _ => 0)))), (p6, .inl (cI, 0, .inl (fun _ => 0))), (hB, .inr (0, [.ref h4, .ref h3, .ref l3])), (l3, .inl (cI, 512, .inl (fun _ => 0))), (h5, .inr (5, [.ref lk1, .int (nI 0)])), (lk1, .inl (cI, 9, .inl (fun _ => 0))), (m0, .inr (7, [.int (nI 1), .ref g1, .ref g2, .ref g3, .int (nI 0), .ref g4, .int (-1 : Int32), .ref g5, .int (nI 0), .ref g6, .int (nI 0), .ref g7, .ref g8, .ref g9, .ref g10, .ref g11, .ref g12])), (g1, .inl (cI, 9, .inl vg)), (g2, .inl (cI, 9, .inl vb)), (g3, .inl (cI, 9, .inl vr)), (g4, .inl (cZ, 20480, .inl (fun _ => 0))), (g5, .inl (cI, 9, .inl vn)), (g6, .inl (cI, 9, .inl (fun _ => 0))), (g7, .inl (cI, 9, .inl (fun _ => 0))), (g8, .inl (cJ, 19683, .inr (.inl (fun _ => 0)))), (g9, .inl (cI, 19683, .inl (fun _ => 0))), (g10, .inl (cI, 19683, .inl (fun _ => 0))), (g11, .inl (cI, 19683, .inl (fun _ => 0))), (g12, .inl (cI, 9, .inl th))] H → va_D (fun q : Nat => s.heap.size ≤ q) [(x0, .inr (6, [.ref h4, .ref h3, .ref h2, .ref h1, .ref hB, .ref h5])), (h4, .inr (4, [.ref a1, .ref a2, .ref a3, .int (nI 1), .int (nI 0), .int (nI 0)])), (a1, .inl (cI, 9, .inl ug)), (a2, .inl (cI, 9, .inl ub)), (a3, .inl (cI, 9, .inl ur)), (h3, .inr (3, [.ref b1, .ref b2, .int (nI 1), .int (nI 0), .int (-1 : Int32)])), (b1, .inl (cJ, 320, .inr (.inl (fun _ => 0)))), (b2, .inl (cI, 9, .inl (fun _ => 0))), (h2, .inr (2, [.ref r1, .int (nI 0)])), (r1, .inl (cI, 9, .inl (fun _ => 0))), (h1, .inr (1, [.ref h4, .ref h3, .ref h2, .ref p4, .ref p5, .ref p6, .int (nI 0)])), (p4, .inl (cI, 9, .inl (fun _ => 0))), (p5, .inl (cJ, 0, .inr (.inl (fun _ => 0)))), (p6, .inl (cI, 0, .inl (fun _ => 0))), (hB, .inr (0, [.ref h4, .ref h3, .ref l3])), (l3, .inl (cI, 512, .inl (fun _ => 0))), (h5, .inr (5, [.ref lk1, .int (nI 0)])), (lk1, .inl (cI, 9, .inl (fun _ => 0))), (m0, .inr (7, [.int (nI 1), .ref g1, .ref g2, .ref g3, .int (nI 0), .ref g4, .int (-1 : Int32), .ref g5, .int (nI 0), .ref g6, .int (nI 0), .ref g7, .ref g8, .ref g9, .ref g10, .ref g11, .ref g12])), (g1, .inl (cI, 9, .inl vg)), (g2, .inl (cI, 9, .inl vb)), (g3, .inl (cI, 9, .inl vr)), (g4, .inl (cZ, 20480, .inl (fun _ => 0))), (g5, .inl (cI, 9, .inl vn)), (g6, .inl (cI, 9, .inl (fun _ => 0))), (g7, .inl (cI, 9, .inl (fun _ => 0))), (g8, .inl (cJ, 19683, .inr (.inl (fun _ => 0)))), (g9, .inl (cI, 19683, .inl (fun _ => 0))), (g10, .inl (cI, 19683, .inl (fun _ => 0))), (g11, .inl (cI, 19683, .inl (fun _ => 0))), (g12, .inl (cI, 9, .inl th))] → va_S (fun q : Nat => s.heap.size ≤ q) s.heap H locs → lv_has ls 4 [(3, .int (nI 0)), (2, .ref m0), (1, .ref x0), (0, .ref b)] → W p l e room_1 s m #[Value.ref b] below meth c H locs 31 100218 (lw_Z below #[Value.ref b] s) (F0 m 500 ls []) := by
  obtain ⟨hx, hb, hr, hml, hown, hts0, hX, hbl, hlocks, hgv⟩ := id C0
  have hts : ∀ w ∈ wsL_law, w.before #[Value.ref b] s = true := fun w h => hts0 w (wsL_law_in w h)
  have hown : s.vm.findClass RL = some m.cls := hown
  have hA : ∀ q : Nat, s.heap.size ≤ q → (fun q : Nat => s.heap.size ≤ q) q := fun _ h => h
  have hbA : ¬ (fun q : Nat => s.heap.size ≤ q) b := Nat.not_le.mpr hbl
  have hK := hKN.1
  intro H locs ls hP hD hS hl
  refine lv_aload_n hx hb dL_law_500 rfl (lv_at hl 2 rfl) ?_
  refine lv_aload_n hx hb dL_law_501 rfl (lv_at hl 3 rfl) ?_
  refine lv_iload_n hx hb dL_law_502 rfl (lv_at hl 0 rfl) ?_
  refine lv_iconst (v := nI 1) hx hb dL_law_503 (by decide) ?_
  refine lv_iadd hx hb dL_law_504 ?_
  refine cn_i (y := nI (0 + 1)) (nI_add 0 1) ?_
  refine va_sld hx hb hX hbl hbA hS (i := nI (0 + 1)) (vp_in_nI (by omega) (by omega)) dL_law_505 ?_
  refine cn_i (y := xs (0 + 1)) (congrArg xs (nI_clamp (by omega))) ?_
  refine pu_i (va_runV (As := [.int (xs (0 + 1))]) (rest := []) ⟨hx, hb, hml, hown, hts⟩ (c_X6_sets l D cI cJ cZ x0 h4 h3 h2 h1 hB h5 b1 b2 (nI 1) (xs (0 + 1))) (cwV 1 hts gL_law_X6_sets rfl rfl rfl (by decide +kernel) ⟨Nat.le_of_ble_eq_true rfl, Nat.le_of_ble_eq_true rfl⟩) ⟨pc_blind, va_recv hK hP (ci := 6) (q0 := 0) rfl rfl, fun U hU hW => ⟨rfl, by rw [hU]; exact hP.sub (ws' := [(x0, .inr (6, [.ref h4, .ref h3, .ref h2, .ref h1, .ref hB, .ref h5])), (h3, .inr (3, [.ref b1, .ref b2, .int (nI 1), .int (nI 0), .int (-1 : Int32)]))]) [0, 5] rfl, hKN.warm hW⟩⟩ rfl rfl hl.1 rfl (lv_room (Nat.le_of_ble_eq_true rfl)) dL_law_506 ⟨Nat.le_of_ble_eq_true rfl, Nat.le_of_ble_eq_true rfl⟩) hS hP (fun r1 H locs w1r hP hS => ?_)
  have w1 : r1 = -1 := w1r
  clear w1r
  obtain rfl : r1 = (-1 : Int32) := w1
  refine lv_aload_n hx hb dL_law_509 rfl (lv_at hl 1 rfl) ?_
  refine lv_aload_n hx hb dL_law_510 rfl (lv_at hl 3 rfl) ?_
  refine lv_iload_n hx hb dL_law_511 rfl (lv_at hl 0 rfl) ?_
  refine lv_iconst (v := nI 1) hx hb dL_law_512 (by decide) ?_
  refine lv_iadd hx hb dL_law_513 ?_
  refine cn_i (y := nI (0 + 1)) (nI_add 0 1) ?_
  refine va_sld hx hb hX hbl hbA hS (i := nI (0 + 1)) (vp_in_nI (by omega) (by omega)) dL_law_514 ?_
  refine cn_i (y := xs (0 + 1)) (congrArg xs (nI_clamp (by omega))) ?_
  refine pu_i (va_runV (As := [.int (xs (0 + 1))]) (rest := [.int (-1 : Int32)]) ⟨hx, hb, hml, hown, hts⟩ (c_X7_sets l D cI cJ cZ m0 g1 g2 g3 g4 g5 g6 g7 g8 g9 g10 g11 g12 (nI 1) (nI 0) (nI 0) (nI 0) (xs (0 + 1))) (cwV 1 hts gL_law_X7_sets rfl rfl rfl (by decide +kernel) ⟨Nat.le_of_ble_eq_true rfl, Nat.le_of_ble_eq_true rfl⟩) ⟨pc_blind, va_recv hK hP (ci := 7) (q0 := 18) rfl rfl, fun U hU hW => ⟨rfl, by rw [hU]; exact hP.sub (ws' := [(m0, .inr (7, [.int (nI 1), .ref g1, .ref g2, .ref g3, .int (nI 0), .ref g4, .int (-1 : Int32), .ref g5, .int (nI 0), .ref g6, .int (nI 0), .ref g7, .ref g8, .ref g9, .ref g10, .ref g11, .ref g12]))]) [18] rfl, hKN.warm hW⟩⟩ rfl rfl hl.1 rfl (lv_room (Nat.le_of_ble_eq_true rfl)) dL_law_515 ⟨Nat.le_of_ble_eq_true rfl, Nat.le_of_ble_eq_true rfl⟩) hS hP (fun r2 H locs w2r hP hS => ?_)
  have w2 : r2 = -1 := w2r
  clear w2r
  obtain rfl : r2 = (-1 : Int32) := w2
  refine lv_icmp_eq (tgt := 883) hx hb dL_law_518 (by decide) (fun c3 => ?_) (fun c3 => ?_)
  · skip
    exact law_tail hL6 C0 _ _ _ hS (lv_sub hl [0, 3] rfl)
  · exact absurd c3 (by first | decide | exact nz_lt (by omega) | exact fun h => h (nz_ge (by omega)))
set_option maxHeartbeats 4000000 in
set_option maxRecDepth 100000 in
theorem law_c11 {p : Program} {l : Launch} {e : Env} {s : State} {m : MethodId} {below : List Frame} {meth : Method} {c : Code} {b L : Nat} {xs : Nat → Int32} (hL6 : L = 6) (C0 : lw_At p s m meth c b L xs) (D : va_G) (cI cJ cZ : ClassId) (hKN : KN D cI cJ cZ s) (x0 h4 a1 a2 a3 h3 b1 b2 h2 r1 h1 p4 p5 p6 hB l3 h5 lk1 m0 g1 g2 g3 g4 g5 g6 g7 g8 g9 g10 g11 g12 : Nat) (ug ub ur vg vb vr vn th : Nat → Int32) (hone : ∀ z, z < 9 → ug z = nI 1 ∧ ub z = nI 1 ∧ ur z = nI 1) (hmone : (∀ z, z < 9 → vg z = nI 1 ∧ vb z = nI 1 ∧ vr z = nI 1 ∧ vn z = -1) ∧ (∀ z, z < 9 → th z = nI (3 ^ z))) (hth : ∀ z, z < 9 → ¬ th z = 0) : ∀ (H : Heap) (locs : List Loc) (ls : Array Slot), va_P D vwCl [(x0, .inr (6, [.ref h4, .ref h3, .ref h2, .ref h1, .ref hB, .ref h5])), (h4, .inr (4, [.ref a1, .ref a2, .ref a3, .int (nI 1), .int (nI 0), .int (nI 0)])), (a1, .inl (cI, 9, .inl ug)), (a2, .inl (cI, 9, .inl ub)), (a3, .inl (cI, 9, .inl ur)), (h3, .inr (3, [.ref b1, .ref b2, .int (nI 1), .int (nI 0), .int (-1 : Int32)])), (b1, .inl (cJ, 320, .inr (.inl (fun _ => 0)))), (b2, .inl (cI, 9, .inl (fun _ => 0))), (h2, .inr (2, [.ref r1, .int (nI 0)])), (r1, .inl (cI, 9, .inl (fun _ => 0))), (h1, .inr (1, [.ref h4, .ref h3, .ref h2, .ref p4, .ref p5, .ref p6, .int (nI 0)])), (p4, .inl (cI, 9, .inl (fun _ => 0))), (p5, .inl (cJ, 0, .inr (.inl (fun _ => 0)))), (p6, .inl (cI, 0, .inl (fun _ => 0))), (hB, .inr (0, [.ref h4, .ref h3, .ref l3])), (l3, .inl (cI, 512, .inl (fun _ => 0))), (h5, .inr (5, [.ref lk1, .int (nI 0)])), (lk1, .inl (cI, 9, .inl (fun _ => 0))), (m0, .inr (7, [.int (nI 1), .ref g1, .ref g2, .ref g3, .int (nI 0), .ref g4, .int (-1 : Int32), .ref g5, .int (nI 0), .ref g6, .int (nI 0), .ref g7, .ref g8, .ref g9, .ref g10, .ref g11, .ref g12])), (g1, .inl (cI, 9, .inl vg)), (g2, .inl (cI, 9, .inl vb)), (g3, .inl (cI, 9, .inl vr)), (g4, .inl (cZ, 20480, .inl (fun _ => 0))), (g5, .inl (cI, 9, .inl vn)), (g6, .inl (cI, 9, .inl (fun _ => 0))), (g7, .inl (cI, 9, .inl (fun _ => 0))), (g8, .inl (cJ, 19683, .inr (.inl (fun _ => 0)))), (g9, .inl (cI, 19683, .inl (fun _ => 0))), (g10, .inl (cI, 19683, .inl (fun _ => 0))), (g11, .inl (cI, 19683, .inl (fun _ => 0))), (g12, .inl (cI, 9, .inl th))] H → va_D (fun q : Nat => s.heap.size ≤ q) [(x0, .inr (6, [.ref h4, .ref h3, .ref h2, .ref h1, .ref hB, .ref h5])), (h4, .inr (4, [.ref a1, .ref a2, .ref a3, .int (nI 1), .int (nI 0), .int (nI 0)])), (a1, .inl (cI, 9, .inl ug)), (a2, .inl (cI, 9, .inl ub)), (a3, .inl (cI, 9, .inl ur)), (h3, .inr (3, [.ref b1, .ref b2, .int (nI 1), .int (nI 0), .int (-1 : Int32)])), (b1, .inl (cJ, 320, .inr (.inl (fun _ => 0)))), (b2, .inl (cI, 9, .inl (fun _ => 0))), (h2, .inr (2, [.ref r1, .int (nI 0)])), (r1, .inl (cI, 9, .inl (fun _ => 0))), (h1, .inr (1, [.ref h4, .ref h3, .ref h2, .ref p4, .ref p5, .ref p6, .int (nI 0)])), (p4, .inl (cI, 9, .inl (fun _ => 0))), (p5, .inl (cJ, 0, .inr (.inl (fun _ => 0)))), (p6, .inl (cI, 0, .inl (fun _ => 0))), (hB, .inr (0, [.ref h4, .ref h3, .ref l3])), (l3, .inl (cI, 512, .inl (fun _ => 0))), (h5, .inr (5, [.ref lk1, .int (nI 0)])), (lk1, .inl (cI, 9, .inl (fun _ => 0))), (m0, .inr (7, [.int (nI 1), .ref g1, .ref g2, .ref g3, .int (nI 0), .ref g4, .int (-1 : Int32), .ref g5, .int (nI 0), .ref g6, .int (nI 0), .ref g7, .ref g8, .ref g9, .ref g10, .ref g11, .ref g12])), (g1, .inl (cI, 9, .inl vg)), (g2, .inl (cI, 9, .inl vb)), (g3, .inl (cI, 9, .inl vr)), (g4, .inl (cZ, 20480, .inl (fun _ => 0))), (g5, .inl (cI, 9, .inl vn)), (g6, .inl (cI, 9, .inl (fun _ => 0))), (g7, .inl (cI, 9, .inl (fun _ => 0))), (g8, .inl (cJ, 19683, .inr (.inl (fun _ => 0)))), (g9, .inl (cI, 19683, .inl (fun _ => 0))), (g10, .inl (cI, 19683, .inl (fun _ => 0))), (g11, .inl (cI, 19683, .inl (fun _ => 0))), (g12, .inl (cI, 9, .inl th))] → va_S (fun q : Nat => s.heap.size ≤ q) s.heap H locs → lv_has ls 4 [(3, .int (nI 0)), (2, .ref m0), (1, .ref x0), (0, .ref b)] → W p l e room_1 s m #[Value.ref b] below meth c H locs 31 100218 (lw_Z below #[Value.ref b] s) (F0 m 523 ls []) := by
  obtain ⟨hx, hb, hr, hml, hown, hts0, hX, hbl, hlocks, hgv⟩ := id C0
  have hts : ∀ w ∈ wsL_law, w.before #[Value.ref b] s = true := fun w h => hts0 w (wsL_law_in w h)
  have hown : s.vm.findClass RL = some m.cls := hown
  have hA : ∀ q : Nat, s.heap.size ≤ q → (fun q : Nat => s.heap.size ≤ q) q := fun _ h => h
  have hbA : ¬ (fun q : Nat => s.heap.size ≤ q) b := Nat.not_le.mpr hbl
  have hK := hKN.1
  intro H locs ls hP hD hS hl
  refine lv_aload_n hx hb dL_law_523 rfl (lv_at hl 2 rfl) ?_
  refine lv_aload_n hx hb dL_law_524 rfl (lv_at hl 3 rfl) ?_
  refine lv_iload_n hx hb dL_law_525 rfl (lv_at hl 0 rfl) ?_
  refine lv_iconst (v := nI 1) hx hb dL_law_526 (by decide) ?_
  refine lv_iadd hx hb dL_law_527 ?_
  refine cn_i (y := nI (0 + 1)) (nI_add 0 1) ?_
  refine va_sld hx hb hX hbl hbA hS (i := nI (0 + 1)) (vp_in_nI (by omega) (by omega)) dL_law_528 ?_
  refine cn_i (y := xs (0 + 1)) (congrArg xs (nI_clamp (by omega))) ?_
  refine lv_aload_n hx hb dL_law_529 rfl (lv_at hl 3 rfl) ?_
  refine lv_iload_n hx hb dL_law_530 rfl (lv_at hl 0 rfl) ?_
  refine lv_iconst (v := nI 2) hx hb dL_law_531 (by decide) ?_
  refine lv_iadd hx hb dL_law_532 ?_
  refine cn_i (y := nI (0 + 2)) (nI_add 0 2) ?_
  refine va_sld hx hb hX hbl hbA hS (i := nI (0 + 2)) (vp_in_nI (by omega) (by omega)) dL_law_533 ?_
  refine cn_i (y := xs (0 + 2)) (congrArg xs (nI_clamp (by omega))) ?_
  refine pu_i (va_runV (As := [.int (xs (0 + 1)), .int (xs (0 + 2))]) (rest := []) ⟨hx, hb, hml, hown, hts⟩ (c_X6_set l D cI cJ cZ x0 h4 h3 h2 h1 hB h5 b1 b2 (nI 1) (xs (0 + 1)) (xs (0 + 2))) (cwV 2 hts gL_law_X6_set rfl rfl rfl (by decide +kernel) ⟨Nat.le_of_ble_eq_true rfl, Nat.le_of_ble_eq_true rfl⟩) ⟨pc_blind, va_recv hK hP (ci := 6) (q0 := 0) rfl rfl, fun U hU hW => ⟨rfl, by rw [hU]; exact hP.sub (ws' := [(x0, .inr (6, [.ref h4, .ref h3, .ref h2, .ref h1, .ref hB, .ref h5])), (h3, .inr (3, [.ref b1, .ref b2, .int (nI 1), .int (nI 0), .int (-1 : Int32)]))]) [0, 5] rfl, hKN.warm hW⟩⟩ rfl rfl hl.1 rfl (lv_room (Nat.le_of_ble_eq_true rfl)) dL_law_534 ⟨Nat.le_of_ble_eq_true rfl, Nat.le_of_ble_eq_true rfl⟩) hS hP (fun r1 H locs w1r hP hS => ?_)
  have w1 : r1 = -1 := w1r
  clear w1r
  obtain rfl : r1 = (-1 : Int32) := w1
  refine lv_aload_n hx hb dL_law_537 rfl (lv_at hl 1 rfl) ?_
  refine lv_aload_n hx hb dL_law_538 rfl (lv_at hl 3 rfl) ?_
  refine lv_iload_n hx hb dL_law_539 rfl (lv_at hl 0 rfl) ?_
  refine lv_iconst (v := nI 1) hx hb dL_law_540 (by decide) ?_
  refine lv_iadd hx hb dL_law_541 ?_
  refine cn_i (y := nI (0 + 1)) (nI_add 0 1) ?_
  refine va_sld hx hb hX hbl hbA hS (i := nI (0 + 1)) (vp_in_nI (by omega) (by omega)) dL_law_542 ?_
  refine cn_i (y := xs (0 + 1)) (congrArg xs (nI_clamp (by omega))) ?_
  refine lv_aload_n hx hb dL_law_543 rfl (lv_at hl 3 rfl) ?_
  refine lv_iload_n hx hb dL_law_544 rfl (lv_at hl 0 rfl) ?_
  refine lv_iconst (v := nI 2) hx hb dL_law_545 (by decide) ?_
  refine lv_iadd hx hb dL_law_546 ?_
  refine cn_i (y := nI (0 + 2)) (nI_add 0 2) ?_
  refine va_sld hx hb hX hbl hbA hS (i := nI (0 + 2)) (vp_in_nI (by omega) (by omega)) dL_law_547 ?_
  refine cn_i (y := xs (0 + 2)) (congrArg xs (nI_clamp (by omega))) ?_
  refine pu_i (va_runV (As := [.int (xs (0 + 1)), .int (xs (0 + 2))]) (rest := [.int (-1 : Int32)]) ⟨hx, hb, hml, hown, hts⟩ (c_X7_set l D cI cJ cZ m0 g1 g2 g3 g4 g5 g6 g7 g8 g9 g10 g11 g12 (nI 1) (nI 0) (nI 0) (nI 0) (xs (0 + 1)) (xs (0 + 2))) (cwV 2 hts gL_law_X7_set rfl rfl rfl (by decide +kernel) ⟨Nat.le_of_ble_eq_true rfl, Nat.le_of_ble_eq_true rfl⟩) ⟨pc_blind, va_recv hK hP (ci := 7) (q0 := 18) rfl rfl, fun U hU hW => ⟨rfl, by rw [hU]; exact hP.sub (ws' := [(m0, .inr (7, [.int (nI 1), .ref g1, .ref g2, .ref g3, .int (nI 0), .ref g4, .int (-1 : Int32), .ref g5, .int (nI 0), .ref g6, .int (nI 0), .ref g7, .ref g8, .ref g9, .ref g10, .ref g11, .ref g12]))]) [18] rfl, hKN.warm hW⟩⟩ rfl rfl hl.1 rfl (lv_room (Nat.le_of_ble_eq_true rfl)) dL_law_548 ⟨Nat.le_of_ble_eq_true rfl, Nat.le_of_ble_eq_true rfl⟩) hS hP (fun r2 H locs w2r hP hS => ?_)
  have w2 : r2 = -1 := w2r
  clear w2r
  obtain rfl : r2 = (-1 : Int32) := w2
  refine lv_icmp_eq (tgt := 883) hx hb dL_law_551 (by decide) (fun c3 => ?_) (fun c3 => ?_)
  · skip
    exact law_tail hL6 C0 _ _ _ hS (lv_sub hl [0, 3] rfl)
  · exact absurd c3 (by first | decide | exact nz_lt (by omega) | exact fun h => h (nz_ge (by omega)))
set_option maxHeartbeats 4000000 in
set_option maxRecDepth 100000 in
theorem law_c12 {p : Program} {l : Launch} {e : Env} {s : State} {m : MethodId} {below : List Frame} {meth : Method} {c : Code} {b L : Nat} {xs : Nat → Int32} (hL6 : L = 6) (C0 : lw_At p s m meth c b L xs) (D : va_G) (cI cJ cZ : ClassId) (hKN : KN D cI cJ cZ s) (x0 h4 a1 a2 a3 h3 b1 b2 h2 r1 h1 p4 p5 p6 hB l3 h5 lk1 m0 g1 g2 g3 g4 g5 g6 g7 g8 g9 g10 g11 g12 : Nat) (ug ub ur vg vb vr vn th : Nat → Int32) (hone : ∀ z, z < 9 → ug z = nI 1 ∧ ub z = nI 1 ∧ ur z = nI 1) (hmone : (∀ z, z < 9 → vg z = nI 1 ∧ vb z = nI 1 ∧ vr z = nI 1 ∧ vn z = -1) ∧ (∀ z, z < 9 → th z = nI (3 ^ z))) (hth : ∀ z, z < 9 → ¬ th z = 0) : ∀ (H : Heap) (locs : List Loc) (ls : Array Slot), va_P D vwCl [(x0, .inr (6, [.ref h4, .ref h3, .ref h2, .ref h1, .ref hB, .ref h5])), (h4, .inr (4, [.ref a1, .ref a2, .ref a3, .int (nI 1), .int (nI 0), .int (nI 0)])), (a1, .inl (cI, 9, .inl ug)), (a2, .inl (cI, 9, .inl ub)), (a3, .inl (cI, 9, .inl ur)), (h3, .inr (3, [.ref b1, .ref b2, .int (nI 1), .int (nI 0), .int (-1 : Int32)])), (b1, .inl (cJ, 320, .inr (.inl (fun _ => 0)))), (b2, .inl (cI, 9, .inl (fun _ => 0))), (h2, .inr (2, [.ref r1, .int (nI 0)])), (r1, .inl (cI, 9, .inl (fun _ => 0))), (h1, .inr (1, [.ref h4, .ref h3, .ref h2, .ref p4, .ref p5, .ref p6, .int (nI 0)])), (p4, .inl (cI, 9, .inl (fun _ => 0))), (p5, .inl (cJ, 0, .inr (.inl (fun _ => 0)))), (p6, .inl (cI, 0, .inl (fun _ => 0))), (hB, .inr (0, [.ref h4, .ref h3, .ref l3])), (l3, .inl (cI, 512, .inl (fun _ => 0))), (h5, .inr (5, [.ref lk1, .int (nI 0)])), (lk1, .inl (cI, 9, .inl (fun _ => 0))), (m0, .inr (7, [.int (nI 1), .ref g1, .ref g2, .ref g3, .int (nI 0), .ref g4, .int (-1 : Int32), .ref g5, .int (nI 0), .ref g6, .int (nI 0), .ref g7, .ref g8, .ref g9, .ref g10, .ref g11, .ref g12])), (g1, .inl (cI, 9, .inl vg)), (g2, .inl (cI, 9, .inl vb)), (g3, .inl (cI, 9, .inl vr)), (g4, .inl (cZ, 20480, .inl (fun _ => 0))), (g5, .inl (cI, 9, .inl vn)), (g6, .inl (cI, 9, .inl (fun _ => 0))), (g7, .inl (cI, 9, .inl (fun _ => 0))), (g8, .inl (cJ, 19683, .inr (.inl (fun _ => 0)))), (g9, .inl (cI, 19683, .inl (fun _ => 0))), (g10, .inl (cI, 19683, .inl (fun _ => 0))), (g11, .inl (cI, 19683, .inl (fun _ => 0))), (g12, .inl (cI, 9, .inl th))] H → va_D (fun q : Nat => s.heap.size ≤ q) [(x0, .inr (6, [.ref h4, .ref h3, .ref h2, .ref h1, .ref hB, .ref h5])), (h4, .inr (4, [.ref a1, .ref a2, .ref a3, .int (nI 1), .int (nI 0), .int (nI 0)])), (a1, .inl (cI, 9, .inl ug)), (a2, .inl (cI, 9, .inl ub)), (a3, .inl (cI, 9, .inl ur)), (h3, .inr (3, [.ref b1, .ref b2, .int (nI 1), .int (nI 0), .int (-1 : Int32)])), (b1, .inl (cJ, 320, .inr (.inl (fun _ => 0)))), (b2, .inl (cI, 9, .inl (fun _ => 0))), (h2, .inr (2, [.ref r1, .int (nI 0)])), (r1, .inl (cI, 9, .inl (fun _ => 0))), (h1, .inr (1, [.ref h4, .ref h3, .ref h2, .ref p4, .ref p5, .ref p6, .int (nI 0)])), (p4, .inl (cI, 9, .inl (fun _ => 0))), (p5, .inl (cJ, 0, .inr (.inl (fun _ => 0)))), (p6, .inl (cI, 0, .inl (fun _ => 0))), (hB, .inr (0, [.ref h4, .ref h3, .ref l3])), (l3, .inl (cI, 512, .inl (fun _ => 0))), (h5, .inr (5, [.ref lk1, .int (nI 0)])), (lk1, .inl (cI, 9, .inl (fun _ => 0))), (m0, .inr (7, [.int (nI 1), .ref g1, .ref g2, .ref g3, .int (nI 0), .ref g4, .int (-1 : Int32), .ref g5, .int (nI 0), .ref g6, .int (nI 0), .ref g7, .ref g8, .ref g9, .ref g10, .ref g11, .ref g12])), (g1, .inl (cI, 9, .inl vg)), (g2, .inl (cI, 9, .inl vb)), (g3, .inl (cI, 9, .inl vr)), (g4, .inl (cZ, 20480, .inl (fun _ => 0))), (g5, .inl (cI, 9, .inl vn)), (g6, .inl (cI, 9, .inl (fun _ => 0))), (g7, .inl (cI, 9, .inl (fun _ => 0))), (g8, .inl (cJ, 19683, .inr (.inl (fun _ => 0)))), (g9, .inl (cI, 19683, .inl (fun _ => 0))), (g10, .inl (cI, 19683, .inl (fun _ => 0))), (g11, .inl (cI, 19683, .inl (fun _ => 0))), (g12, .inl (cI, 9, .inl th))] → va_S (fun q : Nat => s.heap.size ≤ q) s.heap H locs → lv_has ls 4 [(3, .int (nI 0)), (2, .ref m0), (1, .ref x0), (0, .ref b)] → W p l e room_1 s m #[Value.ref b] below meth c H locs 31 100218 (lw_Z below #[Value.ref b] s) (F0 m 556 ls []) := by
  obtain ⟨hx, hb, hr, hml, hown, hts0, hX, hbl, hlocks, hgv⟩ := id C0
  have hts : ∀ w ∈ wsL_law, w.before #[Value.ref b] s = true := fun w h => hts0 w (wsL_law_in w h)
  have hown : s.vm.findClass RL = some m.cls := hown
  have hA : ∀ q : Nat, s.heap.size ≤ q → (fun q : Nat => s.heap.size ≤ q) q := fun _ h => h
  have hbA : ¬ (fun q : Nat => s.heap.size ≤ q) b := Nat.not_le.mpr hbl
  have hK := hKN.1
  intro H locs ls hP hD hS hl
  refine lv_aload_n hx hb dL_law_556 rfl (lv_at hl 2 rfl) ?_
  refine lv_aload_n hx hb dL_law_557 rfl (lv_at hl 3 rfl) ?_
  refine lv_iload_n hx hb dL_law_558 rfl (lv_at hl 0 rfl) ?_
  refine lv_iconst (v := nI 1) hx hb dL_law_559 (by decide) ?_
  refine lv_iadd hx hb dL_law_560 ?_
  refine cn_i (y := nI (0 + 1)) (nI_add 0 1) ?_
  refine va_sld hx hb hX hbl hbA hS (i := nI (0 + 1)) (vp_in_nI (by omega) (by omega)) dL_law_561 ?_
  refine cn_i (y := xs (0 + 1)) (congrArg xs (nI_clamp (by omega))) ?_
  refine lv_aload_n hx hb dL_law_562 rfl (lv_at hl 3 rfl) ?_
  refine lv_iload_n hx hb dL_law_563 rfl (lv_at hl 0 rfl) ?_
  refine lv_iconst (v := nI 2) hx hb dL_law_564 (by decide) ?_
  refine lv_iadd hx hb dL_law_565 ?_
  refine cn_i (y := nI (0 + 2)) (nI_add 0 2) ?_
  refine va_sld hx hb hX hbl hbA hS (i := nI (0 + 2)) (vp_in_nI (by omega) (by omega)) dL_law_566 ?_
  refine cn_i (y := xs (0 + 2)) (congrArg xs (nI_clamp (by omega))) ?_
  refine mx_i (wc := [(x0, .inr (6, [.ref h4, .ref h3, .ref h2, .ref h1, .ref hB, .ref h5])), (h4, .inr (4, [.ref a1, .ref a2, .ref a3, .int (nI 1), .int (nI 0), .int (nI 0)]))]) (wr := [(a1, .inl (cI, 9, .inl ug)), (a2, .inl (cI, 9, .inl ub)), (a3, .inl (cI, 9, .inl ur)), (h3, .inr (3, [.ref b1, .ref b2, .int (nI 1), .int (nI 0), .int (-1 : Int32)])), (b1, .inl (cJ, 320, .inr (.inl (fun _ => 0)))), (b2, .inl (cI, 9, .inl (fun _ => 0))), (h2, .inr (2, [.ref r1, .int (nI 0)])), (r1, .inl (cI, 9, .inl (fun _ => 0))), (h1, .inr (1, [.ref h4, .ref h3, .ref h2, .ref p4, .ref p5, .ref p6, .int (nI 0)])), (p4, .inl (cI, 9, .inl (fun _ => 0))), (p5, .inl (cJ, 0, .inr (.inl (fun _ => 0)))), (p6, .inl (cI, 0, .inl (fun _ => 0))), (hB, .inr (0, [.ref h4, .ref h3, .ref l3])), (l3, .inl (cI, 512, .inl (fun _ => 0))), (h5, .inr (5, [.ref lk1, .int (nI 0)])), (lk1, .inl (cI, 9, .inl (fun _ => 0))), (m0, .inr (7, [.int (nI 1), .ref g1, .ref g2, .ref g3, .int (nI 0), .ref g4, .int (-1 : Int32), .ref g5, .int (nI 0), .ref g6, .int (nI 0), .ref g7, .ref g8, .ref g9, .ref g10, .ref g11, .ref g12])), (g1, .inl (cI, 9, .inl vg)), (g2, .inl (cI, 9, .inl vb)), (g3, .inl (cI, 9, .inl vr)), (g4, .inl (cZ, 20480, .inl (fun _ => 0))), (g5, .inl (cI, 9, .inl vn)), (g6, .inl (cI, 9, .inl (fun _ => 0))), (g7, .inl (cI, 9, .inl (fun _ => 0))), (g8, .inl (cJ, 19683, .inr (.inl (fun _ => 0)))), (g9, .inl (cI, 19683, .inl (fun _ => 0))), (g10, .inl (cI, 19683, .inl (fun _ => 0))), (g11, .inl (cI, 19683, .inl (fun _ => 0))), (g12, .inl (cI, 9, .inl th))]) (va_runV (As := [.int (xs (0 + 1)), .int (xs (0 + 2))]) (rest := []) ⟨hx, hb, hml, hown, hts⟩ (c_X6_see l D cI cJ cZ x0 h4 h3 h2 h1 hB h5 a1 a2 a3 1 (nI 0) (nI 0) (xs (0 + 1)) (xs (0 + 2)) (by first | assumption | omega)) (cwV 2 hts gL_law_X6_see rfl rfl rfl (by decide +kernel) ⟨Nat.le_of_ble_eq_true rfl, Nat.le_of_ble_eq_true rfl⟩) ⟨pm_blind, va_recv hK hP (ci := 6) (q0 := 0) rfl rfl, fun U hU hW => ⟨rfl, by rw [hU]; exact hP.sub (ws' := [(x0, .inr (6, [.ref h4, .ref h3, .ref h2, .ref h1, .ref hB, .ref h5])), (h4, .inr (4, [.ref a1, .ref a2, .ref a3, .int (nI 1), .int (nI 0), .int (nI 0)]))]) [0, 1] rfl, hKN.warm hW, (hD.sub (ws' := [(x0, .inr (6, [.ref h4, .ref h3, .ref h2, .ref h1, .ref hB, .ref h5])), (h4, .inr (4, [.ref a1, .ref a2, .ref a3, .int (nI 1), .int (nI 0), .int (nI 0)]))]) [0, 1] (by decide) rfl).weaken (fun _ _ _ _ => trivial)⟩⟩ rfl rfl hl.1 rfl (lv_room (Nat.le_of_ble_eq_true rfl)) dL_law_567 ⟨Nat.le_of_ble_eq_true rfl, Nat.le_of_ble_eq_true rfl⟩) hS hP hD [0, 1] [2, 3, 4, 5, 6, 7, 8, 9, 10, 11, 12, 13, 14, 15, 16, 17, 18, 19, 20, 21, 22, 23, 24, 25, 26, 27, 28, 29, 30] rfl rfl rfl (by decide) (by decide) (fun r1 u1 H locs w1r hP hD hS => ?_)
  have w1 : B01 r1 (0 ≤ (xs (0 + 1)).toInt ∧ (xs (0 + 1)).toInt < 1 ∧ -1 ≤ (xs (0 + 2)).toInt ∧ (xs (0 + 2)).toInt ≤ 1) := w1r
  clear w1r
  rcases w1 with ⟨rfl, w1⟩ | ⟨rfl, w1⟩
  · skip
    refine lv_aload_n hx hb dL_law_570 rfl (lv_at hl 1 rfl) ?_
    refine lv_aload_n hx hb dL_law_571 rfl (lv_at hl 3 rfl) ?_
    refine lv_iload_n hx hb dL_law_572 rfl (lv_at hl 0 rfl) ?_
    refine lv_iconst (v := nI 1) hx hb dL_law_573 (by decide) ?_
    refine lv_iadd hx hb dL_law_574 ?_
    refine cn_i (y := nI (0 + 1)) (nI_add 0 1) ?_
    refine va_sld hx hb hX hbl hbA hS (i := nI (0 + 1)) (vp_in_nI (by omega) (by omega)) dL_law_575 ?_
    refine cn_i (y := xs (0 + 1)) (congrArg xs (nI_clamp (by omega))) ?_
    refine lv_aload_n hx hb dL_law_576 rfl (lv_at hl 3 rfl) ?_
    refine lv_iload_n hx hb dL_law_577 rfl (lv_at hl 0 rfl) ?_
    refine lv_iconst (v := nI 2) hx hb dL_law_578 (by decide) ?_
    refine lv_iadd hx hb dL_law_579 ?_
    refine cn_i (y := nI (0 + 2)) (nI_add 0 2) ?_
    refine va_sld hx hb hX hbl hbA hS (i := nI (0 + 2)) (vp_in_nI (by omega) (by omega)) dL_law_580 ?_
    refine cn_i (y := xs (0 + 2)) (congrArg xs (nI_clamp (by omega))) ?_
    refine mx_i (wc := [(m0, .inr (7, [.int (nI 1), .ref g1, .ref g2, .ref g3, .int (nI 0), .ref g4, .int (-1 : Int32), .ref g5, .int (nI 0), .ref g6, .int (nI 0), .ref g7, .ref g8, .ref g9, .ref g10, .ref g11, .ref g12])), (g5, .inl (cI, 9, .inl vn))]) (wr := [(a1, .inl (cI, 9, .inl ug)), (a2, .inl (cI, 9, .inl ub)), (a3, .inl (cI, 9, .inl ur)), (h3, .inr (3, [.ref b1, .ref b2, .int (nI 1), .int (nI 0), .int (-1 : Int32)])), (b1, .inl (cJ, 320, .inr (.inl (fun _ => 0)))), (b2, .inl (cI, 9, .inl (fun _ => 0))), (h2, .inr (2, [.ref r1, .int (nI 0)])), (r1, .inl (cI, 9, .inl (fun _ => 0))), (h1, .inr (1, [.ref h4, .ref h3, .ref h2, .ref p4, .ref p5, .ref p6, .int (nI 0)])), (p4, .inl (cI, 9, .inl (fun _ => 0))), (p5, .inl (cJ, 0, .inr (.inl (fun _ => 0)))), (p6, .inl (cI, 0, .inl (fun _ => 0))), (hB, .inr (0, [.ref h4, .ref h3, .ref l3])), (l3, .inl (cI, 512, .inl (fun _ => 0))), (h5, .inr (5, [.ref lk1, .int (nI 0)])), (lk1, .inl (cI, 9, .inl (fun _ => 0))), (g1, .inl (cI, 9, .inl vg)), (g2, .inl (cI, 9, .inl vb)), (g3, .inl (cI, 9, .inl vr)), (g4, .inl (cZ, 20480, .inl (fun _ => 0))), (g6, .inl (cI, 9, .inl (fun _ => 0))), (g7, .inl (cI, 9, .inl (fun _ => 0))), (g8, .inl (cJ, 19683, .inr (.inl (fun _ => 0)))), (g9, .inl (cI, 19683, .inl (fun _ => 0))), (g10, .inl (cI, 19683, .inl (fun _ => 0))), (g11, .inl (cI, 19683, .inl (fun _ => 0))), (g12, .inl (cI, 9, .inl th))]) (va_runV (As := [.int (xs (0 + 1)), .int (xs (0 + 2))]) (rest := [.int (nI 1)]) ⟨hx, hb, hml, hown, hts⟩ (c_X7_see l D cI cJ cZ m0 g1 g2 g3 g4 g5 g6 g7 g8 g9 g10 g11 g12 1 (nI 0) (-1 : Int32) (nI 0) (nI 0) (xs (0 + 1)) (xs (0 + 2)) vn (by first | assumption | omega) (by first | assumption | omega)) (cwV 2 hts gL_law_X7_see rfl rfl rfl (by decide +kernel) ⟨Nat.le_of_ble_eq_true rfl, Nat.le_of_ble_eq_true rfl⟩) ⟨pm_blind, va_recv hK hP (ci := 7) (q0 := 16) rfl rfl, fun U hU hW => ⟨rfl, by rw [hU]; exact hP.sub (ws' := [(m0, .inr (7, [.int (nI 1), .ref g1, .ref g2, .ref g3, .int (nI 0), .ref g4, .int (-1 : Int32), .ref g5, .int (nI 0), .ref g6, .int (nI 0), .ref g7, .ref g8, .ref g9, .ref g10, .ref g11, .ref g12])), (g5, .inl (cI, 9, .inl vn))]) [16, 21] rfl, hKN.warm hW, (hD.sub (ws' := [(m0, .inr (7, [.int (nI 1), .ref g1, .ref g2, .ref g3, .int (nI 0), .ref g4, .int (-1 : Int32), .ref g5, .int (nI 0), .ref g6, .int (nI 0), .ref g7, .ref g8, .ref g9, .ref g10, .ref g11, .ref g12])), (g5, .inl (cI, 9, .inl vn))]) [16, 21] (by decide) rfl).weaken (fun _ _ _ _ => trivial)⟩⟩ rfl rfl hl.1 rfl (lv_room (Nat.le_of_ble_eq_true rfl)) dL_law_581 ⟨Nat.le_of_ble_eq_true rfl, Nat.le_of_ble_eq_true rfl⟩) hS hP hD [16, 21] [0, 1, 2, 3, 4, 5, 6, 7, 8, 9, 10, 11, 12, 13, 14, 15, 17, 18, 19, 20, 22, 23, 24, 25, 26, 27, 28] rfl rfl rfl (by decide) (by decide) (fun r2 u2 H locs w2r hP hD hS => ?_)
    have w2 : B01 r2 (0 ≤ (xs (0 + 1)).toInt ∧ (xs (0 + 1)).toInt < 1 ∧ -1 ≤ (xs (0 + 2)).toInt ∧ (xs (0 + 2)).toInt ≤ 1) := w2r
    clear w2r
    rcases w2 with ⟨rfl, w2⟩ | ⟨rfl, w2⟩
    · skip
      refine lv_icmp_eq (tgt := 883) hx hb dL_law_584 (by decide) (fun c3 => ?_) (fun c3 => ?_)
      · skip
        exact law_tail hL6 C0 _ _ _ hS (lv_sub hl [0, 3] rfl)
      · exact absurd c3 (by first | decide | exact nz_lt (by omega) | exact fun h => h (nz_ge (by omega)))
    · skip
      refine lv_icmp_eq (tgt := 883) hx hb dL_law_584 (by decide) (fun c4 => ?_) (fun c4 => ?_)
      · exact absurd c4 (by first | decide | exact nz_lt (by omega) | exact fun h => h (nz_ge (by omega)))
      · skip
        refine lv_iconst (v := nI 0) hx hb dL_law_587 (by decide) ?_
        exact (by first | exact absurd w1 w2 | exact absurd w2 w1 | exact w1.elim | exact w2.elim)
  · skip
    refine lv_aload_n hx hb dL_law_570 rfl (lv_at hl 1 rfl) ?_
    refine lv_aload_n hx hb dL_law_571 rfl (lv_at hl 3 rfl) ?_
    refine lv_iload_n hx hb dL_law_572 rfl (lv_at hl 0 rfl) ?_
    refine lv_iconst (v := nI 1) hx hb dL_law_573 (by decide) ?_
    refine lv_iadd hx hb dL_law_574 ?_
    refine cn_i (y := nI (0 + 1)) (nI_add 0 1) ?_
    refine va_sld hx hb hX hbl hbA hS (i := nI (0 + 1)) (vp_in_nI (by omega) (by omega)) dL_law_575 ?_
    refine cn_i (y := xs (0 + 1)) (congrArg xs (nI_clamp (by omega))) ?_
    refine lv_aload_n hx hb dL_law_576 rfl (lv_at hl 3 rfl) ?_
    refine lv_iload_n hx hb dL_law_577 rfl (lv_at hl 0 rfl) ?_
    refine lv_iconst (v := nI 2) hx hb dL_law_578 (by decide) ?_
    refine lv_iadd hx hb dL_law_579 ?_
    refine cn_i (y := nI (0 + 2)) (nI_add 0 2) ?_
    refine va_sld hx hb hX hbl hbA hS (i := nI (0 + 2)) (vp_in_nI (by omega) (by omega)) dL_law_580 ?_
    refine cn_i (y := xs (0 + 2)) (congrArg xs (nI_clamp (by omega))) ?_
    refine mx_i (wc := [(m0, .inr (7, [.int (nI 1), .ref g1, .ref g2, .ref g3, .int (nI 0), .ref g4, .int (-1 : Int32), .ref g5, .int (nI 0), .ref g6, .int (nI 0), .ref g7, .ref g8, .ref g9, .ref g10, .ref g11, .ref g12])), (g5, .inl (cI, 9, .inl vn))]) (wr := [(a1, .inl (cI, 9, .inl ug)), (a2, .inl (cI, 9, .inl ub)), (a3, .inl (cI, 9, .inl ur)), (h3, .inr (3, [.ref b1, .ref b2, .int (nI 1), .int (nI 0), .int (-1 : Int32)])), (b1, .inl (cJ, 320, .inr (.inl (fun _ => 0)))), (b2, .inl (cI, 9, .inl (fun _ => 0))), (h2, .inr (2, [.ref r1, .int (nI 0)])), (r1, .inl (cI, 9, .inl (fun _ => 0))), (h1, .inr (1, [.ref h4, .ref h3, .ref h2, .ref p4, .ref p5, .ref p6, .int (nI 0)])), (p4, .inl (cI, 9, .inl (fun _ => 0))), (p5, .inl (cJ, 0, .inr (.inl (fun _ => 0)))), (p6, .inl (cI, 0, .inl (fun _ => 0))), (hB, .inr (0, [.ref h4, .ref h3, .ref l3])), (l3, .inl (cI, 512, .inl (fun _ => 0))), (h5, .inr (5, [.ref lk1, .int (nI 0)])), (lk1, .inl (cI, 9, .inl (fun _ => 0))), (g1, .inl (cI, 9, .inl vg)), (g2, .inl (cI, 9, .inl vb)), (g3, .inl (cI, 9, .inl vr)), (g4, .inl (cZ, 20480, .inl (fun _ => 0))), (g6, .inl (cI, 9, .inl (fun _ => 0))), (g7, .inl (cI, 9, .inl (fun _ => 0))), (g8, .inl (cJ, 19683, .inr (.inl (fun _ => 0)))), (g9, .inl (cI, 19683, .inl (fun _ => 0))), (g10, .inl (cI, 19683, .inl (fun _ => 0))), (g11, .inl (cI, 19683, .inl (fun _ => 0))), (g12, .inl (cI, 9, .inl th))]) (va_runV (As := [.int (xs (0 + 1)), .int (xs (0 + 2))]) (rest := [.int (nI 0)]) ⟨hx, hb, hml, hown, hts⟩ (c_X7_see l D cI cJ cZ m0 g1 g2 g3 g4 g5 g6 g7 g8 g9 g10 g11 g12 1 (nI 0) (-1 : Int32) (nI 0) (nI 0) (xs (0 + 1)) (xs (0 + 2)) vn (by first | assumption | omega) (by first | assumption | omega)) (cwV 2 hts gL_law_X7_see rfl rfl rfl (by decide +kernel) ⟨Nat.le_of_ble_eq_true rfl, Nat.le_of_ble_eq_true rfl⟩) ⟨pm_blind, va_recv hK hP (ci := 7) (q0 := 16) rfl rfl, fun U hU hW => ⟨rfl, by rw [hU]; exact hP.sub (ws' := [(m0, .inr (7, [.int (nI 1), .ref g1, .ref g2, .ref g3, .int (nI 0), .ref g4, .int (-1 : Int32), .ref g5, .int (nI 0), .ref g6, .int (nI 0), .ref g7, .ref g8, .ref g9, .ref g10, .ref g11, .ref g12])), (g5, .inl (cI, 9, .inl vn))]) [16, 21] rfl, hKN.warm hW, (hD.sub (ws' := [(m0, .inr (7, [.int (nI 1), .ref g1, .ref g2, .ref g3, .int (nI 0), .ref g4, .int (-1 : Int32), .ref g5, .int (nI 0), .ref g6, .int (nI 0), .ref g7, .ref g8, .ref g9, .ref g10, .ref g11, .ref g12])), (g5, .inl (cI, 9, .inl vn))]) [16, 21] (by decide) rfl).weaken (fun _ _ _ _ => trivial)⟩⟩ rfl rfl hl.1 rfl (lv_room (Nat.le_of_ble_eq_true rfl)) dL_law_581 ⟨Nat.le_of_ble_eq_true rfl, Nat.le_of_ble_eq_true rfl⟩) hS hP hD [16, 21] [0, 1, 2, 3, 4, 5, 6, 7, 8, 9, 10, 11, 12, 13, 14, 15, 17, 18, 19, 20, 22, 23, 24, 25, 26, 27, 28] rfl rfl rfl (by decide) (by decide) (fun r5 u5 H locs w5r hP hD hS => ?_)
    have w5 : B01 r5 (0 ≤ (xs (0 + 1)).toInt ∧ (xs (0 + 1)).toInt < 1 ∧ -1 ≤ (xs (0 + 2)).toInt ∧ (xs (0 + 2)).toInt ≤ 1) := w5r
    clear w5r
    rcases w5 with ⟨rfl, w5⟩ | ⟨rfl, w5⟩
    · skip
      refine lv_icmp_eq (tgt := 883) hx hb dL_law_584 (by decide) (fun c6 => ?_) (fun c6 => ?_)
      · exact absurd c6 (by first | decide | exact nz_lt (by omega) | exact fun h => h (nz_ge (by omega)))
      · skip
        refine lv_iconst (v := nI 0) hx hb dL_law_587 (by decide) ?_
        exact (by first | exact absurd w1 w5 | exact absurd w5 w1 | exact w1.elim | exact w5.elim)
    · skip
      refine lv_icmp_eq (tgt := 883) hx hb dL_law_584 (by decide) (fun c7 => ?_) (fun c7 => ?_)
      · skip
        exact law_tail hL6 C0 _ _ _ hS (lv_sub hl [0, 3] rfl)
      · exact absurd c7 (by first | decide | exact nz_lt (by omega) | exact fun h => h (nz_ge (by omega)))
set_option maxHeartbeats 4000000 in
set_option maxRecDepth 100000 in
theorem law_c13 {p : Program} {l : Launch} {e : Env} {s : State} {m : MethodId} {below : List Frame} {meth : Method} {c : Code} {b L : Nat} {xs : Nat → Int32} (hL6 : L = 6) (C0 : lw_At p s m meth c b L xs) (D : va_G) (cI cJ cZ : ClassId) (hKN : KN D cI cJ cZ s) (x0 h4 a1 a2 a3 h3 b1 b2 h2 r1 h1 p4 p5 p6 hB l3 h5 lk1 m0 g1 g2 g3 g4 g5 g6 g7 g8 g9 g10 g11 g12 : Nat) (ug ub ur vg vb vr vn th : Nat → Int32) (hone : ∀ z, z < 9 → ug z = nI 1 ∧ ub z = nI 1 ∧ ur z = nI 1) (hmone : (∀ z, z < 9 → vg z = nI 1 ∧ vb z = nI 1 ∧ vr z = nI 1 ∧ vn z = -1) ∧ (∀ z, z < 9 → th z = nI (3 ^ z))) (hth : ∀ z, z < 9 → ¬ th z = 0) : ∀ (H : Heap) (locs : List Loc) (ls : Array Slot), va_P D vwCl [(x0, .inr (6, [.ref h4, .ref h3, .ref h2, .ref h1, .ref hB, .ref h5])), (h4, .inr (4, [.ref a1, .ref a2, .ref a3, .int (nI 1), .int (nI 0), .int (nI 0)])), (a1, .inl (cI, 9, .inl ug)), (a2, .inl (cI, 9, .inl ub)), (a3, .inl (cI, 9, .inl ur)), (h3, .inr (3, [.ref b1, .ref b2, .int (nI 1), .int (nI 0), .int (-1 : Int32)])), (b1, .inl (cJ, 320, .inr (.inl (fun _ => 0)))), (b2, .inl (cI, 9, .inl (fun _ => 0))), (h2, .inr (2, [.ref r1, .int (nI 0)])), (r1, .inl (cI, 9, .inl (fun _ => 0))), (h1, .inr (1, [.ref h4, .ref h3, .ref h2, .ref p4, .ref p5, .ref p6, .int (nI 0)])), (p4, .inl (cI, 9, .inl (fun _ => 0))), (p5, .inl (cJ, 0, .inr (.inl (fun _ => 0)))), (p6, .inl (cI, 0, .inl (fun _ => 0))), (hB, .inr (0, [.ref h4, .ref h3, .ref l3])), (l3, .inl (cI, 512, .inl (fun _ => 0))), (h5, .inr (5, [.ref lk1, .int (nI 0)])), (lk1, .inl (cI, 9, .inl (fun _ => 0))), (m0, .inr (7, [.int (nI 1), .ref g1, .ref g2, .ref g3, .int (nI 0), .ref g4, .int (-1 : Int32), .ref g5, .int (nI 0), .ref g6, .int (nI 0), .ref g7, .ref g8, .ref g9, .ref g10, .ref g11, .ref g12])), (g1, .inl (cI, 9, .inl vg)), (g2, .inl (cI, 9, .inl vb)), (g3, .inl (cI, 9, .inl vr)), (g4, .inl (cZ, 20480, .inl (fun _ => 0))), (g5, .inl (cI, 9, .inl vn)), (g6, .inl (cI, 9, .inl (fun _ => 0))), (g7, .inl (cI, 9, .inl (fun _ => 0))), (g8, .inl (cJ, 19683, .inr (.inl (fun _ => 0)))), (g9, .inl (cI, 19683, .inl (fun _ => 0))), (g10, .inl (cI, 19683, .inl (fun _ => 0))), (g11, .inl (cI, 19683, .inl (fun _ => 0))), (g12, .inl (cI, 9, .inl th))] H → va_D (fun q : Nat => s.heap.size ≤ q) [(x0, .inr (6, [.ref h4, .ref h3, .ref h2, .ref h1, .ref hB, .ref h5])), (h4, .inr (4, [.ref a1, .ref a2, .ref a3, .int (nI 1), .int (nI 0), .int (nI 0)])), (a1, .inl (cI, 9, .inl ug)), (a2, .inl (cI, 9, .inl ub)), (a3, .inl (cI, 9, .inl ur)), (h3, .inr (3, [.ref b1, .ref b2, .int (nI 1), .int (nI 0), .int (-1 : Int32)])), (b1, .inl (cJ, 320, .inr (.inl (fun _ => 0)))), (b2, .inl (cI, 9, .inl (fun _ => 0))), (h2, .inr (2, [.ref r1, .int (nI 0)])), (r1, .inl (cI, 9, .inl (fun _ => 0))), (h1, .inr (1, [.ref h4, .ref h3, .ref h2, .ref p4, .ref p5, .ref p6, .int (nI 0)])), (p4, .inl (cI, 9, .inl (fun _ => 0))), (p5, .inl (cJ, 0, .inr (.inl (fun _ => 0)))), (p6, .inl (cI, 0, .inl (fun _ => 0))), (hB, .inr (0, [.ref h4, .ref h3, .ref l3])), (l3, .inl (cI, 512, .inl (fun _ => 0))), (h5, .inr (5, [.ref lk1, .int (nI 0)])), (lk1, .inl (cI, 9, .inl (fun _ => 0))), (m0, .inr (7, [.int (nI 1), .ref g1, .ref g2, .ref g3, .int (nI 0), .ref g4, .int (-1 : Int32), .ref g5, .int (nI 0), .ref g6, .int (nI 0), .ref g7, .ref g8, .ref g9, .ref g10, .ref g11, .ref g12])), (g1, .inl (cI, 9, .inl vg)), (g2, .inl (cI, 9, .inl vb)), (g3, .inl (cI, 9, .inl vr)), (g4, .inl (cZ, 20480, .inl (fun _ => 0))), (g5, .inl (cI, 9, .inl vn)), (g6, .inl (cI, 9, .inl (fun _ => 0))), (g7, .inl (cI, 9, .inl (fun _ => 0))), (g8, .inl (cJ, 19683, .inr (.inl (fun _ => 0)))), (g9, .inl (cI, 19683, .inl (fun _ => 0))), (g10, .inl (cI, 19683, .inl (fun _ => 0))), (g11, .inl (cI, 19683, .inl (fun _ => 0))), (g12, .inl (cI, 9, .inl th))] → va_S (fun q : Nat => s.heap.size ≤ q) s.heap H locs → lv_has ls 4 [(3, .int (nI 0)), (2, .ref m0), (1, .ref x0), (0, .ref b)] → W p l e room_1 s m #[Value.ref b] below meth c H locs 31 100218 (lw_Z below #[Value.ref b] s) (F0 m 589 ls []) := by
  obtain ⟨hx, hb, hr, hml, hown, hts0, hX, hbl, hlocks, hgv⟩ := id C0
  have hts : ∀ w ∈ wsL_law, w.before #[Value.ref b] s = true := fun w h => hts0 w (wsL_law_in w h)
  have hown : s.vm.findClass RL = some m.cls := hown
  have hA : ∀ q : Nat, s.heap.size ≤ q → (fun q : Nat => s.heap.size ≤ q) q := fun _ h => h
  have hbA : ¬ (fun q : Nat => s.heap.size ≤ q) b := Nat.not_le.mpr hbl
  have hK := hKN.1
  intro H locs ls hP hD hS hl
  refine lv_aload_n hx hb dL_law_589 rfl (lv_at hl 2 rfl) ?_
  refine lv_aload_n hx hb dL_law_590 rfl (lv_at hl 3 rfl) ?_
  refine lv_iload_n hx hb dL_law_591 rfl (lv_at hl 0 rfl) ?_
  refine lv_iconst (v := nI 1) hx hb dL_law_592 (by decide) ?_
  refine lv_iadd hx hb dL_law_593 ?_
  refine cn_i (y := nI (0 + 1)) (nI_add 0 1) ?_
  refine va_sld hx hb hX hbl hbA hS (i := nI (0 + 1)) (vp_in_nI (by omega) (by omega)) dL_law_594 ?_
  refine cn_i (y := xs (0 + 1)) (congrArg xs (nI_clamp (by omega))) ?_
  refine lv_aload_n hx hb dL_law_595 rfl (lv_at hl 3 rfl) ?_
  refine lv_iload_n hx hb dL_law_596 rfl (lv_at hl 0 rfl) ?_
  refine lv_iconst (v := nI 2) hx hb dL_law_597 (by decide) ?_
  refine lv_iadd hx hb dL_law_598 ?_
  refine cn_i (y := nI (0 + 2)) (nI_add 0 2) ?_
  refine va_sld hx hb hX hbl hbA hS (i := nI (0 + 2)) (vp_in_nI (by omega) (by omega)) dL_law_599 ?_
  refine cn_i (y := xs (0 + 2)) (congrArg xs (nI_clamp (by omega))) ?_
  refine pu_i (va_runV (As := [.int (xs (0 + 1)), .int (xs (0 + 2))]) (rest := []) ⟨hx, hb, hml, hown, hts⟩ (c_X6_partOf l D cI cJ cZ x0 h4 h3 h2 h1 hB h5 a1 a2 a3 1 (nI 0) (nI 0) (xs (0 + 1)) (xs (0 + 2)) ug ub ur (by first | assumption | omega)) (cwV 2 hts gL_law_X6_partOf rfl rfl rfl (by decide +kernel) ⟨Nat.le_of_ble_eq_true rfl, Nat.le_of_ble_eq_true rfl⟩) ⟨pc_blind, va_recv hK hP (ci := 6) (q0 := 0) rfl rfl, fun U hU hW => ⟨rfl, by rw [hU]; exact hP.sub (ws' := [(x0, .inr (6, [.ref h4, .ref h3, .ref h2, .ref h1, .ref hB, .ref h5])), (h4, .inr (4, [.ref a1, .ref a2, .ref a3, .int (nI 1), .int (nI 0), .int (nI 0)])), (a1, .inl (cI, 9, .inl ug)), (a2, .inl (cI, 9, .inl ub)), (a3, .inl (cI, 9, .inl ur))]) [0, 1, 2, 3, 4] rfl, hKN.warm hW⟩⟩ rfl rfl hl.1 rfl (lv_room (Nat.le_of_ble_eq_true rfl)) dL_law_600 ⟨Nat.le_of_ble_eq_true rfl, Nat.le_of_ble_eq_true rfl⟩) hS hP (fun r1 H locs w1r hP hS => ?_)
  have w1 : r1 = pO ug ub ur (nF (nI 0) (nI 0)) 1 (xs (0 + 1)) (xs (0 + 2)) := w1r
  clear w1r
  have wx := w1
  refine lv_aload_n hx hb dL_law_603 rfl (lv_at hl 1 rfl) ?_
  refine lv_aload_n hx hb dL_law_604 rfl (lv_at hl 3 rfl) ?_
  refine lv_iload_n hx hb dL_law_605 rfl (lv_at hl 0 rfl) ?_
  refine lv_iconst (v := nI 1) hx hb dL_law_606 (by decide) ?_
  refine lv_iadd hx hb dL_law_607 ?_
  refine cn_i (y := nI (0 + 1)) (nI_add 0 1) ?_
  refine va_sld hx hb hX hbl hbA hS (i := nI (0 + 1)) (vp_in_nI (by omega) (by omega)) dL_law_608 ?_
  refine cn_i (y := xs (0 + 1)) (congrArg xs (nI_clamp (by omega))) ?_
  refine lv_aload_n hx hb dL_law_609 rfl (lv_at hl 3 rfl) ?_
  refine lv_iload_n hx hb dL_law_610 rfl (lv_at hl 0 rfl) ?_
  refine lv_iconst (v := nI 2) hx hb dL_law_611 (by decide) ?_
  refine lv_iadd hx hb dL_law_612 ?_
  refine cn_i (y := nI (0 + 2)) (nI_add 0 2) ?_
  refine va_sld hx hb hX hbl hbA hS (i := nI (0 + 2)) (vp_in_nI (by omega) (by omega)) dL_law_613 ?_
  refine cn_i (y := xs (0 + 2)) (congrArg xs (nI_clamp (by omega))) ?_
  refine pu_i (va_runV (As := [.int (xs (0 + 1)), .int (xs (0 + 2))]) (rest := [.int r1]) ⟨hx, hb, hml, hown, hts⟩ (c_X7_partOf l D cI cJ cZ m0 g1 g2 g3 g4 g5 g6 g7 g8 g9 g10 g11 g12 1 (nI 0) (-1 : Int32) (nI 0) (nI 0) (xs (0 + 1)) (xs (0 + 2)) vg vb vr vn (by first | assumption | omega) (by first | assumption | omega)) (cwV 2 hts gL_law_X7_partOf rfl rfl rfl (by decide +kernel) ⟨Nat.le_of_ble_eq_true rfl, Nat.le_of_ble_eq_true rfl⟩) ⟨pc_blind, va_recv hK hP (ci := 7) (q0 := 18) rfl rfl, fun U hU hW => ⟨rfl, by rw [hU]; exact hP.sub (ws' := [(m0, .inr (7, [.int (nI 1), .ref g1, .ref g2, .ref g3, .int (nI 0), .ref g4, .int (-1 : Int32), .ref g5, .int (nI 0), .ref g6, .int (nI 0), .ref g7, .ref g8, .ref g9, .ref g10, .ref g11, .ref g12])), (g1, .inl (cI, 9, .inl vg)), (g2, .inl (cI, 9, .inl vb)), (g3, .inl (cI, 9, .inl vr)), (g5, .inl (cI, 9, .inl vn))]) [18, 19, 20, 21, 23] rfl, hKN.warm hW⟩⟩ rfl rfl hl.1 rfl (lv_room (Nat.le_of_ble_eq_true rfl)) dL_law_614 ⟨Nat.le_of_ble_eq_true rfl, Nat.le_of_ble_eq_true rfl⟩) hS hP (fun r2 H locs w2r hP hS => ?_)
  have w2 : r2 = pO vg vb vr vn 1 (xs (0 + 1)) (xs (0 + 2)) := w2r
  clear w2r
  have wm := w2
  refine lv_icmp_eq (tgt := 883) hx hb dL_law_617 (by decide) (fun c3 => ?_) (fun c3 => ?_)
  · skip
    exact law_tail hL6 C0 _ _ _ hS (lv_sub hl [0, 3] rfl)
  · exact absurd (wx.trans ((pO_eq hone hmone.1).trans wm.symm)) c3
set_option maxHeartbeats 4000000 in
set_option maxRecDepth 100000 in
theorem law_c14 {p : Program} {l : Launch} {e : Env} {s : State} {m : MethodId} {below : List Frame} {meth : Method} {c : Code} {b L : Nat} {xs : Nat → Int32} (hL6 : L = 6) (C0 : lw_At p s m meth c b L xs) (D : va_G) (cI cJ cZ : ClassId) (hKN : KN D cI cJ cZ s) (x0 h4 a1 a2 a3 h3 b1 b2 h2 r1 h1 p4 p5 p6 hB l3 h5 lk1 m0 g1 g2 g3 g4 g5 g6 g7 g8 g9 g10 g11 g12 : Nat) (ug ub ur vg vb vr vn th : Nat → Int32) (hone : ∀ z, z < 9 → ug z = nI 1 ∧ ub z = nI 1 ∧ ur z = nI 1) (hmone : (∀ z, z < 9 → vg z = nI 1 ∧ vb z = nI 1 ∧ vr z = nI 1 ∧ vn z = -1) ∧ (∀ z, z < 9 → th z = nI (3 ^ z))) (hth : ∀ z, z < 9 → ¬ th z = 0) : ∀ (H : Heap) (locs : List Loc) (ls : Array Slot), va_P D vwCl [(x0, .inr (6, [.ref h4, .ref h3, .ref h2, .ref h1, .ref hB, .ref h5])), (h4, .inr (4, [.ref a1, .ref a2, .ref a3, .int (nI 1), .int (nI 0), .int (nI 0)])), (a1, .inl (cI, 9, .inl ug)), (a2, .inl (cI, 9, .inl ub)), (a3, .inl (cI, 9, .inl ur)), (h3, .inr (3, [.ref b1, .ref b2, .int (nI 1), .int (nI 0), .int (-1 : Int32)])), (b1, .inl (cJ, 320, .inr (.inl (fun _ => 0)))), (b2, .inl (cI, 9, .inl (fun _ => 0))), (h2, .inr (2, [.ref r1, .int (nI 0)])), (r1, .inl (cI, 9, .inl (fun _ => 0))), (h1, .inr (1, [.ref h4, .ref h3, .ref h2, .ref p4, .ref p5, .ref p6, .int (nI 0)])), (p4, .inl (cI, 9, .inl (fun _ => 0))), (p5, .inl (cJ, 0, .inr (.inl (fun _ => 0)))), (p6, .inl (cI, 0, .inl (fun _ => 0))), (hB, .inr (0, [.ref h4, .ref h3, .ref l3])), (l3, .inl (cI, 512, .inl (fun _ => 0))), (h5, .inr (5, [.ref lk1, .int (nI 0)])), (lk1, .inl (cI, 9, .inl (fun _ => 0))), (m0, .inr (7, [.int (nI 1), .ref g1, .ref g2, .ref g3, .int (nI 0), .ref g4, .int (-1 : Int32), .ref g5, .int (nI 0), .ref g6, .int (nI 0), .ref g7, .ref g8, .ref g9, .ref g10, .ref g11, .ref g12])), (g1, .inl (cI, 9, .inl vg)), (g2, .inl (cI, 9, .inl vb)), (g3, .inl (cI, 9, .inl vr)), (g4, .inl (cZ, 20480, .inl (fun _ => 0))), (g5, .inl (cI, 9, .inl vn)), (g6, .inl (cI, 9, .inl (fun _ => 0))), (g7, .inl (cI, 9, .inl (fun _ => 0))), (g8, .inl (cJ, 19683, .inr (.inl (fun _ => 0)))), (g9, .inl (cI, 19683, .inl (fun _ => 0))), (g10, .inl (cI, 19683, .inl (fun _ => 0))), (g11, .inl (cI, 19683, .inl (fun _ => 0))), (g12, .inl (cI, 9, .inl th))] H → va_D (fun q : Nat => s.heap.size ≤ q) [(x0, .inr (6, [.ref h4, .ref h3, .ref h2, .ref h1, .ref hB, .ref h5])), (h4, .inr (4, [.ref a1, .ref a2, .ref a3, .int (nI 1), .int (nI 0), .int (nI 0)])), (a1, .inl (cI, 9, .inl ug)), (a2, .inl (cI, 9, .inl ub)), (a3, .inl (cI, 9, .inl ur)), (h3, .inr (3, [.ref b1, .ref b2, .int (nI 1), .int (nI 0), .int (-1 : Int32)])), (b1, .inl (cJ, 320, .inr (.inl (fun _ => 0)))), (b2, .inl (cI, 9, .inl (fun _ => 0))), (h2, .inr (2, [.ref r1, .int (nI 0)])), (r1, .inl (cI, 9, .inl (fun _ => 0))), (h1, .inr (1, [.ref h4, .ref h3, .ref h2, .ref p4, .ref p5, .ref p6, .int (nI 0)])), (p4, .inl (cI, 9, .inl (fun _ => 0))), (p5, .inl (cJ, 0, .inr (.inl (fun _ => 0)))), (p6, .inl (cI, 0, .inl (fun _ => 0))), (hB, .inr (0, [.ref h4, .ref h3, .ref l3])), (l3, .inl (cI, 512, .inl (fun _ => 0))), (h5, .inr (5, [.ref lk1, .int (nI 0)])), (lk1, .inl (cI, 9, .inl (fun _ => 0))), (m0, .inr (7, [.int (nI 1), .ref g1, .ref g2, .ref g3, .int (nI 0), .ref g4, .int (-1 : Int32), .ref g5, .int (nI 0), .ref g6, .int (nI 0), .ref g7, .ref g8, .ref g9, .ref g10, .ref g11, .ref g12])), (g1, .inl (cI, 9, .inl vg)), (g2, .inl (cI, 9, .inl vb)), (g3, .inl (cI, 9, .inl vr)), (g4, .inl (cZ, 20480, .inl (fun _ => 0))), (g5, .inl (cI, 9, .inl vn)), (g6, .inl (cI, 9, .inl (fun _ => 0))), (g7, .inl (cI, 9, .inl (fun _ => 0))), (g8, .inl (cJ, 19683, .inr (.inl (fun _ => 0)))), (g9, .inl (cI, 19683, .inl (fun _ => 0))), (g10, .inl (cI, 19683, .inl (fun _ => 0))), (g11, .inl (cI, 19683, .inl (fun _ => 0))), (g12, .inl (cI, 9, .inl th))] → va_S (fun q : Nat => s.heap.size ≤ q) s.heap H locs → lv_has ls 4 [(3, .int (nI 0)), (2, .ref m0), (1, .ref x0), (0, .ref b)] → W p l e room_1 s m #[Value.ref b] below meth c H locs 31 100218 (lw_Z below #[Value.ref b] s) (F0 m 622 ls []) := by
  obtain ⟨hx, hb, hr, hml, hown, hts0, hX, hbl, hlocks, hgv⟩ := id C0
  have hts : ∀ w ∈ wsL_law, w.before #[Value.ref b] s = true := fun w h => hts0 w (wsL_law_in w h)
  have hown : s.vm.findClass RL = some m.cls := hown
  have hA : ∀ q : Nat, s.heap.size ≤ q → (fun q : Nat => s.heap.size ≤ q) q := fun _ h => h
  have hbA : ¬ (fun q : Nat => s.heap.size ≤ q) b := Nat.not_le.mpr hbl
  have hK := hKN.1
  intro H locs ls hP hD hS hl
  refine lv_aload_n hx hb dL_law_622 rfl (lv_at hl 2 rfl) ?_
  refine pu_i (va_runV (As := []) (rest := []) ⟨hx, hb, hml, hown, hts⟩ (c_X6_sure l D cI cJ cZ x0 h4 h3 h2 h1 hB h5 b1 b2 (nI 1)) (cwV 0 hts gL_law_X6_sure rfl rfl rfl (by decide +kernel) ⟨Nat.le_of_ble_eq_true rfl, Nat.le_of_ble_eq_true rfl⟩) ⟨pc_blind, va_recv hK hP (ci := 6) (q0 := 0) rfl rfl, fun U hU hW => ⟨rfl, by rw [hU]; exact hP.sub (ws' := [(x0, .inr (6, [.ref h4, .ref h3, .ref h2, .ref h1, .ref hB, .ref h5])), (h3, .inr (3, [.ref b1, .ref b2, .int (nI 1), .int (nI 0), .int (-1 : Int32)]))]) [0, 5] rfl, hKN.warm hW⟩⟩ rfl rfl hl.1 rfl (lv_room (Nat.le_of_ble_eq_true rfl)) dL_law_623 ⟨Nat.le_of_ble_eq_true rfl, Nat.le_of_ble_eq_true rfl⟩) hS hP (fun r1 H locs w1r hP hS => ?_)
  have w1 : r1 = -2 := w1r
  clear w1r
  obtain rfl : r1 = (-2 : Int32) := w1
  refine lv_aload_n hx hb dL_law_626 rfl (lv_at hl 1 rfl) ?_
  refine pu_i (va_runV (As := []) (rest := [.int (-2 : Int32)]) ⟨hx, hb, hml, hown, hts⟩ (c_X7_sure l D cI cJ cZ m0 g1 g2 g3 g4 g5 g6 g7 g8 g9 g10 g11 g12 (nI 1) (nI 0) (nI 0) (nI 0)) (cwV 0 hts gL_law_X7_sure rfl rfl rfl (by decide +kernel) ⟨Nat.le_of_ble_eq_true rfl, Nat.le_of_ble_eq_true rfl⟩) ⟨pc_blind, va_recv hK hP (ci := 7) (q0 := 18) rfl rfl, fun U hU hW => ⟨rfl, by rw [hU]; exact hP.sub (ws' := [(m0, .inr (7, [.int (nI 1), .ref g1, .ref g2, .ref g3, .int (nI 0), .ref g4, .int (-1 : Int32), .ref g5, .int (nI 0), .ref g6, .int (nI 0), .ref g7, .ref g8, .ref g9, .ref g10, .ref g11, .ref g12]))]) [18] rfl, hKN.warm hW⟩⟩ rfl rfl hl.1 rfl (lv_room (Nat.le_of_ble_eq_true rfl)) dL_law_627 ⟨Nat.le_of_ble_eq_true rfl, Nat.le_of_ble_eq_true rfl⟩) hS hP (fun r2 H locs w2r hP hS => ?_)
  have w2 : r2 = -2 := w2r
  clear w2r
  obtain rfl : r2 = (-2 : Int32) := w2
  refine lv_icmp_eq (tgt := 883) hx hb dL_law_630 (by decide) (fun c3 => ?_) (fun c3 => ?_)
  · skip
    exact law_tail hL6 C0 _ _ _ hS (lv_sub hl [0, 3] rfl)
  · exact absurd c3 (by first | decide | exact nz_lt (by omega) | exact fun h => h (nz_ge (by omega)))
set_option maxHeartbeats 4000000 in
set_option maxRecDepth 100000 in
theorem law_c15 {p : Program} {l : Launch} {e : Env} {s : State} {m : MethodId} {below : List Frame} {meth : Method} {c : Code} {b L : Nat} {xs : Nat → Int32} (hL6 : L = 6) (C0 : lw_At p s m meth c b L xs) (D : va_G) (cI cJ cZ : ClassId) (hKN : KN D cI cJ cZ s) (x0 h4 a1 a2 a3 h3 b1 b2 h2 r1 h1 p4 p5 p6 hB l3 h5 lk1 m0 g1 g2 g3 g4 g5 g6 g7 g8 g9 g10 g11 g12 : Nat) (ug ub ur vg vb vr vn th : Nat → Int32) (hone : ∀ z, z < 9 → ug z = nI 1 ∧ ub z = nI 1 ∧ ur z = nI 1) (hmone : (∀ z, z < 9 → vg z = nI 1 ∧ vb z = nI 1 ∧ vr z = nI 1 ∧ vn z = -1) ∧ (∀ z, z < 9 → th z = nI (3 ^ z))) (hth : ∀ z, z < 9 → ¬ th z = 0) : ∀ (H : Heap) (locs : List Loc) (ls : Array Slot), va_P D vwCl [(x0, .inr (6, [.ref h4, .ref h3, .ref h2, .ref h1, .ref hB, .ref h5])), (h4, .inr (4, [.ref a1, .ref a2, .ref a3, .int (nI 1), .int (nI 0), .int (nI 0)])), (a1, .inl (cI, 9, .inl ug)), (a2, .inl (cI, 9, .inl ub)), (a3, .inl (cI, 9, .inl ur)), (h3, .inr (3, [.ref b1, .ref b2, .int (nI 1), .int (nI 0), .int (-1 : Int32)])), (b1, .inl (cJ, 320, .inr (.inl (fun _ => 0)))), (b2, .inl (cI, 9, .inl (fun _ => 0))), (h2, .inr (2, [.ref r1, .int (nI 0)])), (r1, .inl (cI, 9, .inl (fun _ => 0))), (h1, .inr (1, [.ref h4, .ref h3, .ref h2, .ref p4, .ref p5, .ref p6, .int (nI 0)])), (p4, .inl (cI, 9, .inl (fun _ => 0))), (p5, .inl (cJ, 0, .inr (.inl (fun _ => 0)))), (p6, .inl (cI, 0, .inl (fun _ => 0))), (hB, .inr (0, [.ref h4, .ref h3, .ref l3])), (l3, .inl (cI, 512, .inl (fun _ => 0))), (h5, .inr (5, [.ref lk1, .int (nI 0)])), (lk1, .inl (cI, 9, .inl (fun _ => 0))), (m0, .inr (7, [.int (nI 1), .ref g1, .ref g2, .ref g3, .int (nI 0), .ref g4, .int (-1 : Int32), .ref g5, .int (nI 0), .ref g6, .int (nI 0), .ref g7, .ref g8, .ref g9, .ref g10, .ref g11, .ref g12])), (g1, .inl (cI, 9, .inl vg)), (g2, .inl (cI, 9, .inl vb)), (g3, .inl (cI, 9, .inl vr)), (g4, .inl (cZ, 20480, .inl (fun _ => 0))), (g5, .inl (cI, 9, .inl vn)), (g6, .inl (cI, 9, .inl (fun _ => 0))), (g7, .inl (cI, 9, .inl (fun _ => 0))), (g8, .inl (cJ, 19683, .inr (.inl (fun _ => 0)))), (g9, .inl (cI, 19683, .inl (fun _ => 0))), (g10, .inl (cI, 19683, .inl (fun _ => 0))), (g11, .inl (cI, 19683, .inl (fun _ => 0))), (g12, .inl (cI, 9, .inl th))] H → va_D (fun q : Nat => s.heap.size ≤ q) [(x0, .inr (6, [.ref h4, .ref h3, .ref h2, .ref h1, .ref hB, .ref h5])), (h4, .inr (4, [.ref a1, .ref a2, .ref a3, .int (nI 1), .int (nI 0), .int (nI 0)])), (a1, .inl (cI, 9, .inl ug)), (a2, .inl (cI, 9, .inl ub)), (a3, .inl (cI, 9, .inl ur)), (h3, .inr (3, [.ref b1, .ref b2, .int (nI 1), .int (nI 0), .int (-1 : Int32)])), (b1, .inl (cJ, 320, .inr (.inl (fun _ => 0)))), (b2, .inl (cI, 9, .inl (fun _ => 0))), (h2, .inr (2, [.ref r1, .int (nI 0)])), (r1, .inl (cI, 9, .inl (fun _ => 0))), (h1, .inr (1, [.ref h4, .ref h3, .ref h2, .ref p4, .ref p5, .ref p6, .int (nI 0)])), (p4, .inl (cI, 9, .inl (fun _ => 0))), (p5, .inl (cJ, 0, .inr (.inl (fun _ => 0)))), (p6, .inl (cI, 0, .inl (fun _ => 0))), (hB, .inr (0, [.ref h4, .ref h3, .ref l3])), (l3, .inl (cI, 512, .inl (fun _ => 0))), (h5, .inr (5, [.ref lk1, .int (nI 0)])), (lk1, .inl (cI, 9, .inl (fun _ => 0))), (m0, .inr (7, [.int (nI 1), .ref g1, .ref g2, .ref g3, .int (nI 0), .ref g4, .int (-1 : Int32), .ref g5, .int (nI 0), .ref g6, .int (nI 0), .ref g7, .ref g8, .ref g9, .ref g10, .ref g11, .ref g12])), (g1, .inl (cI, 9, .inl vg)), (g2, .inl (cI, 9, .inl vb)), (g3, .inl (cI, 9, .inl vr)), (g4, .inl (cZ, 20480, .inl (fun _ => 0))), (g5, .inl (cI, 9, .inl vn)), (g6, .inl (cI, 9, .inl (fun _ => 0))), (g7, .inl (cI, 9, .inl (fun _ => 0))), (g8, .inl (cJ, 19683, .inr (.inl (fun _ => 0)))), (g9, .inl (cI, 19683, .inl (fun _ => 0))), (g10, .inl (cI, 19683, .inl (fun _ => 0))), (g11, .inl (cI, 19683, .inl (fun _ => 0))), (g12, .inl (cI, 9, .inl th))] → va_S (fun q : Nat => s.heap.size ≤ q) s.heap H locs → lv_has ls 4 [(3, .int (nI 0)), (2, .ref m0), (1, .ref x0), (0, .ref b)] → W p l e room_1 s m #[Value.ref b] below meth c H locs 31 100218 (lw_Z below #[Value.ref b] s) (F0 m 635 ls []) := by
  obtain ⟨hx, hb, hr, hml, hown, hts0, hX, hbl, hlocks, hgv⟩ := id C0
  have hts : ∀ w ∈ wsL_law, w.before #[Value.ref b] s = true := fun w h => hts0 w (wsL_law_in w h)
  have hown : s.vm.findClass RL = some m.cls := hown
  have hA : ∀ q : Nat, s.heap.size ≤ q → (fun q : Nat => s.heap.size ≤ q) q := fun _ h => h
  have hbA : ¬ (fun q : Nat => s.heap.size ≤ q) b := Nat.not_le.mpr hbl
  have hK := hKN.1
  intro H locs ls hP hD hS hl
  refine lv_aload_n hx hb dL_law_635 rfl (lv_at hl 2 rfl) ?_
  refine lv_aload_n hx hb dL_law_636 rfl (lv_at hl 3 rfl) ?_
  refine lv_iload_n hx hb dL_law_637 rfl (lv_at hl 0 rfl) ?_
  refine lv_iconst (v := nI 1) hx hb dL_law_638 (by decide) ?_
  refine lv_iadd hx hb dL_law_639 ?_
  refine cn_i (y := nI (0 + 1)) (nI_add 0 1) ?_
  refine va_sld hx hb hX hbl hbA hS (i := nI (0 + 1)) (vp_in_nI (by omega) (by omega)) dL_law_640 ?_
  refine cn_i (y := xs (0 + 1)) (congrArg xs (nI_clamp (by omega))) ?_
  refine pu_l (va_runV (As := [.int (xs (0 + 1))]) (rest := []) ⟨hx, hb, hml, hown, hts⟩ (c_X6_told l D cI cJ cZ x0 h4 h3 h2 h1 hB h5 a1 a2 a3 b1 b2 1 (nI 0) (nI 0) (nI 1) (xs (0 + 1)) ug ub (by first | assumption | omega)) (cwV 1 hts gL_law_X6_told rfl rfl rfl (by decide +kernel) ⟨Nat.le_of_ble_eq_true rfl, Nat.le_of_ble_eq_true rfl⟩) ⟨pc_blind, va_recv hK hP (ci := 6) (q0 := 0) rfl rfl, fun U hU hW => ⟨rfl, by rw [hU]; exact hP.sub (ws' := [(x0, .inr (6, [.ref h4, .ref h3, .ref h2, .ref h1, .ref hB, .ref h5])), (h4, .inr (4, [.ref a1, .ref a2, .ref a3, .int (nI 1), .int (nI 0), .int (nI 0)])), (a1, .inl (cI, 9, .inl ug)), (a2, .inl (cI, 9, .inl ub)), (h3, .inr (3, [.ref b1, .ref b2, .int (nI 1), .int (nI 0), .int (-1 : Int32)]))]) [0, 1, 2, 3, 5] rfl, hKN.warm hW⟩⟩ rfl rfl hl.1 rfl (lv_room (Nat.le_of_ble_eq_true rfl)) dL_law_641 ⟨Nat.le_of_ble_eq_true rfl, Nat.le_of_ble_eq_true rfl⟩) hS hP (fun r1 H locs w1r hP hS => ?_)
  have w1 : r1 = if (xs (0 + 1)) = 0 then lf ug ub (nI 0) (nI 0) 1 else -2 := w1r
  clear w1r
  have wx := w1
  refine lv_aload_n hx hb dL_law_644 rfl (lv_at hl 1 rfl) ?_
  refine lv_aload_n hx hb dL_law_645 rfl (lv_at hl 3 rfl) ?_
  refine lv_iload_n hx hb dL_law_646 rfl (lv_at hl 0 rfl) ?_
  refine lv_iconst (v := nI 1) hx hb dL_law_647 (by decide) ?_
  refine lv_iadd hx hb dL_law_648 ?_
  refine cn_i (y := nI (0 + 1)) (nI_add 0 1) ?_
  refine va_sld hx hb hX hbl hbA hS (i := nI (0 + 1)) (vp_in_nI (by omega) (by omega)) dL_law_649 ?_
  refine cn_i (y := xs (0 + 1)) (congrArg xs (nI_clamp (by omega))) ?_
  refine pu_l (va_runV (As := [.int (xs (0 + 1))]) (rest := [.long r1]) ⟨hx, hb, hml, hown, hts⟩ (c_X7_told l D cI cJ cZ m0 g1 g2 g3 g4 g5 g6 g7 g8 g9 g10 g11 g12 1 (nI 0) (nI 0) (nI 0) (xs (0 + 1)) vg vb vn th (by first | assumption | omega) (by first | assumption | omega)) (cwV 1 hts gL_law_X7_told rfl rfl rfl (by decide +kernel) ⟨Nat.le_of_ble_eq_true rfl, Nat.le_of_ble_eq_true rfl⟩) ⟨pc_blind, va_recv hK hP (ci := 7) (q0 := 18) rfl rfl, fun U hU hW => ⟨rfl, by rw [hU]; exact hP.sub (ws' := [(m0, .inr (7, [.int (nI 1), .ref g1, .ref g2, .ref g3, .int (nI 0), .ref g4, .int (-1 : Int32), .ref g5, .int (nI 0), .ref g6, .int (nI 0), .ref g7, .ref g8, .ref g9, .ref g10, .ref g11, .ref g12])), (g1, .inl (cI, 9, .inl vg)), (g2, .inl (cI, 9, .inl vb)), (g5, .inl (cI, 9, .inl vn)), (g12, .inl (cI, 9, .inl th))]) [18, 19, 20, 23, 30] rfl, hKN.warm hW⟩⟩ rfl rfl hl.1 rfl (lv_room (Nat.le_of_ble_eq_true rfl)) dL_law_650 ⟨Nat.le_of_ble_eq_true rfl, Nat.le_of_ble_eq_true rfl⟩) hS hP (fun r2 H locs w2r hP hS => ?_)
  have w2 : r2 = if (xs (0 + 1)) = 0 then mlf vg vb th (mnow th vn 1) 1 else -2 := w2r
  clear w2r
  have wm := w2
  refine W.lcmp hx hb dL_law_653 ?_
  refine lv_if_eq (tgt := 883) hx hb dL_law_654 (by decide) (fun c3 => ?_) (fun c3 => ?_)
  · skip
    exact law_tail hL6 C0 _ _ _ hS (lv_sub hl [0, 3] rfl)
  · exact absurd (lc_eq.mpr (wx.trans ((told_eq hone hmone).trans wm.symm))) c3
set_option maxHeartbeats 4000000 in
set_option maxRecDepth 100000 in
theorem law_c16 {p : Program} {l : Launch} {e : Env} {s : State} {m : MethodId} {below : List Frame} {meth : Method} {c : Code} {b L : Nat} {xs : Nat → Int32} (hL6 : L = 6) (C0 : lw_At p s m meth c b L xs) (D : va_G) (cI cJ cZ : ClassId) (hKN : KN D cI cJ cZ s) (x0 h4 a1 a2 a3 h3 b1 b2 h2 r1 h1 p4 p5 p6 hB l3 h5 lk1 m0 g1 g2 g3 g4 g5 g6 g7 g8 g9 g10 g11 g12 : Nat) (ug ub ur vg vb vr vn th : Nat → Int32) (hone : ∀ z, z < 9 → ug z = nI 1 ∧ ub z = nI 1 ∧ ur z = nI 1) (hmone : (∀ z, z < 9 → vg z = nI 1 ∧ vb z = nI 1 ∧ vr z = nI 1 ∧ vn z = -1) ∧ (∀ z, z < 9 → th z = nI (3 ^ z))) (hth : ∀ z, z < 9 → ¬ th z = 0) : ∀ (H : Heap) (locs : List Loc) (ls : Array Slot), va_P D vwCl [(x0, .inr (6, [.ref h4, .ref h3, .ref h2, .ref h1, .ref hB, .ref h5])), (h4, .inr (4, [.ref a1, .ref a2, .ref a3, .int (nI 1), .int (nI 0), .int (nI 0)])), (a1, .inl (cI, 9, .inl ug)), (a2, .inl (cI, 9, .inl ub)), (a3, .inl (cI, 9, .inl ur)), (h3, .inr (3, [.ref b1, .ref b2, .int (nI 1), .int (nI 0), .int (-1 : Int32)])), (b1, .inl (cJ, 320, .inr (.inl (fun _ => 0)))), (b2, .inl (cI, 9, .inl (fun _ => 0))), (h2, .inr (2, [.ref r1, .int (nI 0)])), (r1, .inl (cI, 9, .inl (fun _ => 0))), (h1, .inr (1, [.ref h4, .ref h3, .ref h2, .ref p4, .ref p5, .ref p6, .int (nI 0)])), (p4, .inl (cI, 9, .inl (fun _ => 0))), (p5, .inl (cJ, 0, .inr (.inl (fun _ => 0)))), (p6, .inl (cI, 0, .inl (fun _ => 0))), (hB, .inr (0, [.ref h4, .ref h3, .ref l3])), (l3, .inl (cI, 512, .inl (fun _ => 0))), (h5, .inr (5, [.ref lk1, .int (nI 0)])), (lk1, .inl (cI, 9, .inl (fun _ => 0))), (m0, .inr (7, [.int (nI 1), .ref g1, .ref g2, .ref g3, .int (nI 0), .ref g4, .int (-1 : Int32), .ref g5, .int (nI 0), .ref g6, .int (nI 0), .ref g7, .ref g8, .ref g9, .ref g10, .ref g11, .ref g12])), (g1, .inl (cI, 9, .inl vg)), (g2, .inl (cI, 9, .inl vb)), (g3, .inl (cI, 9, .inl vr)), (g4, .inl (cZ, 20480, .inl (fun _ => 0))), (g5, .inl (cI, 9, .inl vn)), (g6, .inl (cI, 9, .inl (fun _ => 0))), (g7, .inl (cI, 9, .inl (fun _ => 0))), (g8, .inl (cJ, 19683, .inr (.inl (fun _ => 0)))), (g9, .inl (cI, 19683, .inl (fun _ => 0))), (g10, .inl (cI, 19683, .inl (fun _ => 0))), (g11, .inl (cI, 19683, .inl (fun _ => 0))), (g12, .inl (cI, 9, .inl th))] H → va_D (fun q : Nat => s.heap.size ≤ q) [(x0, .inr (6, [.ref h4, .ref h3, .ref h2, .ref h1, .ref hB, .ref h5])), (h4, .inr (4, [.ref a1, .ref a2, .ref a3, .int (nI 1), .int (nI 0), .int (nI 0)])), (a1, .inl (cI, 9, .inl ug)), (a2, .inl (cI, 9, .inl ub)), (a3, .inl (cI, 9, .inl ur)), (h3, .inr (3, [.ref b1, .ref b2, .int (nI 1), .int (nI 0), .int (-1 : Int32)])), (b1, .inl (cJ, 320, .inr (.inl (fun _ => 0)))), (b2, .inl (cI, 9, .inl (fun _ => 0))), (h2, .inr (2, [.ref r1, .int (nI 0)])), (r1, .inl (cI, 9, .inl (fun _ => 0))), (h1, .inr (1, [.ref h4, .ref h3, .ref h2, .ref p4, .ref p5, .ref p6, .int (nI 0)])), (p4, .inl (cI, 9, .inl (fun _ => 0))), (p5, .inl (cJ, 0, .inr (.inl (fun _ => 0)))), (p6, .inl (cI, 0, .inl (fun _ => 0))), (hB, .inr (0, [.ref h4, .ref h3, .ref l3])), (l3, .inl (cI, 512, .inl (fun _ => 0))), (h5, .inr (5, [.ref lk1, .int (nI 0)])), (lk1, .inl (cI, 9, .inl (fun _ => 0))), (m0, .inr (7, [.int (nI 1), .ref g1, .ref g2, .ref g3, .int (nI 0), .ref g4, .int (-1 : Int32), .ref g5, .int (nI 0), .ref g6, .int (nI 0), .ref g7, .ref g8, .ref g9, .ref g10, .ref g11, .ref g12])), (g1, .inl (cI, 9, .inl vg)), (g2, .inl (cI, 9, .inl vb)), (g3, .inl (cI, 9, .inl vr)), (g4, .inl (cZ, 20480, .inl (fun _ => 0))), (g5, .inl (cI, 9, .inl vn)), (g6, .inl (cI, 9, .inl (fun _ => 0))), (g7, .inl (cI, 9, .inl (fun _ => 0))), (g8, .inl (cJ, 19683, .inr (.inl (fun _ => 0)))), (g9, .inl (cI, 19683, .inl (fun _ => 0))), (g10, .inl (cI, 19683, .inl (fun _ => 0))), (g11, .inl (cI, 19683, .inl (fun _ => 0))), (g12, .inl (cI, 9, .inl th))] → va_S (fun q : Nat => s.heap.size ≤ q) s.heap H locs → lv_has ls 4 [(3, .int (nI 0)), (2, .ref m0), (1, .ref x0), (0, .ref b)] → W p l e room_1 s m #[Value.ref b] below meth c H locs 31 100218 (lw_Z below #[Value.ref b] s) (F0 m 659 ls []) := by
  obtain ⟨hx, hb, hr, hml, hown, hts0, hX, hbl, hlocks, hgv⟩ := id C0
  have hts : ∀ w ∈ wsL_law, w.before #[Value.ref b] s = true := fun w h => hts0 w (wsL_law_in w h)
  have hown : s.vm.findClass RL = some m.cls := hown
  have hA : ∀ q : Nat, s.heap.size ≤ q → (fun q : Nat => s.heap.size ≤ q) q := fun _ h => h
  have hbA : ¬ (fun q : Nat => s.heap.size ≤ q) b := Nat.not_le.mpr hbl
  have hK := hKN.1
  intro H locs ls hP hD hS hl
  refine lv_aload_n hx hb dL_law_659 rfl (lv_at hl 2 rfl) ?_
  refine lv_aload_n hx hb dL_law_660 rfl (lv_at hl 3 rfl) ?_
  refine lv_iload_n hx hb dL_law_661 rfl (lv_at hl 0 rfl) ?_
  refine lv_iconst (v := nI 1) hx hb dL_law_662 (by decide) ?_
  refine lv_iadd hx hb dL_law_663 ?_
  refine cn_i (y := nI (0 + 1)) (nI_add 0 1) ?_
  refine va_sld hx hb hX hbl hbA hS (i := nI (0 + 1)) (vp_in_nI (by omega) (by omega)) dL_law_664 ?_
  refine cn_i (y := xs (0 + 1)) (congrArg xs (nI_clamp (by omega))) ?_
  refine lv_aload_n hx hb dL_law_665 rfl (lv_at hl 3 rfl) ?_
  refine lv_iload_n hx hb dL_law_666 rfl (lv_at hl 0 rfl) ?_
  refine lv_iconst (v := nI 2) hx hb dL_law_667 (by decide) ?_
  refine lv_iadd hx hb dL_law_668 ?_
  refine cn_i (y := nI (0 + 2)) (nI_add 0 2) ?_
  refine va_sld hx hb hX hbl hbA hS (i := nI (0 + 2)) (vp_in_nI (by omega) (by omega)) dL_law_669 ?_
  refine cn_i (y := xs (0 + 2)) (congrArg xs (nI_clamp (by omega))) ?_
  refine pu_l (va_runV (As := [.int (xs (0 + 1)), .int (xs (0 + 2))]) (rest := []) ⟨hx, hb, hml, hown, hts⟩ (c_X6_of l D cI cJ cZ x0 h4 h3 h2 h1 hB h5 a1 a2 a3 b1 b2 1 (nI 0) (nI 0) (nI 1) (xs (0 + 1)) (xs (0 + 2)) (by first | assumption | omega)) (cwV 2 hts gL_law_X6_of rfl rfl rfl (by decide +kernel) ⟨Nat.le_of_ble_eq_true rfl, Nat.le_of_ble_eq_true rfl⟩) ⟨pc_blind, va_recv hK hP (ci := 6) (q0 := 0) rfl rfl, fun U hU hW => ⟨rfl, by rw [hU]; exact hP.sub (ws' := [(x0, .inr (6, [.ref h4, .ref h3, .ref h2, .ref h1, .ref hB, .ref h5])), (h4, .inr (4, [.ref a1, .ref a2, .ref a3, .int (nI 1), .int (nI 0), .int (nI 0)])), (h3, .inr (3, [.ref b1, .ref b2, .int (nI 1), .int (nI 0), .int (-1 : Int32)]))]) [0, 1, 5] rfl, hKN.warm hW⟩⟩ rfl rfl hl.1 rfl (lv_room (Nat.le_of_ble_eq_true rfl)) dL_law_670 ⟨Nat.le_of_ble_eq_true rfl, Nat.le_of_ble_eq_true rfl⟩) hS hP (fun r1 H locs w1r hP hS => ?_)
  have w1 : r1 = -2 := w1r
  clear w1r
  obtain rfl : r1 = (-2 : Int64) := w1
  refine lv_aload_n hx hb dL_law_673 rfl (lv_at hl 1 rfl) ?_
  refine lv_aload_n hx hb dL_law_674 rfl (lv_at hl 3 rfl) ?_
  refine lv_iload_n hx hb dL_law_675 rfl (lv_at hl 0 rfl) ?_
  refine lv_iconst (v := nI 1) hx hb dL_law_676 (by decide) ?_
  refine lv_iadd hx hb dL_law_677 ?_
  refine cn_i (y := nI (0 + 1)) (nI_add 0 1) ?_
  refine va_sld hx hb hX hbl hbA hS (i := nI (0 + 1)) (vp_in_nI (by omega) (by omega)) dL_law_678 ?_
  refine cn_i (y := xs (0 + 1)) (congrArg xs (nI_clamp (by omega))) ?_
  refine lv_aload_n hx hb dL_law_679 rfl (lv_at hl 3 rfl) ?_
  refine lv_iload_n hx hb dL_law_680 rfl (lv_at hl 0 rfl) ?_
  refine lv_iconst (v := nI 2) hx hb dL_law_681 (by decide) ?_
  refine lv_iadd hx hb dL_law_682 ?_
  refine cn_i (y := nI (0 + 2)) (nI_add 0 2) ?_
  refine va_sld hx hb hX hbl hbA hS (i := nI (0 + 2)) (vp_in_nI (by omega) (by omega)) dL_law_683 ?_
  refine cn_i (y := xs (0 + 2)) (congrArg xs (nI_clamp (by omega))) ?_
  refine pu_l (va_runV (As := [.int (xs (0 + 1)), .int (xs (0 + 2))]) (rest := [.long (-2 : Int64)]) ⟨hx, hb, hml, hown, hts⟩ (c_X7_of l D cI cJ cZ m0 g1 g2 g3 g4 g5 g6 g7 g8 g9 g10 g11 g12 1 (nI 0) (nI 0) (nI 0) (xs (0 + 1)) (xs (0 + 2)) vn (by first | assumption | omega) (by first | assumption | omega)) (cwV 2 hts gL_law_X7_of rfl rfl rfl (by decide +kernel) ⟨Nat.le_of_ble_eq_true rfl, Nat.le_of_ble_eq_true rfl⟩) ⟨pc_blind, va_recv hK hP (ci := 7) (q0 := 18) rfl rfl, fun U hU hW => ⟨rfl, by rw [hU]; exact hP.sub (ws' := [(m0, .inr (7, [.int (nI 1), .ref g1, .ref g2, .ref g3, .int (nI 0), .ref g4, .int (-1 : Int32), .ref g5, .int (nI 0), .ref g6, .int (nI 0), .ref g7, .ref g8, .ref g9, .ref g10, .ref g11, .ref g12])), (g5, .inl (cI, 9, .inl vn))]) [18, 23] rfl, hKN.warm hW⟩⟩ rfl rfl hl.1 rfl (lv_room (Nat.le_of_ble_eq_true rfl)) dL_law_684 ⟨Nat.le_of_ble_eq_true rfl, Nat.le_of_ble_eq_true rfl⟩) hS hP (fun r2 H locs w2r hP hS => ?_)
  have w2 : r2 = -2 := w2r
  clear w2r
  obtain rfl : r2 = (-2 : Int64) := w2
  refine W.lcmp hx hb dL_law_687 ?_
  refine lv_if_eq (tgt := 883) hx hb dL_law_688 (by decide) (fun c3 => ?_) (fun c3 => ?_)
  · skip
    exact law_tail hL6 C0 _ _ _ hS (lv_sub hl [0, 3] rfl)
  · exact absurd (lc_eq.mpr rfl) c3
set_option maxHeartbeats 4000000 in
set_option maxRecDepth 100000 in
theorem law_c17 {p : Program} {l : Launch} {e : Env} {s : State} {m : MethodId} {below : List Frame} {meth : Method} {c : Code} {b L : Nat} {xs : Nat → Int32} (hL6 : L = 6) (C0 : lw_At p s m meth c b L xs) (D : va_G) (cI cJ cZ : ClassId) (hKN : KN D cI cJ cZ s) (x0 h4 a1 a2 a3 h3 b1 b2 h2 r1 h1 p4 p5 p6 hB l3 h5 lk1 m0 g1 g2 g3 g4 g5 g6 g7 g8 g9 g10 g11 g12 : Nat) (ug ub ur vg vb vr vn th : Nat → Int32) (hone : ∀ z, z < 9 → ug z = nI 1 ∧ ub z = nI 1 ∧ ur z = nI 1) (hmone : (∀ z, z < 9 → vg z = nI 1 ∧ vb z = nI 1 ∧ vr z = nI 1 ∧ vn z = -1) ∧ (∀ z, z < 9 → th z = nI (3 ^ z))) (hth : ∀ z, z < 9 → ¬ th z = 0) : ∀ (H : Heap) (locs : List Loc) (ls : Array Slot), va_P D vwCl [(x0, .inr (6, [.ref h4, .ref h3, .ref h2, .ref h1, .ref hB, .ref h5])), (h4, .inr (4, [.ref a1, .ref a2, .ref a3, .int (nI 1), .int (nI 0), .int (nI 0)])), (a1, .inl (cI, 9, .inl ug)), (a2, .inl (cI, 9, .inl ub)), (a3, .inl (cI, 9, .inl ur)), (h3, .inr (3, [.ref b1, .ref b2, .int (nI 1), .int (nI 0), .int (-1 : Int32)])), (b1, .inl (cJ, 320, .inr (.inl (fun _ => 0)))), (b2, .inl (cI, 9, .inl (fun _ => 0))), (h2, .inr (2, [.ref r1, .int (nI 0)])), (r1, .inl (cI, 9, .inl (fun _ => 0))), (h1, .inr (1, [.ref h4, .ref h3, .ref h2, .ref p4, .ref p5, .ref p6, .int (nI 0)])), (p4, .inl (cI, 9, .inl (fun _ => 0))), (p5, .inl (cJ, 0, .inr (.inl (fun _ => 0)))), (p6, .inl (cI, 0, .inl (fun _ => 0))), (hB, .inr (0, [.ref h4, .ref h3, .ref l3])), (l3, .inl (cI, 512, .inl (fun _ => 0))), (h5, .inr (5, [.ref lk1, .int (nI 0)])), (lk1, .inl (cI, 9, .inl (fun _ => 0))), (m0, .inr (7, [.int (nI 1), .ref g1, .ref g2, .ref g3, .int (nI 0), .ref g4, .int (-1 : Int32), .ref g5, .int (nI 0), .ref g6, .int (nI 0), .ref g7, .ref g8, .ref g9, .ref g10, .ref g11, .ref g12])), (g1, .inl (cI, 9, .inl vg)), (g2, .inl (cI, 9, .inl vb)), (g3, .inl (cI, 9, .inl vr)), (g4, .inl (cZ, 20480, .inl (fun _ => 0))), (g5, .inl (cI, 9, .inl vn)), (g6, .inl (cI, 9, .inl (fun _ => 0))), (g7, .inl (cI, 9, .inl (fun _ => 0))), (g8, .inl (cJ, 19683, .inr (.inl (fun _ => 0)))), (g9, .inl (cI, 19683, .inl (fun _ => 0))), (g10, .inl (cI, 19683, .inl (fun _ => 0))), (g11, .inl (cI, 19683, .inl (fun _ => 0))), (g12, .inl (cI, 9, .inl th))] H → va_D (fun q : Nat => s.heap.size ≤ q) [(x0, .inr (6, [.ref h4, .ref h3, .ref h2, .ref h1, .ref hB, .ref h5])), (h4, .inr (4, [.ref a1, .ref a2, .ref a3, .int (nI 1), .int (nI 0), .int (nI 0)])), (a1, .inl (cI, 9, .inl ug)), (a2, .inl (cI, 9, .inl ub)), (a3, .inl (cI, 9, .inl ur)), (h3, .inr (3, [.ref b1, .ref b2, .int (nI 1), .int (nI 0), .int (-1 : Int32)])), (b1, .inl (cJ, 320, .inr (.inl (fun _ => 0)))), (b2, .inl (cI, 9, .inl (fun _ => 0))), (h2, .inr (2, [.ref r1, .int (nI 0)])), (r1, .inl (cI, 9, .inl (fun _ => 0))), (h1, .inr (1, [.ref h4, .ref h3, .ref h2, .ref p4, .ref p5, .ref p6, .int (nI 0)])), (p4, .inl (cI, 9, .inl (fun _ => 0))), (p5, .inl (cJ, 0, .inr (.inl (fun _ => 0)))), (p6, .inl (cI, 0, .inl (fun _ => 0))), (hB, .inr (0, [.ref h4, .ref h3, .ref l3])), (l3, .inl (cI, 512, .inl (fun _ => 0))), (h5, .inr (5, [.ref lk1, .int (nI 0)])), (lk1, .inl (cI, 9, .inl (fun _ => 0))), (m0, .inr (7, [.int (nI 1), .ref g1, .ref g2, .ref g3, .int (nI 0), .ref g4, .int (-1 : Int32), .ref g5, .int (nI 0), .ref g6, .int (nI 0), .ref g7, .ref g8, .ref g9, .ref g10, .ref g11, .ref g12])), (g1, .inl (cI, 9, .inl vg)), (g2, .inl (cI, 9, .inl vb)), (g3, .inl (cI, 9, .inl vr)), (g4, .inl (cZ, 20480, .inl (fun _ => 0))), (g5, .inl (cI, 9, .inl vn)), (g6, .inl (cI, 9, .inl (fun _ => 0))), (g7, .inl (cI, 9, .inl (fun _ => 0))), (g8, .inl (cJ, 19683, .inr (.inl (fun _ => 0)))), (g9, .inl (cI, 19683, .inl (fun _ => 0))), (g10, .inl (cI, 19683, .inl (fun _ => 0))), (g11, .inl (cI, 19683, .inl (fun _ => 0))), (g12, .inl (cI, 9, .inl th))] → va_S (fun q : Nat => s.heap.size ≤ q) s.heap H locs → lv_has ls 4 [(3, .int (nI 0)), (2, .ref m0), (1, .ref x0), (0, .ref b)] → W p l e room_1 s m #[Value.ref b] below meth c H locs 31 100218 (lw_Z below #[Value.ref b] s) (F0 m 693 ls []) := by
  obtain ⟨hx, hb, hr, hml, hown, hts0, hX, hbl, hlocks, hgv⟩ := id C0
  have hts : ∀ w ∈ wsL_law, w.before #[Value.ref b] s = true := fun w h => hts0 w (wsL_law_in w h)
  have hown : s.vm.findClass RL = some m.cls := hown
  have hA : ∀ q : Nat, s.heap.size ≤ q → (fun q : Nat => s.heap.size ≤ q) q := fun _ h => h
  have hbA : ¬ (fun q : Nat => s.heap.size ≤ q) b := Nat.not_le.mpr hbl
  have hK := hKN.1
  intro H locs ls hP hD hS hl
  refine lv_aload_n hx hb dL_law_693 rfl (lv_at hl 2 rfl) ?_
  refine lv_aload_n hx hb dL_law_694 rfl (lv_at hl 3 rfl) ?_
  refine lv_iload_n hx hb dL_law_695 rfl (lv_at hl 0 rfl) ?_
  refine lv_iconst (v := nI 1) hx hb dL_law_696 (by decide) ?_
  refine lv_iadd hx hb dL_law_697 ?_
  refine cn_i (y := nI (0 + 1)) (nI_add 0 1) ?_
  refine va_sld hx hb hX hbl hbA hS (i := nI (0 + 1)) (vp_in_nI (by omega) (by omega)) dL_law_698 ?_
  refine cn_i (y := xs (0 + 1)) (congrArg xs (nI_clamp (by omega))) ?_
  refine mx_i (wc := [(x0, .inr (6, [.ref h4, .ref h3, .ref h2, .ref h1, .ref hB, .ref h5])), (h4, .inr (4, [.ref a1, .ref a2, .ref a3, .int (nI 1), .int (nI 0), .int (nI 0)])), (h2, .inr (2, [.ref r1, .int (nI 0)])), (r1, .inl (cI, 9, .inl (fun _ => 0)))]) (wr := [(a1, .inl (cI, 9, .inl ug)), (a2, .inl (cI, 9, .inl ub)), (a3, .inl (cI, 9, .inl ur)), (h3, .inr (3, [.ref b1, .ref b2, .int (nI 1), .int (nI 0), .int (-1 : Int32)])), (b1, .inl (cJ, 320, .inr (.inl (fun _ => 0)))), (b2, .inl (cI, 9, .inl (fun _ => 0))), (h1, .inr (1, [.ref h4, .ref h3, .ref h2, .ref p4, .ref p5, .ref p6, .int (nI 0)])), (p4, .inl (cI, 9, .inl (fun _ => 0))), (p5, .inl (cJ, 0, .inr (.inl (fun _ => 0)))), (p6, .inl (cI, 0, .inl (fun _ => 0))), (hB, .inr (0, [.ref h4, .ref h3, .ref l3])), (l3, .inl (cI, 512, .inl (fun _ => 0))), (h5, .inr (5, [.ref lk1, .int (nI 0)])), (lk1, .inl (cI, 9, .inl (fun _ => 0))), (m0, .inr (7, [.int (nI 1), .ref g1, .ref g2, .ref g3, .int (nI 0), .ref g4, .int (-1 : Int32), .ref g5, .int (nI 0), .ref g6, .int (nI 0), .ref g7, .ref g8, .ref g9, .ref g10, .ref g11, .ref g12])), (g1, .inl (cI, 9, .inl vg)), (g2, .inl (cI, 9, .inl vb)), (g3, .inl (cI, 9, .inl vr)), (g4, .inl (cZ, 20480, .inl (fun _ => 0))), (g5, .inl (cI, 9, .inl vn)), (g6, .inl (cI, 9, .inl (fun _ => 0))), (g7, .inl (cI, 9, .inl (fun _ => 0))), (g8, .inl (cJ, 19683, .inr (.inl (fun _ => 0)))), (g9, .inl (cI, 19683, .inl (fun _ => 0))), (g10, .inl (cI, 19683, .inl (fun _ => 0))), (g11, .inl (cI, 19683, .inl (fun _ => 0))), (g12, .inl (cI, 9, .inl th))]) (va_runV (As := [.int (xs (0 + 1))]) (rest := []) ⟨hx, hb, hml, hown, hts⟩ (c_X6_order l D cI cJ cZ x0 h4 h3 h2 h1 hB h5 a1 a2 a3 r1 1 0 (nI 0) (nI 0) (xs (0 + 1)) (fun _ => 0) (by first | assumption | omega) (by first | assumption | omega)) (cwV 1 hts gL_law_X6_order rfl rfl rfl (by decide +kernel) ⟨Nat.le_of_ble_eq_true rfl, Nat.le_of_ble_eq_true rfl⟩) ⟨pm_blind, va_recv hK hP (ci := 6) (q0 := 0) rfl rfl, fun U hU hW => ⟨rfl, by rw [hU]; exact hP.sub (ws' := [(x0, .inr (6, [.ref h4, .ref h3, .ref h2, .ref h1, .ref hB, .ref h5])), (h4, .inr (4, [.ref a1, .ref a2, .ref a3, .int (nI 1), .int (nI 0), .int (nI 0)])), (h2, .inr (2, [.ref r1, .int (nI 0)])), (r1, .inl (cI, 9, .inl (fun _ => 0)))]) [0, 1, 8, 9] rfl, hKN.warm hW, (hD.sub (ws' := [(x0, .inr (6, [.ref h4, .ref h3, .ref h2, .ref h1, .ref hB, .ref h5])), (h4, .inr (4, [.ref a1, .ref a2, .ref a3, .int (nI 1), .int (nI 0), .int (nI 0)])), (h2, .inr (2, [.ref r1, .int (nI 0)])), (r1, .inl (cI, 9, .inl (fun _ => 0)))]) [0, 1, 8, 9] (by decide) rfl).weaken (fun _ _ _ _ => trivial)⟩⟩ rfl rfl hl.1 rfl (lv_room (Nat.le_of_ble_eq_true rfl)) dL_law_699 ⟨Nat.le_of_ble_eq_true rfl, Nat.le_of_ble_eq_true rfl⟩) hS hP hD [0, 1, 8, 9] [2, 3, 4, 5, 6, 7, 10, 11, 12, 13, 14, 15, 16, 17, 18, 19, 20, 21, 22, 23, 24, 25, 26, 27, 28, 29, 30] rfl rfl rfl (by decide) (by decide) (fun r1 u1 H locs w1r hP hD hS => ?_)
  have w1 : R1 r1 (nI (0 + 1)) ((0 ≤ (xs (0 + 1)).toInt ∧ (xs (0 + 1)).toInt < 1) ∧ ¬ ∃ z, z < 0 ∧ (fun _ => 0) z = (xs (0 + 1))) := w1r
  clear w1r
  rcases w1 with ⟨rfl, w1⟩ | ⟨rfl, w1⟩
  · skip
    refine lv_aload_n hx hb dL_law_702 rfl (lv_at hl 1 rfl) ?_
    refine lv_aload_n hx hb dL_law_703 rfl (lv_at hl 3 rfl) ?_
    refine lv_iload_n hx hb dL_law_704 rfl (lv_at hl 0 rfl) ?_
    refine lv_iconst (v := nI 1) hx hb dL_law_705 (by decide) ?_
    refine lv_iadd hx hb dL_law_706 ?_
    refine cn_i (y := nI (0 + 1)) (nI_add 0 1) ?_
    refine va_sld hx hb hX hbl hbA hS (i := nI (0 + 1)) (vp_in_nI (by omega) (by omega)) dL_law_707 ?_
    refine cn_i (y := xs (0 + 1)) (congrArg xs (nI_clamp (by omega))) ?_
    refine mx_i (wc := [(m0, .inr (7, [.int (nI 1), .ref g1, .ref g2, .ref g3, .int (nI 0), .ref g4, .int (-1 : Int32), .ref g5, .int (nI 0), .ref g6, .int (nI 0), .ref g7, .ref g8, .ref g9, .ref g10, .ref g11, .ref g12])), (g6, .inl (cI, 9, .inl (fun _ => 0)))]) (wr := [(a1, .inl (cI, 9, .inl ug)), (a2, .inl (cI, 9, .inl ub)), (a3, .inl (cI, 9, .inl ur)), (h3, .inr (3, [.ref b1, .ref b2, .int (nI 1), .int (nI 0), .int (-1 : Int32)])), (b1, .inl (cJ, 320, .inr (.inl (fun _ => 0)))), (b2, .inl (cI, 9, .inl (fun _ => 0))), (h1, .inr (1, [.ref h4, .ref h3, .ref h2, .ref p4, .ref p5, .ref p6, .int (nI 0)])), (p4, .inl (cI, 9, .inl (fun _ => 0))), (p5, .inl (cJ, 0, .inr (.inl (fun _ => 0)))), (p6, .inl (cI, 0, .inl (fun _ => 0))), (hB, .inr (0, [.ref h4, .ref h3, .ref l3])), (l3, .inl (cI, 512, .inl (fun _ => 0))), (h5, .inr (5, [.ref lk1, .int (nI 0)])), (lk1, .inl (cI, 9, .inl (fun _ => 0))), (g1, .inl (cI, 9, .inl vg)), (g2, .inl (cI, 9, .inl vb)), (g3, .inl (cI, 9, .inl vr)), (g4, .inl (cZ, 20480, .inl (fun _ => 0))), (g5, .inl (cI, 9, .inl vn)), (g7, .inl (cI, 9, .inl (fun _ => 0))), (g8, .inl (cJ, 19683, .inr (.inl (fun _ => 0)))), (g9, .inl (cI, 19683, .inl (fun _ => 0))), (g10, .inl (cI, 19683, .inl (fun _ => 0))), (g11, .inl (cI, 19683, .inl (fun _ => 0))), (g12, .inl (cI, 9, .inl th))]) (va_runV (As := [.int (xs (0 + 1))]) (rest := [.int (nI 1)]) ⟨hx, hb, hml, hown, hts⟩ (c_X7_order l D cI cJ cZ m0 g1 g2 g3 g4 g5 g6 g7 g8 g9 g10 g11 g12 1 0 (nI 0) (-1 : Int32) (nI 0) (xs (0 + 1)) (fun _ => 0) (by first | assumption | omega) (by first | assumption | omega) (by first | assumption | omega)) (cwV 1 hts gL_law_X7_order rfl rfl rfl (by decide +kernel) ⟨Nat.le_of_ble_eq_true rfl, Nat.le_of_ble_eq_true rfl⟩) ⟨pm_blind, va_recv hK hP (ci := 7) (q0 := 14) rfl rfl, fun U hU hW => ⟨rfl, by rw [hU]; exact hP.sub (ws' := [(m0, .inr (7, [.int (nI 1), .ref g1, .ref g2, .ref g3, .int (nI 0), .ref g4, .int (-1 : Int32), .ref g5, .int (nI 0), .ref g6, .int (nI 0), .ref g7, .ref g8, .ref g9, .ref g10, .ref g11, .ref g12])), (g6, .inl (cI, 9, .inl (fun _ => 0)))]) [14, 20] rfl, hKN.warm hW, (hD.sub (ws' := [(m0, .inr (7, [.int (nI 1), .ref g1, .ref g2, .ref g3, .int (nI 0), .ref g4, .int (-1 : Int32), .ref g5, .int (nI 0), .ref g6, .int (nI 0), .ref g7, .ref g8, .ref g9, .ref g10, .ref g11, .ref g12])), (g6, .inl (cI, 9, .inl (fun _ => 0)))]) [14, 20] (by decide) rfl).weaken (fun _ _ _ _ => trivial)⟩⟩ rfl rfl hl.1 rfl (lv_room (Nat.le_of_ble_eq_true rfl)) dL_law_708 ⟨Nat.le_of_ble_eq_true rfl, Nat.le_of_ble_eq_true rfl⟩) hS hP hD [14, 20] [0, 1, 2, 3, 4, 5, 6, 7, 8, 9, 10, 11, 12, 13, 15, 16, 17, 18, 19, 21, 22, 23, 24, 25, 26] rfl rfl rfl (by decide) (by decide) (fun r2 u2 H locs w2r hP hD hS => ?_)
    have w2 : R1 r2 (nI (0 + 1)) ((0 ≤ (xs (0 + 1)).toInt ∧ (xs (0 + 1)).toInt < 1) ∧ ¬ ∃ z, z < 0 ∧ (fun _ => 0) z = (xs (0 + 1))) := w2r
    clear w2r
    rcases w2 with ⟨rfl, w2⟩ | ⟨rfl, w2⟩
    · skip
      refine lv_icmp_eq (tgt := 883) hx hb dL_law_711 (by decide) (fun c3 => ?_) (fun c3 => ?_)
      · skip
        exact law_tail hL6 C0 _ _ _ hS (lv_sub hl [0, 3] rfl)
      · exact absurd c3 (by first | decide | exact nz_lt (by omega) | exact fun h => h (nz_ge (by omega)))
    · skip
      refine lv_icmp_eq (tgt := 883) hx hb dL_law_711 (by decide) (fun c4 => ?_) (fun c4 => ?_)
      · exact absurd c4 (by first | decide | exact nz_lt (by omega) | exact fun h => h (nz_ge (by omega)))
      · skip
        refine lv_iconst (v := nI 0) hx hb dL_law_714 (by decide) ?_
        exact (by first | exact absurd w1 w2 | exact absurd w2 w1 | exact w1.elim | exact w2.elim)
  · skip
    refine lv_aload_n hx hb dL_law_702 rfl (lv_at hl 1 rfl) ?_
    refine lv_aload_n hx hb dL_law_703 rfl (lv_at hl 3 rfl) ?_
    refine lv_iload_n hx hb dL_law_704 rfl (lv_at hl 0 rfl) ?_
    refine lv_iconst (v := nI 1) hx hb dL_law_705 (by decide) ?_
    refine lv_iadd hx hb dL_law_706 ?_
    refine cn_i (y := nI (0 + 1)) (nI_add 0 1) ?_
    refine va_sld hx hb hX hbl hbA hS (i := nI (0 + 1)) (vp_in_nI (by omega) (by omega)) dL_law_707 ?_
    refine cn_i (y := xs (0 + 1)) (congrArg xs (nI_clamp (by omega))) ?_
    refine mx_i (wc := [(m0, .inr (7, [.int (nI 1), .ref g1, .ref g2, .ref g3, .int (nI 0), .ref g4, .int (-1 : Int32), .ref g5, .int (nI 0), .ref g6, .int (nI 0), .ref g7, .ref g8, .ref g9, .ref g10, .ref g11, .ref g12])), (g6, .inl (cI, 9, .inl (fun _ => 0)))]) (wr := [(a1, .inl (cI, 9, .inl ug)), (a2, .inl (cI, 9, .inl ub)), (a3, .inl (cI, 9, .inl ur)), (h3, .inr (3, [.ref b1, .ref b2, .int (nI 1), .int (nI 0), .int (-1 : Int32)])), (b1, .inl (cJ, 320, .inr (.inl (fun _ => 0)))), (b2, .inl (cI, 9, .inl (fun _ => 0))), (h1, .inr (1, [.ref h4, .ref h3, .ref h2, .ref p4, .ref p5, .ref p6, .int (nI 0)])), (p4, .inl (cI, 9, .inl (fun _ => 0))), (p5, .inl (cJ, 0, .inr (.inl (fun _ => 0)))), (p6, .inl (cI, 0, .inl (fun _ => 0))), (hB, .inr (0, [.ref h4, .ref h3, .ref l3])), (l3, .inl (cI, 512, .inl (fun _ => 0))), (h5, .inr (5, [.ref lk1, .int (nI 0)])), (lk1, .inl (cI, 9, .inl (fun _ => 0))), (g1, .inl (cI, 9, .inl vg)), (g2, .inl (cI, 9, .inl vb)), (g3, .inl (cI, 9, .inl vr)), (g4, .inl (cZ, 20480, .inl (fun _ => 0))), (g5, .inl (cI, 9, .inl vn)), (g7, .inl (cI, 9, .inl (fun _ => 0))), (g8, .inl (cJ, 19683, .inr (.inl (fun _ => 0)))), (g9, .inl (cI, 19683, .inl (fun _ => 0))), (g10, .inl (cI, 19683, .inl (fun _ => 0))), (g11, .inl (cI, 19683, .inl (fun _ => 0))), (g12, .inl (cI, 9, .inl th))]) (va_runV (As := [.int (xs (0 + 1))]) (rest := [.int (-1 : Int32)]) ⟨hx, hb, hml, hown, hts⟩ (c_X7_order l D cI cJ cZ m0 g1 g2 g3 g4 g5 g6 g7 g8 g9 g10 g11 g12 1 0 (nI 0) (-1 : Int32) (nI 0) (xs (0 + 1)) (fun _ => 0) (by first | assumption | omega) (by first | assumption | omega) (by first | assumption | omega)) (cwV 1 hts gL_law_X7_order rfl rfl rfl (by decide +kernel) ⟨Nat.le_of_ble_eq_true rfl, Nat.le_of_ble_eq_true rfl⟩) ⟨pm_blind, va_recv hK hP (ci := 7) (q0 := 14) rfl rfl, fun U hU hW => ⟨rfl, by rw [hU]; exact hP.sub (ws' := [(m0, .inr (7, [.int (nI 1), .ref g1, .ref g2, .ref g3, .int (nI 0), .ref g4, .int (-1 : Int32), .ref g5, .int (nI 0), .ref g6, .int (nI 0), .ref g7, .ref g8, .ref g9, .ref g10, .ref g11, .ref g12])), (g6, .inl (cI, 9, .inl (fun _ => 0)))]) [14, 20] rfl, hKN.warm hW, (hD.sub (ws' := [(m0, .inr (7, [.int (nI 1), .ref g1, .ref g2, .ref g3, .int (nI 0), .ref g4, .int (-1 : Int32), .ref g5, .int (nI 0), .ref g6, .int (nI 0), .ref g7, .ref g8, .ref g9, .ref g10, .ref g11, .ref g12])), (g6, .inl (cI, 9, .inl (fun _ => 0)))]) [14, 20] (by decide) rfl).weaken (fun _ _ _ _ => trivial)⟩⟩ rfl rfl hl.1 rfl (lv_room (Nat.le_of_ble_eq_true rfl)) dL_law_708 ⟨Nat.le_of_ble_eq_true rfl, Nat.le_of_ble_eq_true rfl⟩) hS hP hD [14, 20] [0, 1, 2, 3, 4, 5, 6, 7, 8, 9, 10, 11, 12, 13, 15, 16, 17, 18, 19, 21, 22, 23, 24, 25, 26] rfl rfl rfl (by decide) (by decide) (fun r5 u5 H locs w5r hP hD hS => ?_)
    have w5 : R1 r5 (nI (0 + 1)) ((0 ≤ (xs (0 + 1)).toInt ∧ (xs (0 + 1)).toInt < 1) ∧ ¬ ∃ z, z < 0 ∧ (fun _ => 0) z = (xs (0 + 1))) := w5r
    clear w5r
    rcases w5 with ⟨rfl, w5⟩ | ⟨rfl, w5⟩
    · skip
      refine lv_icmp_eq (tgt := 883) hx hb dL_law_711 (by decide) (fun c6 => ?_) (fun c6 => ?_)
      · exact absurd c6 (by first | decide | exact nz_lt (by omega) | exact fun h => h (nz_ge (by omega)))
      · skip
        refine lv_iconst (v := nI 0) hx hb dL_law_714 (by decide) ?_
        exact (by first | exact absurd w1 w5 | exact absurd w5 w1 | exact w1.elim | exact w5.elim)
    · skip
      refine lv_icmp_eq (tgt := 883) hx hb dL_law_711 (by decide) (fun c7 => ?_) (fun c7 => ?_)
      · skip
        exact law_tail hL6 C0 _ _ _ hS (lv_sub hl [0, 3] rfl)
      · exact absurd c7 (by first | decide | exact nz_lt (by omega) | exact fun h => h (nz_ge (by omega)))
set_option maxHeartbeats 4000000 in
set_option maxRecDepth 100000 in
theorem law_c18 {p : Program} {l : Launch} {e : Env} {s : State} {m : MethodId} {below : List Frame} {meth : Method} {c : Code} {b L : Nat} {xs : Nat → Int32} (hL6 : L = 6) (C0 : lw_At p s m meth c b L xs) (D : va_G) (cI cJ cZ : ClassId) (hKN : KN D cI cJ cZ s) (x0 h4 a1 a2 a3 h3 b1 b2 h2 r1 h1 p4 p5 p6 hB l3 h5 lk1 m0 g1 g2 g3 g4 g5 g6 g7 g8 g9 g10 g11 g12 : Nat) (ug ub ur vg vb vr vn th : Nat → Int32) (hone : ∀ z, z < 9 → ug z = nI 1 ∧ ub z = nI 1 ∧ ur z = nI 1) (hmone : (∀ z, z < 9 → vg z = nI 1 ∧ vb z = nI 1 ∧ vr z = nI 1 ∧ vn z = -1) ∧ (∀ z, z < 9 → th z = nI (3 ^ z))) (hth : ∀ z, z < 9 → ¬ th z = 0) : ∀ (H : Heap) (locs : List Loc) (ls : Array Slot), va_P D vwCl [(x0, .inr (6, [.ref h4, .ref h3, .ref h2, .ref h1, .ref hB, .ref h5])), (h4, .inr (4, [.ref a1, .ref a2, .ref a3, .int (nI 1), .int (nI 0), .int (nI 0)])), (a1, .inl (cI, 9, .inl ug)), (a2, .inl (cI, 9, .inl ub)), (a3, .inl (cI, 9, .inl ur)), (h3, .inr (3, [.ref b1, .ref b2, .int (nI 1), .int (nI 0), .int (-1 : Int32)])), (b1, .inl (cJ, 320, .inr (.inl (fun _ => 0)))), (b2, .inl (cI, 9, .inl (fun _ => 0))), (h2, .inr (2, [.ref r1, .int (nI 0)])), (r1, .inl (cI, 9, .inl (fun _ => 0))), (h1, .inr (1, [.ref h4, .ref h3, .ref h2, .ref p4, .ref p5, .ref p6, .int (nI 0)])), (p4, .inl (cI, 9, .inl (fun _ => 0))), (p5, .inl (cJ, 0, .inr (.inl (fun _ => 0)))), (p6, .inl (cI, 0, .inl (fun _ => 0))), (hB, .inr (0, [.ref h4, .ref h3, .ref l3])), (l3, .inl (cI, 512, .inl (fun _ => 0))), (h5, .inr (5, [.ref lk1, .int (nI 0)])), (lk1, .inl (cI, 9, .inl (fun _ => 0))), (m0, .inr (7, [.int (nI 1), .ref g1, .ref g2, .ref g3, .int (nI 0), .ref g4, .int (-1 : Int32), .ref g5, .int (nI 0), .ref g6, .int (nI 0), .ref g7, .ref g8, .ref g9, .ref g10, .ref g11, .ref g12])), (g1, .inl (cI, 9, .inl vg)), (g2, .inl (cI, 9, .inl vb)), (g3, .inl (cI, 9, .inl vr)), (g4, .inl (cZ, 20480, .inl (fun _ => 0))), (g5, .inl (cI, 9, .inl vn)), (g6, .inl (cI, 9, .inl (fun _ => 0))), (g7, .inl (cI, 9, .inl (fun _ => 0))), (g8, .inl (cJ, 19683, .inr (.inl (fun _ => 0)))), (g9, .inl (cI, 19683, .inl (fun _ => 0))), (g10, .inl (cI, 19683, .inl (fun _ => 0))), (g11, .inl (cI, 19683, .inl (fun _ => 0))), (g12, .inl (cI, 9, .inl th))] H → va_D (fun q : Nat => s.heap.size ≤ q) [(x0, .inr (6, [.ref h4, .ref h3, .ref h2, .ref h1, .ref hB, .ref h5])), (h4, .inr (4, [.ref a1, .ref a2, .ref a3, .int (nI 1), .int (nI 0), .int (nI 0)])), (a1, .inl (cI, 9, .inl ug)), (a2, .inl (cI, 9, .inl ub)), (a3, .inl (cI, 9, .inl ur)), (h3, .inr (3, [.ref b1, .ref b2, .int (nI 1), .int (nI 0), .int (-1 : Int32)])), (b1, .inl (cJ, 320, .inr (.inl (fun _ => 0)))), (b2, .inl (cI, 9, .inl (fun _ => 0))), (h2, .inr (2, [.ref r1, .int (nI 0)])), (r1, .inl (cI, 9, .inl (fun _ => 0))), (h1, .inr (1, [.ref h4, .ref h3, .ref h2, .ref p4, .ref p5, .ref p6, .int (nI 0)])), (p4, .inl (cI, 9, .inl (fun _ => 0))), (p5, .inl (cJ, 0, .inr (.inl (fun _ => 0)))), (p6, .inl (cI, 0, .inl (fun _ => 0))), (hB, .inr (0, [.ref h4, .ref h3, .ref l3])), (l3, .inl (cI, 512, .inl (fun _ => 0))), (h5, .inr (5, [.ref lk1, .int (nI 0)])), (lk1, .inl (cI, 9, .inl (fun _ => 0))), (m0, .inr (7, [.int (nI 1), .ref g1, .ref g2, .ref g3, .int (nI 0), .ref g4, .int (-1 : Int32), .ref g5, .int (nI 0), .ref g6, .int (nI 0), .ref g7, .ref g8, .ref g9, .ref g10, .ref g11, .ref g12])), (g1, .inl (cI, 9, .inl vg)), (g2, .inl (cI, 9, .inl vb)), (g3, .inl (cI, 9, .inl vr)), (g4, .inl (cZ, 20480, .inl (fun _ => 0))), (g5, .inl (cI, 9, .inl vn)), (g6, .inl (cI, 9, .inl (fun _ => 0))), (g7, .inl (cI, 9, .inl (fun _ => 0))), (g8, .inl (cJ, 19683, .inr (.inl (fun _ => 0)))), (g9, .inl (cI, 19683, .inl (fun _ => 0))), (g10, .inl (cI, 19683, .inl (fun _ => 0))), (g11, .inl (cI, 19683, .inl (fun _ => 0))), (g12, .inl (cI, 9, .inl th))] → va_S (fun q : Nat => s.heap.size ≤ q) s.heap H locs → lv_has ls 4 [(3, .int (nI 0)), (2, .ref m0), (1, .ref x0), (0, .ref b)] → W p l e room_1 s m #[Value.ref b] below meth c H locs 31 100218 (lw_Z below #[Value.ref b] s) (F0 m 716 ls []) := by
  obtain ⟨hx, hb, hr, hml, hown, hts0, hX, hbl, hlocks, hgv⟩ := id C0
  have hts : ∀ w ∈ wsL_law, w.before #[Value.ref b] s = true := fun w h => hts0 w (wsL_law_in w h)
  have hown : s.vm.findClass RL = some m.cls := hown
  have hA : ∀ q : Nat, s.heap.size ≤ q → (fun q : Nat => s.heap.size ≤ q) q := fun _ h => h
  have hbA : ¬ (fun q : Nat => s.heap.size ≤ q) b := Nat.not_le.mpr hbl
  have hK := hKN.1
  intro H locs ls hP hD hS hl
  refine lv_aload_n hx hb dL_law_716 rfl (lv_at hl 2 rfl) ?_
  refine lv_aload_n hx hb dL_law_717 rfl (lv_at hl 3 rfl) ?_
  refine lv_iload_n hx hb dL_law_718 rfl (lv_at hl 0 rfl) ?_
  refine lv_iconst (v := nI 1) hx hb dL_law_719 (by decide) ?_
  refine lv_iadd hx hb dL_law_720 ?_
  refine cn_i (y := nI (0 + 1)) (nI_add 0 1) ?_
  refine va_sld hx hb hX hbl hbA hS (i := nI (0 + 1)) (vp_in_nI (by omega) (by omega)) dL_law_721 ?_
  refine cn_i (y := xs (0 + 1)) (congrArg xs (nI_clamp (by omega))) ?_
  refine lv_if_eq (tgt := 729) hx hb dL_law_722 (by decide) (fun c1 => ?_) (fun c1 => ?_)
  · skip
    refine lv_iconst (v := nI 0) hx hb dL_law_729 (by decide) ?_
    refine lv_aload_n hx hb dL_law_730 rfl (lv_at hl 3 rfl) ?_
    refine lv_iload_n hx hb dL_law_731 rfl (lv_at hl 0 rfl) ?_
    refine lv_iconst (v := nI 2) hx hb dL_law_732 (by decide) ?_
    refine lv_iadd hx hb dL_law_733 ?_
    refine cn_i (y := nI (0 + 2)) (nI_add 0 2) ?_
    refine va_sld hx hb hX hbl hbA hS (i := nI (0 + 2)) (vp_in_nI (by omega) (by omega)) dL_law_734 ?_
    refine cn_i (y := xs (0 + 2)) (congrArg xs (nI_clamp (by omega))) ?_
    refine lv_if_eq (tgt := 742) hx hb dL_law_735 (by decide) (fun c2 => ?_) (fun c2 => ?_)
    · skip
      refine lv_iconst (v := nI 0) hx hb dL_law_742 (by decide) ?_
      refine mx_i (wc := [(x0, .inr (6, [.ref h4, .ref h3, .ref h2, .ref h1, .ref hB, .ref h5])), (h4, .inr (4, [.ref a1, .ref a2, .ref a3, .int (nI 1), .int (nI 0), .int (nI 0)])), (a1, .inl (cI, 9, .inl ug)), (a2, .inl (cI, 9, .inl ub)), (a3, .inl (cI, 9, .inl ur)), (h2, .inr (2, [.ref r1, .int (nI 0)])), (r1, .inl (cI, 9, .inl (fun _ => 0)))]) (wr := [(h3, .inr (3, [.ref b1, .ref b2, .int (nI 1), .int (nI 0), .int (-1 : Int32)])), (b1, .inl (cJ, 320, .inr (.inl (fun _ => 0)))), (b2, .inl (cI, 9, .inl (fun _ => 0))), (h1, .inr (1, [.ref h4, .ref h3, .ref h2, .ref p4, .ref p5, .ref p6, .int (nI 0)])), (p4, .inl (cI, 9, .inl (fun _ => 0))), (p5, .inl (cJ, 0, .inr (.inl (fun _ => 0)))), (p6, .inl (cI, 0, .inl (fun _ => 0))), (hB, .inr (0, [.ref h4, .ref h3, .ref l3])), (l3, .inl (cI, 512, .inl (fun _ => 0))), (h5, .inr (5, [.ref lk1, .int (nI 0)])), (lk1, .inl (cI, 9, .inl (fun _ => 0))), (m0, .inr (7, [.int (nI 1), .ref g1, .ref g2, .ref g3, .int (nI 0), .ref g4, .int (-1 : Int32), .ref g5, .int (nI 0), .ref g6, .int (nI 0), .ref g7, .ref g8, .ref g9, .ref g10, .ref g11, .ref g12])), (g1, .inl (cI, 9, .inl vg)), (g2, .inl (cI, 9, .inl vb)), (g3, .inl (cI, 9, .inl vr)), (g4, .inl (cZ, 20480, .inl (fun _ => 0))), (g5, .inl (cI, 9, .inl vn)), (g6, .inl (cI, 9, .inl (fun _ => 0))), (g7, .inl (cI, 9, .inl (fun _ => 0))), (g8, .inl (cJ, 19683, .inr (.inl (fun _ => 0)))), (g9, .inl (cI, 19683, .inl (fun _ => 0))), (g10, .inl (cI, 19683, .inl (fun _ => 0))), (g11, .inl (cI, 19683, .inl (fun _ => 0))), (g12, .inl (cI, 9, .inl th))]) (va_runV (As := [.int (nI 0), .int (nI 0)]) (rest := []) ⟨hx, hb, hml, hown, hts⟩ (c_X6_ratios l D cI cJ cZ x0 h4 h3 h2 h1 hB h5 a1 a2 a3 r1 1 (nI 0) (nI 0) (nI 0) (nI 0) (nI 0) (fun _ => 0) ug ub ur (by first | assumption | omega)) (cwV 2 hts gL_law_X6_ratios rfl rfl rfl (by decide +kernel) ⟨Nat.le_of_ble_eq_true rfl, Nat.le_of_ble_eq_true rfl⟩) ⟨pm_blind, va_recv hK hP (ci := 6) (q0 := 0) rfl rfl, fun U hU hW => ⟨rfl, by rw [hU]; exact hP.sub (ws' := [(x0, .inr (6, [.ref h4, .ref h3, .ref h2, .ref h1, .ref hB, .ref h5])), (h4, .inr (4, [.ref a1, .ref a2, .ref a3, .int (nI 1), .int (nI 0), .int (nI 0)])), (a1, .inl (cI, 9, .inl ug)), (a2, .inl (cI, 9, .inl ub)), (a3, .inl (cI, 9, .inl ur)), (h2, .inr (2, [.ref r1, .int (nI 0)])), (r1, .inl (cI, 9, .inl (fun _ => 0)))]) [0, 1, 2, 3, 4, 8, 9] rfl, hKN.warm hW, (hD.sub (ws' := [(x0, .inr (6, [.ref h4, .ref h3, .ref h2, .ref h1, .ref hB, .ref h5])), (h4, .inr (4, [.ref a1, .ref a2, .ref a3, .int (nI 1), .int (nI 0), .int (nI 0)])), (a1, .inl (cI, 9, .inl ug)), (a2, .inl (cI, 9, .inl ub)), (a3, .inl (cI, 9, .inl ur)), (h2, .inr (2, [.ref r1, .int (nI 0)])), (r1, .inl (cI, 9, .inl (fun _ => 0)))]) [0, 1, 2, 3, 4, 8, 9] (by decide) rfl).weaken (fun _ _ _ _ => trivial)⟩⟩ rfl rfl hl.1 rfl (lv_room (Nat.le_of_ble_eq_true rfl)) dL_law_743 ⟨Nat.le_of_ble_eq_true rfl, Nat.le_of_ble_eq_true rfl⟩) hS hP hD [0, 1, 2, 3, 4, 8, 9] [5, 6, 7, 10, 11, 12, 13, 14, 15, 16, 17, 18, 19, 20, 21, 22, 23, 24, 25, 26, 27, 28, 29, 30] rfl rfl rfl (by decide) (by decide) (fun r3 u3 H locs w3r hP hD hS => ?_)
      have w3 : r3 = if (nI 0) = 0 then nI 1 else nI 0 := w3r
      clear w3r
      have wx := w3
      refine lv_aload_n hx hb dL_law_746 rfl (lv_at hl 1 rfl) ?_
      refine lv_aload_n hx hb dL_law_747 rfl (lv_at hl 3 rfl) ?_
      refine lv_iload_n hx hb dL_law_748 rfl (lv_at hl 0 rfl) ?_
      refine lv_iconst (v := nI 1) hx hb dL_law_749 (by decide) ?_
      refine lv_iadd hx hb dL_law_750 ?_
      refine cn_i (y := nI (0 + 1)) (nI_add 0 1) ?_
      refine va_sld hx hb hX hbl hbA hS (i := nI (0 + 1)) (vp_in_nI (by omega) (by omega)) dL_law_751 ?_
      refine cn_i (y := xs (0 + 1)) (congrArg xs (nI_clamp (by omega))) ?_
      refine lv_if_eq (tgt := 759) hx hb dL_law_752 (by decide) (fun c4 => ?_) (fun c4 => ?_)
      · skip
        refine lv_iconst (v := nI 0) hx hb dL_law_759 (by decide) ?_
        refine lv_aload_n hx hb dL_law_760 rfl (lv_at hl 3 rfl) ?_
        refine lv_iload_n hx hb dL_law_761 rfl (lv_at hl 0 rfl) ?_
        refine lv_iconst (v := nI 2) hx hb dL_law_762 (by decide) ?_
        refine lv_iadd hx hb dL_law_763 ?_
        refine cn_i (y := nI (0 + 2)) (nI_add 0 2) ?_
        refine va_sld hx hb hX hbl hbA hS (i := nI (0 + 2)) (vp_in_nI (by omega) (by omega)) dL_law_764 ?_
        refine cn_i (y := xs (0 + 2)) (congrArg xs (nI_clamp (by omega))) ?_
        refine lv_if_eq (tgt := 772) hx hb dL_law_765 (by decide) (fun c5 => ?_) (fun c5 => ?_)
        · skip
          refine lv_iconst (v := nI 0) hx hb dL_law_772 (by decide) ?_
          refine mx_i (wc := [(m0, .inr (7, [.int (nI 1), .ref g1, .ref g2, .ref g3, .int (nI 0), .ref g4, .int (-1 : Int32), .ref g5, .int (nI 0), .ref g6, .int (nI 0), .ref g7, .ref g8, .ref g9, .ref g10, .ref g11, .ref g12])), (g1, .inl (cI, 9, .inl vg)), (g2, .inl (cI, 9, .inl vb)), (g3, .inl (cI, 9, .inl vr)), (g6, .inl (cI, 9, .inl (fun _ => 0)))]) (wr := [(h3, .inr (3, [.ref b1, .ref b2, .int (nI 1), .int (nI 0), .int (-1 : Int32)])), (b1, .inl (cJ, 320, .inr (.inl (fun _ => 0)))), (b2, .inl (cI, 9, .inl (fun _ => 0))), (h1, .inr (1, [.ref h4, .ref h3, .ref h2, .ref p4, .ref p5, .ref p6, .int (nI 0)])), (p4, .inl (cI, 9, .inl (fun _ => 0))), (p5, .inl (cJ, 0, .inr (.inl (fun _ => 0)))), (p6, .inl (cI, 0, .inl (fun _ => 0))), (hB, .inr (0, [.ref h4, .ref h3, .ref l3])), (l3, .inl (cI, 512, .inl (fun _ => 0))), (h5, .inr (5, [.ref lk1, .int (nI 0)])), (lk1, .inl (cI, 9, .inl (fun _ => 0))), (g4, .inl (cZ, 20480, .inl (fun _ => 0))), (g5, .inl (cI, 9, .inl vn)), (g7, .inl (cI, 9, .inl (fun _ => 0))), (g8, .inl (cJ, 19683, .inr (.inl (fun _ => 0)))), (g9, .inl (cI, 19683, .inl (fun _ => 0))), (g10, .inl (cI, 19683, .inl (fun _ => 0))), (g11, .inl (cI, 19683, .inl (fun _ => 0))), (g12, .inl (cI, 9, .inl th))]) (va_runV (As := [.int (nI 0), .int (nI 0)]) (rest := [.int r3]) ⟨hx, hb, hml, hown, hts⟩ (c_X7_ratios l D cI cJ cZ m0 g1 g2 g3 g4 g5 g6 g7 g8 g9 g10 g11 g12 1 (nI 0) (-1 : Int32) (nI 0) (nI 0) (nI 0) (nI 0) vg vb vr (fun _ => 0) (by first | assumption | omega) (by first | assumption | omega)) (cwV 2 hts gL_law_X7_ratios rfl rfl rfl (by decide +kernel) ⟨Nat.le_of_ble_eq_true rfl, Nat.le_of_ble_eq_true rfl⟩) ⟨pm_blind, va_recv hK hP (ci := 7) (q0 := 11) rfl rfl, fun U hU hW => ⟨rfl, by rw [hU]; exact hP.sub (ws' := [(m0, .inr (7, [.int (nI 1), .ref g1, .ref g2, .ref g3, .int (nI 0), .ref g4, .int (-1 : Int32), .ref g5, .int (nI 0), .ref g6, .int (nI 0), .ref g7, .ref g8, .ref g9, .ref g10, .ref g11, .ref g12])), (g1, .inl (cI, 9, .inl vg)), (g2, .inl (cI, 9, .inl vb)), (g3, .inl (cI, 9, .inl vr)), (g6, .inl (cI, 9, .inl (fun _ => 0)))]) [11, 12, 13, 14, 17] rfl, hKN.warm hW, (hD.sub (ws' := [(m0, .inr (7, [.int (nI 1), .ref g1, .ref g2, .ref g3, .int (nI 0), .ref g4, .int (-1 : Int32), .ref g5, .int (nI 0), .ref g6, .int (nI 0), .ref g7, .ref g8, .ref g9, .ref g10, .ref g11, .ref g12])), (g1, .inl (cI, 9, .inl vg)), (g2, .inl (cI, 9, .inl vb)), (g3, .inl (cI, 9, .inl vr)), (g6, .inl (cI, 9, .inl (fun _ => 0)))]) [11, 12, 13, 14, 17] (by decide) rfl).weaken (fun _ _ _ _ => trivial)⟩⟩ rfl rfl hl.1 rfl (lv_room (Nat.le_of_ble_eq_true rfl)) dL_law_773 ⟨Nat.le_of_ble_eq_true rfl, Nat.le_of_ble_eq_true rfl⟩) hS hP hD [11, 12, 13, 14, 17] [0, 1, 2, 3, 4, 5, 6, 7, 8, 9, 10, 15, 16, 18, 19, 20, 21, 22, 23] rfl rfl rfl (by decide) (by decide) (fun r6 u6 H locs w6r hP hD hS => ?_)
          have w6 : r6 = if (nI 0) = 0 then nI 1 else nI 0 := w6r
          clear w6r
          have wm := w6
          refine lv_icmp_eq (tgt := 883) hx hb dL_law_776 (by decide) (fun c7 => ?_) (fun c7 => ?_)
          · skip
            exact law_tail hL6 C0 _ _ _ hS (lv_sub hl [0, 3] rfl)
          · exact absurd (wx.trans wm.symm) c7
        · exact absurd c2 c5
      · exact absurd c1 c4
    · skip
      refine lv_iconst (v := nI 1) hx hb dL_law_738 (by decide) ?_
      refine lv_goto (tgt := 743) hx hb dL_law_739 (by decide) ?_
      refine mx_i (wc := [(x0, .inr (6, [.ref h4, .ref h3, .ref h2, .ref h1, .ref hB, .ref h5])), (h4, .inr (4, [.ref a1, .ref a2, .ref a3, .int (nI 1), .int (nI 0), .int (nI 0)])), (a1, .inl (cI, 9, .inl ug)), (a2, .inl (cI, 9, .inl ub)), (a3, .inl (cI, 9, .inl ur)), (h2, .inr (2, [.ref r1, .int (nI 0)])), (r1, .inl (cI, 9, .inl (fun _ => 0)))]) (wr := [(h3, .inr (3, [.ref b1, .ref b2, .int (nI 1), .int (nI 0), .int (-1 : Int32)])), (b1, .inl (cJ, 320, .inr (.inl (fun _ => 0)))), (b2, .inl (cI, 9, .inl (fun _ => 0))), (h1, .inr (1, [.ref h4, .ref h3, .ref h2, .ref p4, .ref p5, .ref p6, .int (nI 0)])), (p4, .inl (cI, 9, .inl (fun _ => 0))), (p5, .inl (cJ, 0, .inr (.inl (fun _ => 0)))), (p6, .inl (cI, 0, .inl (fun _ => 0))), (hB, .inr (0, [.ref h4, .ref h3, .ref l3])), (l3, .inl (cI, 512, .inl (fun _ => 0))), (h5, .inr (5, [.ref lk1, .int (nI 0)])), (lk1, .inl (cI, 9, .inl (fun _ => 0))), (m0, .inr (7, [.int (nI 1), .ref g1, .ref g2, .ref g3, .int (nI 0), .ref g4, .int (-1 : Int32), .ref g5, .int (nI 0), .ref g6, .int (nI 0), .ref g7, .ref g8, .ref g9, .ref g10, .ref g11, .ref g12])), (g1, .inl (cI, 9, .inl vg)), (g2, .inl (cI, 9, .inl vb)), (g3, .inl (cI, 9, .inl vr)), (g4, .inl (cZ, 20480, .inl (fun _ => 0))), (g5, .inl (cI, 9, .inl vn)), (g6, .inl (cI, 9, .inl (fun _ => 0))), (g7, .inl (cI, 9, .inl (fun _ => 0))), (g8, .inl (cJ, 19683, .inr (.inl (fun _ => 0)))), (g9, .inl (cI, 19683, .inl (fun _ => 0))), (g10, .inl (cI, 19683, .inl (fun _ => 0))), (g11, .inl (cI, 19683, .inl (fun _ => 0))), (g12, .inl (cI, 9, .inl th))]) (va_runV (As := [.int (nI 0), .int (nI 1)]) (rest := []) ⟨hx, hb, hml, hown, hts⟩ (c_X6_ratios l D cI cJ cZ x0 h4 h3 h2 h1 hB h5 a1 a2 a3 r1 1 (nI 0) (nI 0) (nI 0) (nI 0) (nI 1) (fun _ => 0) ug ub ur (by first | assumption | omega)) (cwV 2 hts gL_law_X6_ratios rfl rfl rfl (by decide +kernel) ⟨Nat.le_of_ble_eq_true rfl, Nat.le_of_ble_eq_true rfl⟩) ⟨pm_blind, va_recv hK hP (ci := 6) (q0 := 0) rfl rfl, fun U hU hW => ⟨rfl, by rw [hU]; exact hP.sub (ws' := [(x0, .inr (6, [.ref h4, .ref h3, .ref h2, .ref h1, .ref hB, .ref h5])), (h4, .inr (4, [.ref a1, .ref a2, .ref a3, .int (nI 1), .int (nI 0), .int (nI 0)])), (a1, .inl (cI, 9, .inl ug)), (a2, .inl (cI, 9, .inl ub)), (a3, .inl (cI, 9, .inl ur)), (h2, .inr (2, [.ref r1, .int (nI 0)])), (r1, .inl (cI, 9, .inl (fun _ => 0)))]) [0, 1, 2, 3, 4, 8, 9] rfl, hKN.warm hW, (hD.sub (ws' := [(x0, .inr (6, [.ref h4, .ref h3, .ref h2, .ref h1, .ref hB, .ref h5])), (h4, .inr (4, [.ref a1, .ref a2, .ref a3, .int (nI 1), .int (nI 0), .int (nI 0)])), (a1, .inl (cI, 9, .inl ug)), (a2, .inl (cI, 9, .inl ub)), (a3, .inl (cI, 9, .inl ur)), (h2, .inr (2, [.ref r1, .int (nI 0)])), (r1, .inl (cI, 9, .inl (fun _ => 0)))]) [0, 1, 2, 3, 4, 8, 9] (by decide) rfl).weaken (fun _ _ _ _ => trivial)⟩⟩ rfl rfl hl.1 rfl (lv_room (Nat.le_of_ble_eq_true rfl)) dL_law_743 ⟨Nat.le_of_ble_eq_true rfl, Nat.le_of_ble_eq_true rfl⟩) hS hP hD [0, 1, 2, 3, 4, 8, 9] [5, 6, 7, 10, 11, 12, 13, 14, 15, 16, 17, 18, 19, 20, 21, 22, 23, 24, 25, 26, 27, 28, 29, 30] rfl rfl rfl (by decide) (by decide) (fun r8 u8 H locs w8r hP hD hS => ?_)
      have w8 : r8 = if (nI 1) = 0 then nI 1 else nI 0 := w8r
      clear w8r
      have wx := w8
      refine lv_aload_n hx hb dL_law_746 rfl (lv_at hl 1 rfl) ?_
      refine lv_aload_n hx hb dL_law_747 rfl (lv_at hl 3 rfl) ?_
      refine lv_iload_n hx hb dL_law_748 rfl (lv_at hl 0 rfl) ?_
      refine lv_iconst (v := nI 1) hx hb dL_law_749 (by decide) ?_
      refine lv_iadd hx hb dL_law_750 ?_
      refine cn_i (y := nI (0 + 1)) (nI_add 0 1) ?_
      refine va_sld hx hb hX hbl hbA hS (i := nI (0 + 1)) (vp_in_nI (by omega) (by omega)) dL_law_751 ?_
      refine cn_i (y := xs (0 + 1)) (congrArg xs (nI_clamp (by omega))) ?_
      refine lv_if_eq (tgt := 759) hx hb dL_law_752 (by decide) (fun c9 => ?_) (fun c9 => ?_)
      · skip
        refine lv_iconst (v := nI 0) hx hb dL_law_759 (by decide) ?_
        refine lv_aload_n hx hb dL_law_760 rfl (lv_at hl 3 rfl) ?_
        refine lv_iload_n hx hb dL_law_761 rfl (lv_at hl 0 rfl) ?_
        refine lv_iconst (v := nI 2) hx hb dL_law_762 (by decide) ?_
        refine lv_iadd hx hb dL_law_763 ?_
        refine cn_i (y := nI (0 + 2)) (nI_add 0 2) ?_
        refine va_sld hx hb hX hbl hbA hS (i := nI (0 + 2)) (vp_in_nI (by omega) (by omega)) dL_law_764 ?_
        refine cn_i (y := xs (0 + 2)) (congrArg xs (nI_clamp (by omega))) ?_
        refine lv_if_eq (tgt := 772) hx hb dL_law_765 (by decide) (fun c10 => ?_) (fun c10 => ?_)
        · exact absurd c10 c2
        · skip
          refine lv_iconst (v := nI 1) hx hb dL_law_768 (by decide) ?_
          refine lv_goto (tgt := 773) hx hb dL_law_769 (by decide) ?_
          refine mx_i (wc := [(m0, .inr (7, [.int (nI 1), .ref g1, .ref g2, .ref g3, .int (nI 0), .ref g4, .int (-1 : Int32), .ref g5, .int (nI 0), .ref g6, .int (nI 0), .ref g7, .ref g8, .ref g9, .ref g10, .ref g11, .ref g12])), (g1, .inl (cI, 9, .inl vg)), (g2, .inl (cI, 9, .inl vb)), (g3, .inl (cI, 9, .inl vr)), (g6, .inl (cI, 9, .inl (fun _ => 0)))]) (wr := [(h3, .inr (3, [.ref b1, .ref b2, .int (nI 1), .int (nI 0), .int (-1 : Int32)])), (b1, .inl (cJ, 320, .inr (.inl (fun _ => 0)))), (b2, .inl (cI, 9, .inl (fun _ => 0))), (h1, .inr (1, [.ref h4, .ref h3, .ref h2, .ref p4, .ref p5, .ref p6, .int (nI 0)])), (p4, .inl (cI, 9, .inl (fun _ => 0))), (p5, .inl (cJ, 0, .inr (.inl (fun _ => 0)))), (p6, .inl (cI, 0, .inl (fun _ => 0))), (hB, .inr (0, [.ref h4, .ref h3, .ref l3])), (l3, .inl (cI, 512, .inl (fun _ => 0))), (h5, .inr (5, [.ref lk1, .int (nI 0)])), (lk1, .inl (cI, 9, .inl (fun _ => 0))), (g4, .inl (cZ, 20480, .inl (fun _ => 0))), (g5, .inl (cI, 9, .inl vn)), (g7, .inl (cI, 9, .inl (fun _ => 0))), (g8, .inl (cJ, 19683, .inr (.inl (fun _ => 0)))), (g9, .inl (cI, 19683, .inl (fun _ => 0))), (g10, .inl (cI, 19683, .inl (fun _ => 0))), (g11, .inl (cI, 19683, .inl (fun _ => 0))), (g12, .inl (cI, 9, .inl th))]) (va_runV (As := [.int (nI 0), .int (nI 1)]) (rest := [.int r8]) ⟨hx, hb, hml, hown, hts⟩ (c_X7_ratios l D cI cJ cZ m0 g1 g2 g3 g4 g5 g6 g7 g8 g9 g10 g11 g12 1 (nI 0) (-1 : Int32) (nI 0) (nI 0) (nI 0) (nI 1) vg vb vr (fun _ => 0) (by first | assumption | omega) (by first | assumption | omega)) (cwV 2 hts gL_law_X7_ratios rfl rfl rfl (by decide +kernel) ⟨Nat.le_of_ble_eq_true rfl, Nat.le_of_ble_eq_true rfl⟩) ⟨pm_blind, va_recv hK hP (ci := 7) (q0 := 11) rfl rfl, fun U hU hW => ⟨rfl, by rw [hU]; exact hP.sub (ws' := [(m0, .inr (7, [.int (nI 1), .ref g1, .ref g2, .ref g3, .int (nI 0), .ref g4, .int (-1 : Int32), .ref g5, .int (nI 0), .ref g6, .int (nI 0), .ref g7, .ref g8, .ref g9, .ref g10, .ref g11, .ref g12])), (g1, .inl (cI, 9, .inl vg)), (g2, .inl (cI, 9, .inl vb)), (g3, .inl (cI, 9, .inl vr)), (g6, .inl (cI, 9, .inl (fun _ => 0)))]) [11, 12, 13, 14, 17] rfl, hKN.warm hW, (hD.sub (ws' := [(m0, .inr (7, [.int (nI 1), .ref g1, .ref g2, .ref g3, .int (nI 0), .ref g4, .int (-1 : Int32), .ref g5, .int (nI 0), .ref g6, .int (nI 0), .ref g7, .ref g8, .ref g9, .ref g10, .ref g11, .ref g12])), (g1, .inl (cI, 9, .inl vg)), (g2, .inl (cI, 9, .inl vb)), (g3, .inl (cI, 9, .inl vr)), (g6, .inl (cI, 9, .inl (fun _ => 0)))]) [11, 12, 13, 14, 17] (by decide) rfl).weaken (fun _ _ _ _ => trivial)⟩⟩ rfl rfl hl.1 rfl (lv_room (Nat.le_of_ble_eq_true rfl)) dL_law_773 ⟨Nat.le_of_ble_eq_true rfl, Nat.le_of_ble_eq_true rfl⟩) hS hP hD [11, 12, 13, 14, 17] [0, 1, 2, 3, 4, 5, 6, 7, 8, 9, 10, 15, 16, 18, 19, 20, 21, 22, 23] rfl rfl rfl (by decide) (by decide) (fun r11 u11 H locs w11r hP hD hS => ?_)
          have w11 : r11 = if (nI 1) = 0 then nI 1 else nI 0 := w11r
          clear w11r
          have wm := w11
          refine lv_icmp_eq (tgt := 883) hx hb dL_law_776 (by decide) (fun c12 => ?_) (fun c12 => ?_)
          · skip
            exact law_tail hL6 C0 _ _ _ hS (lv_sub hl [0, 3] rfl)
          · exact absurd (wx.trans wm.symm) c12
      · exact absurd c1 c9
  · skip
    refine lv_iconst (v := nI 1) hx hb dL_law_725 (by decide) ?_
    refine lv_goto (tgt := 730) hx hb dL_law_726 (by decide) ?_
    refine lv_aload_n hx hb dL_law_730 rfl (lv_at hl 3 rfl) ?_
    refine lv_iload_n hx hb dL_law_731 rfl (lv_at hl 0 rfl) ?_
    refine lv_iconst (v := nI 2) hx hb dL_law_732 (by decide) ?_
    refine lv_iadd hx hb dL_law_733 ?_
    refine cn_i (y := nI (0 + 2)) (nI_add 0 2) ?_
    refine va_sld hx hb hX hbl hbA hS (i := nI (0 + 2)) (vp_in_nI (by omega) (by omega)) dL_law_734 ?_
    refine cn_i (y := xs (0 + 2)) (congrArg xs (nI_clamp (by omega))) ?_
    refine lv_if_eq (tgt := 742) hx hb dL_law_735 (by decide) (fun c13 => ?_) (fun c13 => ?_)
    · skip
      refine lv_iconst (v := nI 0) hx hb dL_law_742 (by decide) ?_
      refine mx_i (wc := [(x0, .inr (6, [.ref h4, .ref h3, .ref h2, .ref h1, .ref hB, .ref h5])), (h4, .inr (4, [.ref a1, .ref a2, .ref a3, .int (nI 1), .int (nI 0), .int (nI 0)])), (a1, .inl (cI, 9, .inl ug)), (a2, .inl (cI, 9, .inl ub)), (a3, .inl (cI, 9, .inl ur)), (h2, .inr (2, [.ref r1, .int (nI 0)])), (r1, .inl (cI, 9, .inl (fun _ => 0)))]) (wr := [(h3, .inr (3, [.ref b1, .ref b2, .int (nI 1), .int (nI 0), .int (-1 : Int32)])), (b1, .inl (cJ, 320, .inr (.inl (fun _ => 0)))), (b2, .inl (cI, 9, .inl (fun _ => 0))), (h1, .inr (1, [.ref h4, .ref h3, .ref h2, .ref p4, .ref p5, .ref p6, .int (nI 0)])), (p4, .inl (cI, 9, .inl (fun _ => 0))), (p5, .inl (cJ, 0, .inr (.inl (fun _ => 0)))), (p6, .inl (cI, 0, .inl (fun _ => 0))), (hB, .inr (0, [.ref h4, .ref h3, .ref l3])), (l3, .inl (cI, 512, .inl (fun _ => 0))), (h5, .inr (5, [.ref lk1, .int (nI 0)])), (lk1, .inl (cI, 9, .inl (fun _ => 0))), (m0, .inr (7, [.int (nI 1), .ref g1, .ref g2, .ref g3, .int (nI 0), .ref g4, .int (-1 : Int32), .ref g5, .int (nI 0), .ref g6, .int (nI 0), .ref g7, .ref g8, .ref g9, .ref g10, .ref g11, .ref g12])), (g1, .inl (cI, 9, .inl vg)), (g2, .inl (cI, 9, .inl vb)), (g3, .inl (cI, 9, .inl vr)), (g4, .inl (cZ, 20480, .inl (fun _ => 0))), (g5, .inl (cI, 9, .inl vn)), (g6, .inl (cI, 9, .inl (fun _ => 0))), (g7, .inl (cI, 9, .inl (fun _ => 0))), (g8, .inl (cJ, 19683, .inr (.inl (fun _ => 0)))), (g9, .inl (cI, 19683, .inl (fun _ => 0))), (g10, .inl (cI, 19683, .inl (fun _ => 0))), (g11, .inl (cI, 19683, .inl (fun _ => 0))), (g12, .inl (cI, 9, .inl th))]) (va_runV (As := [.int (nI 1), .int (nI 0)]) (rest := []) ⟨hx, hb, hml, hown, hts⟩ (c_X6_ratios l D cI cJ cZ x0 h4 h3 h2 h1 hB h5 a1 a2 a3 r1 1 (nI 0) (nI 0) (nI 0) (nI 1) (nI 0) (fun _ => 0) ug ub ur (by first | assumption | omega)) (cwV 2 hts gL_law_X6_ratios rfl rfl rfl (by decide +kernel) ⟨Nat.le_of_ble_eq_true rfl, Nat.le_of_ble_eq_true rfl⟩) ⟨pm_blind, va_recv hK hP (ci := 6) (q0 := 0) rfl rfl, fun U hU hW => ⟨rfl, by rw [hU]; exact hP.sub (ws' := [(x0, .inr (6, [.ref h4, .ref h3, .ref h2, .ref h1, .ref hB, .ref h5])), (h4, .inr (4, [.ref a1, .ref a2, .ref a3, .int (nI 1), .int (nI 0), .int (nI 0)])), (a1, .inl (cI, 9, .inl ug)), (a2, .inl (cI, 9, .inl ub)), (a3, .inl (cI, 9, .inl ur)), (h2, .inr (2, [.ref r1, .int (nI 0)])), (r1, .inl (cI, 9, .inl (fun _ => 0)))]) [0, 1, 2, 3, 4, 8, 9] rfl, hKN.warm hW, (hD.sub (ws' := [(x0, .inr (6, [.ref h4, .ref h3, .ref h2, .ref h1, .ref hB, .ref h5])), (h4, .inr (4, [.ref a1, .ref a2, .ref a3, .int (nI 1), .int (nI 0), .int (nI 0)])), (a1, .inl (cI, 9, .inl ug)), (a2, .inl (cI, 9, .inl ub)), (a3, .inl (cI, 9, .inl ur)), (h2, .inr (2, [.ref r1, .int (nI 0)])), (r1, .inl (cI, 9, .inl (fun _ => 0)))]) [0, 1, 2, 3, 4, 8, 9] (by decide) rfl).weaken (fun _ _ _ _ => trivial)⟩⟩ rfl rfl hl.1 rfl (lv_room (Nat.le_of_ble_eq_true rfl)) dL_law_743 ⟨Nat.le_of_ble_eq_true rfl, Nat.le_of_ble_eq_true rfl⟩) hS hP hD [0, 1, 2, 3, 4, 8, 9] [5, 6, 7, 10, 11, 12, 13, 14, 15, 16, 17, 18, 19, 20, 21, 22, 23, 24, 25, 26, 27, 28, 29, 30] rfl rfl rfl (by decide) (by decide) (fun r14 u14 H locs w14r hP hD hS => ?_)
      have w14 : r14 = if (nI 0) = 0 then nI 1 else nI 0 := w14r
      clear w14r
      have wx := w14
      refine lv_aload_n hx hb dL_law_746 rfl (lv_at hl 1 rfl) ?_
      refine lv_aload_n hx hb dL_law_747 rfl (lv_at hl 3 rfl) ?_
      refine lv_iload_n hx hb dL_law_748 rfl (lv_at hl 0 rfl) ?_
      refine lv_iconst (v := nI 1) hx hb dL_law_749 (by decide) ?_
      refine lv_iadd hx hb dL_law_750 ?_
      refine cn_i (y := nI (0 + 1)) (nI_add 0 1) ?_
      refine va_sld hx hb hX hbl hbA hS (i := nI (0 + 1)) (vp_in_nI (by omega) (by omega)) dL_law_751 ?_
      refine cn_i (y := xs (0 + 1)) (congrArg xs (nI_clamp (by omega))) ?_
      refine lv_if_eq (tgt := 759) hx hb dL_law_752 (by decide) (fun c15 => ?_) (fun c15 => ?_)
      · exact absurd c15 c1
      · skip
        refine lv_iconst (v := nI 1) hx hb dL_law_755 (by decide) ?_
        refine lv_goto (tgt := 760) hx hb dL_law_756 (by decide) ?_
        refine lv_aload_n hx hb dL_law_760 rfl (lv_at hl 3 rfl) ?_
        refine lv_iload_n hx hb dL_law_761 rfl (lv_at hl 0 rfl) ?_
        refine lv_iconst (v := nI 2) hx hb dL_law_762 (by decide) ?_
        refine lv_iadd hx hb dL_law_763 ?_
        refine cn_i (y := nI (0 + 2)) (nI_add 0 2) ?_
        refine va_sld hx hb hX hbl hbA hS (i := nI (0 + 2)) (vp_in_nI (by omega) (by omega)) dL_law_764 ?_
        refine cn_i (y := xs (0 + 2)) (congrArg xs (nI_clamp (by omega))) ?_
        refine lv_if_eq (tgt := 772) hx hb dL_law_765 (by decide) (fun c16 => ?_) (fun c16 => ?_)
        · skip
          refine lv_iconst (v := nI 0) hx hb dL_law_772 (by decide) ?_
          refine mx_i (wc := [(m0, .inr (7, [.int (nI 1), .ref g1, .ref g2, .ref g3, .int (nI 0), .ref g4, .int (-1 : Int32), .ref g5, .int (nI 0), .ref g6, .int (nI 0), .ref g7, .ref g8, .ref g9, .ref g10, .ref g11, .ref g12])), (g1, .inl (cI, 9, .inl vg)), (g2, .inl (cI, 9, .inl vb)), (g3, .inl (cI, 9, .inl vr)), (g6, .inl (cI, 9, .inl (fun _ => 0)))]) (wr := [(h3, .inr (3, [.ref b1, .ref b2, .int (nI 1), .int (nI 0), .int (-1 : Int32)])), (b1, .inl (cJ, 320, .inr (.inl (fun _ => 0)))), (b2, .inl (cI, 9, .inl (fun _ => 0))), (h1, .inr (1, [.ref h4, .ref h3, .ref h2, .ref p4, .ref p5, .ref p6, .int (nI 0)])), (p4, .inl (cI, 9, .inl (fun _ => 0))), (p5, .inl (cJ, 0, .inr (.inl (fun _ => 0)))), (p6, .inl (cI, 0, .inl (fun _ => 0))), (hB, .inr (0, [.ref h4, .ref h3, .ref l3])), (l3, .inl (cI, 512, .inl (fun _ => 0))), (h5, .inr (5, [.ref lk1, .int (nI 0)])), (lk1, .inl (cI, 9, .inl (fun _ => 0))), (g4, .inl (cZ, 20480, .inl (fun _ => 0))), (g5, .inl (cI, 9, .inl vn)), (g7, .inl (cI, 9, .inl (fun _ => 0))), (g8, .inl (cJ, 19683, .inr (.inl (fun _ => 0)))), (g9, .inl (cI, 19683, .inl (fun _ => 0))), (g10, .inl (cI, 19683, .inl (fun _ => 0))), (g11, .inl (cI, 19683, .inl (fun _ => 0))), (g12, .inl (cI, 9, .inl th))]) (va_runV (As := [.int (nI 1), .int (nI 0)]) (rest := [.int r14]) ⟨hx, hb, hml, hown, hts⟩ (c_X7_ratios l D cI cJ cZ m0 g1 g2 g3 g4 g5 g6 g7 g8 g9 g10 g11 g12 1 (nI 0) (-1 : Int32) (nI 0) (nI 0) (nI 1) (nI 0) vg vb vr (fun _ => 0) (by first | assumption | omega) (by first | assumption | omega)) (cwV 2 hts gL_law_X7_ratios rfl rfl rfl (by decide +kernel) ⟨Nat.le_of_ble_eq_true rfl, Nat.le_of_ble_eq_true rfl⟩) ⟨pm_blind, va_recv hK hP (ci := 7) (q0 := 11) rfl rfl, fun U hU hW => ⟨rfl, by rw [hU]; exact hP.sub (ws' := [(m0, .inr (7, [.int (nI 1), .ref g1, .ref g2, .ref g3, .int (nI 0), .ref g4, .int (-1 : Int32), .ref g5, .int (nI 0), .ref g6, .int (nI 0), .ref g7, .ref g8, .ref g9, .ref g10, .ref g11, .ref g12])), (g1, .inl (cI, 9, .inl vg)), (g2, .inl (cI, 9, .inl vb)), (g3, .inl (cI, 9, .inl vr)), (g6, .inl (cI, 9, .inl (fun _ => 0)))]) [11, 12, 13, 14, 17] rfl, hKN.warm hW, (hD.sub (ws' := [(m0, .inr (7, [.int (nI 1), .ref g1, .ref g2, .ref g3, .int (nI 0), .ref g4, .int (-1 : Int32), .ref g5, .int (nI 0), .ref g6, .int (nI 0), .ref g7, .ref g8, .ref g9, .ref g10, .ref g11, .ref g12])), (g1, .inl (cI, 9, .inl vg)), (g2, .inl (cI, 9, .inl vb)), (g3, .inl (cI, 9, .inl vr)), (g6, .inl (cI, 9, .inl (fun _ => 0)))]) [11, 12, 13, 14, 17] (by decide) rfl).weaken (fun _ _ _ _ => trivial)⟩⟩ rfl rfl hl.1 rfl (lv_room (Nat.le_of_ble_eq_true rfl)) dL_law_773 ⟨Nat.le_of_ble_eq_true rfl, Nat.le_of_ble_eq_true rfl⟩) hS hP hD [11, 12, 13, 14, 17] [0, 1, 2, 3, 4, 5, 6, 7, 8, 9, 10, 15, 16, 18, 19, 20, 21, 22, 23] rfl rfl rfl (by decide) (by decide) (fun r17 u17 H locs w17r hP hD hS => ?_)
          have w17 : r17 = if (nI 0) = 0 then nI 1 else nI 0 := w17r
          clear w17r
          have wm := w17
          refine lv_icmp_eq (tgt := 883) hx hb dL_law_776 (by decide) (fun c18 => ?_) (fun c18 => ?_)
          · skip
            exact law_tail hL6 C0 _ _ _ hS (lv_sub hl [0, 3] rfl)
          · exact absurd (wx.trans wm.symm) c18
        · exact absurd c13 c16
    · skip
      refine lv_iconst (v := nI 1) hx hb dL_law_738 (by decide) ?_
      refine lv_goto (tgt := 743) hx hb dL_law_739 (by decide) ?_
      refine mx_i (wc := [(x0, .inr (6, [.ref h4, .ref h3, .ref h2, .ref h1, .ref hB, .ref h5])), (h4, .inr (4, [.ref a1, .ref a2, .ref a3, .int (nI 1), .int (nI 0), .int (nI 0)])), (a1, .inl (cI, 9, .inl ug)), (a2, .inl (cI, 9, .inl ub)), (a3, .inl (cI, 9, .inl ur)), (h2, .inr (2, [.ref r1, .int (nI 0)])), (r1, .inl (cI, 9, .inl (fun _ => 0)))]) (wr := [(h3, .inr (3, [.ref b1, .ref b2, .int (nI 1), .int (nI 0), .int (-1 : Int32)])), (b1, .inl (cJ, 320, .inr (.inl (fun _ => 0)))), (b2, .inl (cI, 9, .inl (fun _ => 0))), (h1, .inr (1, [.ref h4, .ref h3, .ref h2, .ref p4, .ref p5, .ref p6, .int (nI 0)])), (p4, .inl (cI, 9, .inl (fun _ => 0))), (p5, .inl (cJ, 0, .inr (.inl (fun _ => 0)))), (p6, .inl (cI, 0, .inl (fun _ => 0))), (hB, .inr (0, [.ref h4, .ref h3, .ref l3])), (l3, .inl (cI, 512, .inl (fun _ => 0))), (h5, .inr (5, [.ref lk1, .int (nI 0)])), (lk1, .inl (cI, 9, .inl (fun _ => 0))), (m0, .inr (7, [.int (nI 1), .ref g1, .ref g2, .ref g3, .int (nI 0), .ref g4, .int (-1 : Int32), .ref g5, .int (nI 0), .ref g6, .int (nI 0), .ref g7, .ref g8, .ref g9, .ref g10, .ref g11, .ref g12])), (g1, .inl (cI, 9, .inl vg)), (g2, .inl (cI, 9, .inl vb)), (g3, .inl (cI, 9, .inl vr)), (g4, .inl (cZ, 20480, .inl (fun _ => 0))), (g5, .inl (cI, 9, .inl vn)), (g6, .inl (cI, 9, .inl (fun _ => 0))), (g7, .inl (cI, 9, .inl (fun _ => 0))), (g8, .inl (cJ, 19683, .inr (.inl (fun _ => 0)))), (g9, .inl (cI, 19683, .inl (fun _ => 0))), (g10, .inl (cI, 19683, .inl (fun _ => 0))), (g11, .inl (cI, 19683, .inl (fun _ => 0))), (g12, .inl (cI, 9, .inl th))]) (va_runV (As := [.int (nI 1), .int (nI 1)]) (rest := []) ⟨hx, hb, hml, hown, hts⟩ (c_X6_ratios l D cI cJ cZ x0 h4 h3 h2 h1 hB h5 a1 a2 a3 r1 1 (nI 0) (nI 0) (nI 0) (nI 1) (nI 1) (fun _ => 0) ug ub ur (by first | assumption | omega)) (cwV 2 hts gL_law_X6_ratios rfl rfl rfl (by decide +kernel) ⟨Nat.le_of_ble_eq_true rfl, Nat.le_of_ble_eq_true rfl⟩) ⟨pm_blind, va_recv hK hP (ci := 6) (q0 := 0) rfl rfl, fun U hU hW => ⟨rfl, by rw [hU]; exact hP.sub (ws' := [(x0, .inr (6, [.ref h4, .ref h3, .ref h2, .ref h1, .ref hB, .ref h5])), (h4, .inr (4, [.ref a1, .ref a2, .ref a3, .int (nI 1), .int (nI 0), .int (nI 0)])), (a1, .inl (cI, 9, .inl ug)), (a2, .inl (cI, 9, .inl ub)), (a3, .inl (cI, 9, .inl ur)), (h2, .inr (2, [.ref r1, .int (nI 0)])), (r1, .inl (cI, 9, .inl (fun _ => 0)))]) [0, 1, 2, 3, 4, 8, 9] rfl, hKN.warm hW, (hD.sub (ws' := [(x0, .inr (6, [.ref h4, .ref h3, .ref h2, .ref h1, .ref hB, .ref h5])), (h4, .inr (4, [.ref a1, .ref a2, .ref a3, .int (nI 1), .int (nI 0), .int (nI 0)])), (a1, .inl (cI, 9, .inl ug)), (a2, .inl (cI, 9, .inl ub)), (a3, .inl (cI, 9, .inl ur)), (h2, .inr (2, [.ref r1, .int (nI 0)])), (r1, .inl (cI, 9, .inl (fun _ => 0)))]) [0, 1, 2, 3, 4, 8, 9] (by decide) rfl).weaken (fun _ _ _ _ => trivial)⟩⟩ rfl rfl hl.1 rfl (lv_room (Nat.le_of_ble_eq_true rfl)) dL_law_743 ⟨Nat.le_of_ble_eq_true rfl, Nat.le_of_ble_eq_true rfl⟩) hS hP hD [0, 1, 2, 3, 4, 8, 9] [5, 6, 7, 10, 11, 12, 13, 14, 15, 16, 17, 18, 19, 20, 21, 22, 23, 24, 25, 26, 27, 28, 29, 30] rfl rfl rfl (by decide) (by decide) (fun r19 u19 H locs w19r hP hD hS => ?_)
      have w19 : r19 = if (nI 1) = 0 then nI 1 else nI 0 := w19r
      clear w19r
      have wx := w19
      refine lv_aload_n hx hb dL_law_746 rfl (lv_at hl 1 rfl) ?_
      refine lv_aload_n hx hb dL_law_747 rfl (lv_at hl 3 rfl) ?_
      refine lv_iload_n hx hb dL_law_748 rfl (lv_at hl 0 rfl) ?_
      refine lv_iconst (v := nI 1) hx hb dL_law_749 (by decide) ?_
      refine lv_iadd hx hb dL_law_750 ?_
      refine cn_i (y := nI (0 + 1)) (nI_add 0 1) ?_
      refine va_sld hx hb hX hbl hbA hS (i := nI (0 + 1)) (vp_in_nI (by omega) (by omega)) dL_law_751 ?_
      refine cn_i (y := xs (0 + 1)) (congrArg xs (nI_clamp (by omega))) ?_
      refine lv_if_eq (tgt := 759) hx hb dL_law_752 (by decide) (fun c20 => ?_) (fun c20 => ?_)
      · exact absurd c20 c1
      · skip
        refine lv_iconst (v := nI 1) hx hb dL_law_755 (by decide) ?_
        refine lv_goto (tgt := 760) hx hb dL_law_756 (by decide) ?_
        refine lv_aload_n hx hb dL_law_760 rfl (lv_at hl 3 rfl) ?_
        refine lv_iload_n hx hb dL_law_761 rfl (lv_at hl 0 rfl) ?_
        refine lv_iconst (v := nI 2) hx hb dL_law_762 (by decide) ?_
        refine lv_iadd hx hb dL_law_763 ?_
        refine cn_i (y := nI (0 + 2)) (nI_add 0 2) ?_
        refine va_sld hx hb hX hbl hbA hS (i := nI (0 + 2)) (vp_in_nI (by omega) (by omega)) dL_law_764 ?_
        refine cn_i (y := xs (0 + 2)) (congrArg xs (nI_clamp (by omega))) ?_
        refine lv_if_eq (tgt := 772) hx hb dL_law_765 (by decide) (fun c21 => ?_) (fun c21 => ?_)
        · exact absurd c21 c13
        · skip
          refine lv_iconst (v := nI 1) hx hb dL_law_768 (by decide) ?_
          refine lv_goto (tgt := 773) hx hb dL_law_769 (by decide) ?_
          refine mx_i (wc := [(m0, .inr (7, [.int (nI 1), .ref g1, .ref g2, .ref g3, .int (nI 0), .ref g4, .int (-1 : Int32), .ref g5, .int (nI 0), .ref g6, .int (nI 0), .ref g7, .ref g8, .ref g9, .ref g10, .ref g11, .ref g12])), (g1, .inl (cI, 9, .inl vg)), (g2, .inl (cI, 9, .inl vb)), (g3, .inl (cI, 9, .inl vr)), (g6, .inl (cI, 9, .inl (fun _ => 0)))]) (wr := [(h3, .inr (3, [.ref b1, .ref b2, .int (nI 1), .int (nI 0), .int (-1 : Int32)])), (b1, .inl (cJ, 320, .inr (.inl (fun _ => 0)))), (b2, .inl (cI, 9, .inl (fun _ => 0))), (h1, .inr (1, [.ref h4, .ref h3, .ref h2, .ref p4, .ref p5, .ref p6, .int (nI 0)])), (p4, .inl (cI, 9, .inl (fun _ => 0))), (p5, .inl (cJ, 0, .inr (.inl (fun _ => 0)))), (p6, .inl (cI, 0, .inl (fun _ => 0))), (hB, .inr (0, [.ref h4, .ref h3, .ref l3])), (l3, .inl (cI, 512, .inl (fun _ => 0))), (h5, .inr (5, [.ref lk1, .int (nI 0)])), (lk1, .inl (cI, 9, .inl (fun _ => 0))), (g4, .inl (cZ, 20480, .inl (fun _ => 0))), (g5, .inl (cI, 9, .inl vn)), (g7, .inl (cI, 9, .inl (fun _ => 0))), (g8, .inl (cJ, 19683, .inr (.inl (fun _ => 0)))), (g9, .inl (cI, 19683, .inl (fun _ => 0))), (g10, .inl (cI, 19683, .inl (fun _ => 0))), (g11, .inl (cI, 19683, .inl (fun _ => 0))), (g12, .inl (cI, 9, .inl th))]) (va_runV (As := [.int (nI 1), .int (nI 1)]) (rest := [.int r19]) ⟨hx, hb, hml, hown, hts⟩ (c_X7_ratios l D cI cJ cZ m0 g1 g2 g3 g4 g5 g6 g7 g8 g9 g10 g11 g12 1 (nI 0) (-1 : Int32) (nI 0) (nI 0) (nI 1) (nI 1) vg vb vr (fun _ => 0) (by first | assumption | omega) (by first | assumption | omega)) (cwV 2 hts gL_law_X7_ratios rfl rfl rfl (by decide +kernel) ⟨Nat.le_of_ble_eq_true rfl, Nat.le_of_ble_eq_true rfl⟩) ⟨pm_blind, va_recv hK hP (ci := 7) (q0 := 11) rfl rfl, fun U hU hW => ⟨rfl, by rw [hU]; exact hP.sub (ws' := [(m0, .inr (7, [.int (nI 1), .ref g1, .ref g2, .ref g3, .int (nI 0), .ref g4, .int (-1 : Int32), .ref g5, .int (nI 0), .ref g6, .int (nI 0), .ref g7, .ref g8, .ref g9, .ref g10, .ref g11, .ref g12])), (g1, .inl (cI, 9, .inl vg)), (g2, .inl (cI, 9, .inl vb)), (g3, .inl (cI, 9, .inl vr)), (g6, .inl (cI, 9, .inl (fun _ => 0)))]) [11, 12, 13, 14, 17] rfl, hKN.warm hW, (hD.sub (ws' := [(m0, .inr (7, [.int (nI 1), .ref g1, .ref g2, .ref g3, .int (nI 0), .ref g4, .int (-1 : Int32), .ref g5, .int (nI 0), .ref g6, .int (nI 0), .ref g7, .ref g8, .ref g9, .ref g10, .ref g11, .ref g12])), (g1, .inl (cI, 9, .inl vg)), (g2, .inl (cI, 9, .inl vb)), (g3, .inl (cI, 9, .inl vr)), (g6, .inl (cI, 9, .inl (fun _ => 0)))]) [11, 12, 13, 14, 17] (by decide) rfl).weaken (fun _ _ _ _ => trivial)⟩⟩ rfl rfl hl.1 rfl (lv_room (Nat.le_of_ble_eq_true rfl)) dL_law_773 ⟨Nat.le_of_ble_eq_true rfl, Nat.le_of_ble_eq_true rfl⟩) hS hP hD [11, 12, 13, 14, 17] [0, 1, 2, 3, 4, 5, 6, 7, 8, 9, 10, 15, 16, 18, 19, 20, 21, 22, 23] rfl rfl rfl (by decide) (by decide) (fun r22 u22 H locs w22r hP hD hS => ?_)
          have w22 : r22 = if (nI 1) = 0 then nI 1 else nI 0 := w22r
          clear w22r
          have wm := w22
          refine lv_icmp_eq (tgt := 883) hx hb dL_law_776 (by decide) (fun c23 => ?_) (fun c23 => ?_)
          · skip
            exact law_tail hL6 C0 _ _ _ hS (lv_sub hl [0, 3] rfl)
          · exact absurd (wx.trans wm.symm) c23
set_option maxHeartbeats 4000000 in
set_option maxRecDepth 100000 in
theorem law_c19 {p : Program} {l : Launch} {e : Env} {s : State} {m : MethodId} {below : List Frame} {meth : Method} {c : Code} {b L : Nat} {xs : Nat → Int32} (hL6 : L = 6) (C0 : lw_At p s m meth c b L xs) (D : va_G) (cI cJ cZ : ClassId) (hKN : KN D cI cJ cZ s) (x0 h4 a1 a2 a3 h3 b1 b2 h2 r1 h1 p4 p5 p6 hB l3 h5 lk1 m0 g1 g2 g3 g4 g5 g6 g7 g8 g9 g10 g11 g12 : Nat) (ug ub ur vg vb vr vn th : Nat → Int32) (hone : ∀ z, z < 9 → ug z = nI 1 ∧ ub z = nI 1 ∧ ur z = nI 1) (hmone : (∀ z, z < 9 → vg z = nI 1 ∧ vb z = nI 1 ∧ vr z = nI 1 ∧ vn z = -1) ∧ (∀ z, z < 9 → th z = nI (3 ^ z))) (hth : ∀ z, z < 9 → ¬ th z = 0) : ∀ (H : Heap) (locs : List Loc) (ls : Array Slot), va_P D vwCl [(x0, .inr (6, [.ref h4, .ref h3, .ref h2, .ref h1, .ref hB, .ref h5])), (h4, .inr (4, [.ref a1, .ref a2, .ref a3, .int (nI 1), .int (nI 0), .int (nI 0)])), (a1, .inl (cI, 9, .inl ug)), (a2, .inl (cI, 9, .inl ub)), (a3, .inl (cI, 9, .inl ur)), (h3, .inr (3, [.ref b1, .ref b2, .int (nI 1), .int (nI 0), .int (-1 : Int32)])), (b1, .inl (cJ, 320, .inr (.inl (fun _ => 0)))), (b2, .inl (cI, 9, .inl (fun _ => 0))), (h2, .inr (2, [.ref r1, .int (nI 0)])), (r1, .inl (cI, 9, .inl (fun _ => 0))), (h1, .inr (1, [.ref h4, .ref h3, .ref h2, .ref p4, .ref p5, .ref p6, .int (nI 0)])), (p4, .inl (cI, 9, .inl (fun _ => 0))), (p5, .inl (cJ, 0, .inr (.inl (fun _ => 0)))), (p6, .inl (cI, 0, .inl (fun _ => 0))), (hB, .inr (0, [.ref h4, .ref h3, .ref l3])), (l3, .inl (cI, 512, .inl (fun _ => 0))), (h5, .inr (5, [.ref lk1, .int (nI 0)])), (lk1, .inl (cI, 9, .inl (fun _ => 0))), (m0, .inr (7, [.int (nI 1), .ref g1, .ref g2, .ref g3, .int (nI 0), .ref g4, .int (-1 : Int32), .ref g5, .int (nI 0), .ref g6, .int (nI 0), .ref g7, .ref g8, .ref g9, .ref g10, .ref g11, .ref g12])), (g1, .inl (cI, 9, .inl vg)), (g2, .inl (cI, 9, .inl vb)), (g3, .inl (cI, 9, .inl vr)), (g4, .inl (cZ, 20480, .inl (fun _ => 0))), (g5, .inl (cI, 9, .inl vn)), (g6, .inl (cI, 9, .inl (fun _ => 0))), (g7, .inl (cI, 9, .inl (fun _ => 0))), (g8, .inl (cJ, 19683, .inr (.inl (fun _ => 0)))), (g9, .inl (cI, 19683, .inl (fun _ => 0))), (g10, .inl (cI, 19683, .inl (fun _ => 0))), (g11, .inl (cI, 19683, .inl (fun _ => 0))), (g12, .inl (cI, 9, .inl th))] H → va_D (fun q : Nat => s.heap.size ≤ q) [(x0, .inr (6, [.ref h4, .ref h3, .ref h2, .ref h1, .ref hB, .ref h5])), (h4, .inr (4, [.ref a1, .ref a2, .ref a3, .int (nI 1), .int (nI 0), .int (nI 0)])), (a1, .inl (cI, 9, .inl ug)), (a2, .inl (cI, 9, .inl ub)), (a3, .inl (cI, 9, .inl ur)), (h3, .inr (3, [.ref b1, .ref b2, .int (nI 1), .int (nI 0), .int (-1 : Int32)])), (b1, .inl (cJ, 320, .inr (.inl (fun _ => 0)))), (b2, .inl (cI, 9, .inl (fun _ => 0))), (h2, .inr (2, [.ref r1, .int (nI 0)])), (r1, .inl (cI, 9, .inl (fun _ => 0))), (h1, .inr (1, [.ref h4, .ref h3, .ref h2, .ref p4, .ref p5, .ref p6, .int (nI 0)])), (p4, .inl (cI, 9, .inl (fun _ => 0))), (p5, .inl (cJ, 0, .inr (.inl (fun _ => 0)))), (p6, .inl (cI, 0, .inl (fun _ => 0))), (hB, .inr (0, [.ref h4, .ref h3, .ref l3])), (l3, .inl (cI, 512, .inl (fun _ => 0))), (h5, .inr (5, [.ref lk1, .int (nI 0)])), (lk1, .inl (cI, 9, .inl (fun _ => 0))), (m0, .inr (7, [.int (nI 1), .ref g1, .ref g2, .ref g3, .int (nI 0), .ref g4, .int (-1 : Int32), .ref g5, .int (nI 0), .ref g6, .int (nI 0), .ref g7, .ref g8, .ref g9, .ref g10, .ref g11, .ref g12])), (g1, .inl (cI, 9, .inl vg)), (g2, .inl (cI, 9, .inl vb)), (g3, .inl (cI, 9, .inl vr)), (g4, .inl (cZ, 20480, .inl (fun _ => 0))), (g5, .inl (cI, 9, .inl vn)), (g6, .inl (cI, 9, .inl (fun _ => 0))), (g7, .inl (cI, 9, .inl (fun _ => 0))), (g8, .inl (cJ, 19683, .inr (.inl (fun _ => 0)))), (g9, .inl (cI, 19683, .inl (fun _ => 0))), (g10, .inl (cI, 19683, .inl (fun _ => 0))), (g11, .inl (cI, 19683, .inl (fun _ => 0))), (g12, .inl (cI, 9, .inl th))] → va_S (fun q : Nat => s.heap.size ≤ q) s.heap H locs → lv_has ls 4 [(3, .int (nI 0)), (2, .ref m0), (1, .ref x0), (0, .ref b)] → W p l e room_1 s m #[Value.ref b] below meth c H locs 31 100218 (lw_Z below #[Value.ref b] s) (F0 m 781 ls []) := by
  obtain ⟨hx, hb, hr, hml, hown, hts0, hX, hbl, hlocks, hgv⟩ := id C0
  have hts : ∀ w ∈ wsL_law, w.before #[Value.ref b] s = true := fun w h => hts0 w (wsL_law_in w h)
  have hown : s.vm.findClass RL = some m.cls := hown
  have hA : ∀ q : Nat, s.heap.size ≤ q → (fun q : Nat => s.heap.size ≤ q) q := fun _ h => h
  have hbA : ¬ (fun q : Nat => s.heap.size ≤ q) b := Nat.not_le.mpr hbl
  have hK := hKN.1
  intro H locs ls hP hD hS hl
  refine lv_aload_n hx hb dL_law_781 rfl (lv_at hl 2 rfl) ?_
  refine lv_aload_n hx hb dL_law_782 rfl (lv_at hl 3 rfl) ?_
  refine lv_iload_n hx hb dL_law_783 rfl (lv_at hl 0 rfl) ?_
  refine lv_iconst (v := nI 1) hx hb dL_law_784 (by decide) ?_
  refine lv_iadd hx hb dL_law_785 ?_
  refine cn_i (y := nI (0 + 1)) (nI_add 0 1) ?_
  refine va_sld hx hb hX hbl hbA hS (i := nI (0 + 1)) (vp_in_nI (by omega) (by omega)) dL_law_786 ?_
  refine cn_i (y := xs (0 + 1)) (congrArg xs (nI_clamp (by omega))) ?_
  refine pu_i (va_runV (As := [.int (xs (0 + 1))]) (rest := []) ⟨hx, hb, hml, hown, hts⟩ (c_X6_ordered l D cI cJ cZ x0 h4 h3 h2 h1 hB h5 r1 0 (xs (0 + 1)) (fun _ => 0) (by first | assumption | omega)) (cwV 1 hts gL_law_X6_ordered rfl rfl rfl (by decide +kernel) ⟨Nat.le_of_ble_eq_true rfl, Nat.le_of_ble_eq_true rfl⟩) ⟨pc_blind, va_recv hK hP (ci := 6) (q0 := 0) rfl rfl, fun U hU hW => ⟨rfl, by rw [hU]; exact hP.sub (ws' := [(x0, .inr (6, [.ref h4, .ref h3, .ref h2, .ref h1, .ref hB, .ref h5])), (h2, .inr (2, [.ref r1, .int (nI 0)])), (r1, .inl (cI, 9, .inl (fun _ => 0)))]) [0, 8, 9] rfl, hKN.warm hW⟩⟩ rfl rfl hl.1 rfl (lv_room (Nat.le_of_ble_eq_true rfl)) dL_law_787 ⟨Nat.le_of_ble_eq_true rfl, Nat.le_of_ble_eq_true rfl⟩) hS hP (fun r1 H locs w1r hP hS => ?_)
  have w1 : r1 = oF (fun _ => 0) 0 (xs (0 + 1)) := w1r
  clear w1r
  have wx := w1
  refine lv_aload_n hx hb dL_law_790 rfl (lv_at hl 1 rfl) ?_
  refine lv_aload_n hx hb dL_law_791 rfl (lv_at hl 3 rfl) ?_
  refine lv_iload_n hx hb dL_law_792 rfl (lv_at hl 0 rfl) ?_
  refine lv_iconst (v := nI 1) hx hb dL_law_793 (by decide) ?_
  refine lv_iadd hx hb dL_law_794 ?_
  refine cn_i (y := nI (0 + 1)) (nI_add 0 1) ?_
  refine va_sld hx hb hX hbl hbA hS (i := nI (0 + 1)) (vp_in_nI (by omega) (by omega)) dL_law_795 ?_
  refine cn_i (y := xs (0 + 1)) (congrArg xs (nI_clamp (by omega))) ?_
  refine pu_i (va_runV (As := [.int (xs (0 + 1))]) (rest := [.int r1]) ⟨hx, hb, hml, hown, hts⟩ (c_X7_ordered l D cI cJ cZ m0 g1 g2 g3 g4 g5 g6 g7 g8 g9 g10 g11 g12 0 (nI 1) (nI 0) (-1 : Int32) (nI 0) (xs (0 + 1)) (fun _ => 0) (by first | assumption | omega)) (cwV 1 hts gL_law_X7_ordered rfl rfl rfl (by decide +kernel) ⟨Nat.le_of_ble_eq_true rfl, Nat.le_of_ble_eq_true rfl⟩) ⟨pc_blind, va_recv hK hP (ci := 7) (q0 := 18) rfl rfl, fun U hU hW => ⟨rfl, by rw [hU]; exact hP.sub (ws' := [(m0, .inr (7, [.int (nI 1), .ref g1, .ref g2, .ref g3, .int (nI 0), .ref g4, .int (-1 : Int32), .ref g5, .int (nI 0), .ref g6, .int (nI 0), .ref g7, .ref g8, .ref g9, .ref g10, .ref g11, .ref g12])), (g6, .inl (cI, 9, .inl (fun _ => 0)))]) [18, 24] rfl, hKN.warm hW⟩⟩ rfl rfl hl.1 rfl (lv_room (Nat.le_of_ble_eq_true rfl)) dL_law_796 ⟨Nat.le_of_ble_eq_true rfl, Nat.le_of_ble_eq_true rfl⟩) hS hP (fun r2 H locs w2r hP hS => ?_)
  have w2 : r2 = oF (fun _ => 0) 0 (xs (0 + 1)) := w2r
  clear w2r
  have wm := w2
  refine lv_icmp_eq (tgt := 883) hx hb dL_law_799 (by decide) (fun c3 => ?_) (fun c3 => ?_)
  · skip
    exact law_tail hL6 C0 _ _ _ hS (lv_sub hl [0, 3] rfl)
  · exact absurd (wx.trans wm.symm) c3
set_option maxHeartbeats 4000000 in
set_option maxRecDepth 100000 in
theorem law_c20 {p : Program} {l : Launch} {e : Env} {s : State} {m : MethodId} {below : List Frame} {meth : Method} {c : Code} {b L : Nat} {xs : Nat → Int32} (hL6 : L = 6) (C0 : lw_At p s m meth c b L xs) (D : va_G) (cI cJ cZ : ClassId) (hKN : KN D cI cJ cZ s) (x0 h4 a1 a2 a3 h3 b1 b2 h2 r1 h1 p4 p5 p6 hB l3 h5 lk1 m0 g1 g2 g3 g4 g5 g6 g7 g8 g9 g10 g11 g12 : Nat) (ug ub ur vg vb vr vn th : Nat → Int32) (hone : ∀ z, z < 9 → ug z = nI 1 ∧ ub z = nI 1 ∧ ur z = nI 1) (hmone : (∀ z, z < 9 → vg z = nI 1 ∧ vb z = nI 1 ∧ vr z = nI 1 ∧ vn z = -1) ∧ (∀ z, z < 9 → th z = nI (3 ^ z))) (hth : ∀ z, z < 9 → ¬ th z = 0) : ∀ (H : Heap) (locs : List Loc) (ls : Array Slot), va_P D vwCl [(x0, .inr (6, [.ref h4, .ref h3, .ref h2, .ref h1, .ref hB, .ref h5])), (h4, .inr (4, [.ref a1, .ref a2, .ref a3, .int (nI 1), .int (nI 0), .int (nI 0)])), (a1, .inl (cI, 9, .inl ug)), (a2, .inl (cI, 9, .inl ub)), (a3, .inl (cI, 9, .inl ur)), (h3, .inr (3, [.ref b1, .ref b2, .int (nI 1), .int (nI 0), .int (-1 : Int32)])), (b1, .inl (cJ, 320, .inr (.inl (fun _ => 0)))), (b2, .inl (cI, 9, .inl (fun _ => 0))), (h2, .inr (2, [.ref r1, .int (nI 0)])), (r1, .inl (cI, 9, .inl (fun _ => 0))), (h1, .inr (1, [.ref h4, .ref h3, .ref h2, .ref p4, .ref p5, .ref p6, .int (nI 0)])), (p4, .inl (cI, 9, .inl (fun _ => 0))), (p5, .inl (cJ, 0, .inr (.inl (fun _ => 0)))), (p6, .inl (cI, 0, .inl (fun _ => 0))), (hB, .inr (0, [.ref h4, .ref h3, .ref l3])), (l3, .inl (cI, 512, .inl (fun _ => 0))), (h5, .inr (5, [.ref lk1, .int (nI 0)])), (lk1, .inl (cI, 9, .inl (fun _ => 0))), (m0, .inr (7, [.int (nI 1), .ref g1, .ref g2, .ref g3, .int (nI 0), .ref g4, .int (-1 : Int32), .ref g5, .int (nI 0), .ref g6, .int (nI 0), .ref g7, .ref g8, .ref g9, .ref g10, .ref g11, .ref g12])), (g1, .inl (cI, 9, .inl vg)), (g2, .inl (cI, 9, .inl vb)), (g3, .inl (cI, 9, .inl vr)), (g4, .inl (cZ, 20480, .inl (fun _ => 0))), (g5, .inl (cI, 9, .inl vn)), (g6, .inl (cI, 9, .inl (fun _ => 0))), (g7, .inl (cI, 9, .inl (fun _ => 0))), (g8, .inl (cJ, 19683, .inr (.inl (fun _ => 0)))), (g9, .inl (cI, 19683, .inl (fun _ => 0))), (g10, .inl (cI, 19683, .inl (fun _ => 0))), (g11, .inl (cI, 19683, .inl (fun _ => 0))), (g12, .inl (cI, 9, .inl th))] H → va_D (fun q : Nat => s.heap.size ≤ q) [(x0, .inr (6, [.ref h4, .ref h3, .ref h2, .ref h1, .ref hB, .ref h5])), (h4, .inr (4, [.ref a1, .ref a2, .ref a3, .int (nI 1), .int (nI 0), .int (nI 0)])), (a1, .inl (cI, 9, .inl ug)), (a2, .inl (cI, 9, .inl ub)), (a3, .inl (cI, 9, .inl ur)), (h3, .inr (3, [.ref b1, .ref b2, .int (nI 1), .int (nI 0), .int (-1 : Int32)])), (b1, .inl (cJ, 320, .inr (.inl (fun _ => 0)))), (b2, .inl (cI, 9, .inl (fun _ => 0))), (h2, .inr (2, [.ref r1, .int (nI 0)])), (r1, .inl (cI, 9, .inl (fun _ => 0))), (h1, .inr (1, [.ref h4, .ref h3, .ref h2, .ref p4, .ref p5, .ref p6, .int (nI 0)])), (p4, .inl (cI, 9, .inl (fun _ => 0))), (p5, .inl (cJ, 0, .inr (.inl (fun _ => 0)))), (p6, .inl (cI, 0, .inl (fun _ => 0))), (hB, .inr (0, [.ref h4, .ref h3, .ref l3])), (l3, .inl (cI, 512, .inl (fun _ => 0))), (h5, .inr (5, [.ref lk1, .int (nI 0)])), (lk1, .inl (cI, 9, .inl (fun _ => 0))), (m0, .inr (7, [.int (nI 1), .ref g1, .ref g2, .ref g3, .int (nI 0), .ref g4, .int (-1 : Int32), .ref g5, .int (nI 0), .ref g6, .int (nI 0), .ref g7, .ref g8, .ref g9, .ref g10, .ref g11, .ref g12])), (g1, .inl (cI, 9, .inl vg)), (g2, .inl (cI, 9, .inl vb)), (g3, .inl (cI, 9, .inl vr)), (g4, .inl (cZ, 20480, .inl (fun _ => 0))), (g5, .inl (cI, 9, .inl vn)), (g6, .inl (cI, 9, .inl (fun _ => 0))), (g7, .inl (cI, 9, .inl (fun _ => 0))), (g8, .inl (cJ, 19683, .inr (.inl (fun _ => 0)))), (g9, .inl (cI, 19683, .inl (fun _ => 0))), (g10, .inl (cI, 19683, .inl (fun _ => 0))), (g11, .inl (cI, 19683, .inl (fun _ => 0))), (g12, .inl (cI, 9, .inl th))] → va_S (fun q : Nat => s.heap.size ≤ q) s.heap H locs → lv_has ls 4 [(3, .int (nI 0)), (2, .ref m0), (1, .ref x0), (0, .ref b)] → W p l e room_1 s m #[Value.ref b] below meth c H locs 31 100218 (lw_Z below #[Value.ref b] s) (F0 m 804 ls []) := by
  obtain ⟨hx, hb, hr, hml, hown, hts0, hX, hbl, hlocks, hgv⟩ := id C0
  have hts : ∀ w ∈ wsL_law, w.before #[Value.ref b] s = true := fun w h => hts0 w (wsL_law_in w h)
  have hown : s.vm.findClass RL = some m.cls := hown
  have hA : ∀ q : Nat, s.heap.size ≤ q → (fun q : Nat => s.heap.size ≤ q) q := fun _ h => h
  have hbA : ¬ (fun q : Nat => s.heap.size ≤ q) b := Nat.not_le.mpr hbl
  have hK := hKN.1
  intro H locs ls hP hD hS hl
  refine lv_aload_n hx hb dL_law_804 rfl (lv_at hl 2 rfl) ?_
  refine lv_aload_n hx hb dL_law_805 rfl (lv_at hl 3 rfl) ?_
  refine lv_iload_n hx hb dL_law_806 rfl (lv_at hl 0 rfl) ?_
  refine lv_iconst (v := nI 1) hx hb dL_law_807 (by decide) ?_
  refine lv_iadd hx hb dL_law_808 ?_
  refine cn_i (y := nI (0 + 1)) (nI_add 0 1) ?_
  refine va_sld hx hb hX hbl hbA hS (i := nI (0 + 1)) (vp_in_nI (by omega) (by omega)) dL_law_809 ?_
  refine cn_i (y := xs (0 + 1)) (congrArg xs (nI_clamp (by omega))) ?_
  refine lv_aload_n hx hb dL_law_810 rfl (lv_at hl 3 rfl) ?_
  refine lv_iload_n hx hb dL_law_811 rfl (lv_at hl 0 rfl) ?_
  refine lv_iconst (v := nI 2) hx hb dL_law_812 (by decide) ?_
  refine lv_iadd hx hb dL_law_813 ?_
  refine cn_i (y := nI (0 + 2)) (nI_add 0 2) ?_
  refine va_sld hx hb hX hbl hbA hS (i := nI (0 + 2)) (vp_in_nI (by omega) (by omega)) dL_law_814 ?_
  refine cn_i (y := xs (0 + 2)) (congrArg xs (nI_clamp (by omega))) ?_
  refine pu_i (va_runV (As := [.int (xs (0 + 1)), .int (xs (0 + 2))]) (rest := []) ⟨hx, hb, hml, hown, hts⟩ (c_X6_run l D cI cJ cZ x0 h4 h3 h2 h1 hB h5 b1 b2 (nI 1) (xs (0 + 1)) (xs (0 + 2))) (cwV 2 hts gL_law_X6_run rfl rfl rfl (by decide +kernel) ⟨Nat.le_of_ble_eq_true rfl, Nat.le_of_ble_eq_true rfl⟩) ⟨pc_blind, va_recv hK hP (ci := 6) (q0 := 0) rfl rfl, fun U hU hW => ⟨rfl, by rw [hU]; exact hP.sub (ws' := [(x0, .inr (6, [.ref h4, .ref h3, .ref h2, .ref h1, .ref hB, .ref h5])), (h3, .inr (3, [.ref b1, .ref b2, .int (nI 1), .int (nI 0), .int (-1 : Int32)]))]) [0, 5] rfl, hKN.warm hW⟩⟩ rfl rfl hl.1 rfl (lv_room (Nat.le_of_ble_eq_true rfl)) dL_law_815 ⟨Nat.le_of_ble_eq_true rfl, Nat.le_of_ble_eq_true rfl⟩) hS hP (fun r1 H locs w1r hP hS => ?_)
  have w1 : r1 = -1 := w1r
  clear w1r
  obtain rfl : r1 = (-1 : Int32) := w1
  refine lv_aload_n hx hb dL_law_818 rfl (lv_at hl 1 rfl) ?_
  refine lv_aload_n hx hb dL_law_819 rfl (lv_at hl 3 rfl) ?_
  refine lv_iload_n hx hb dL_law_820 rfl (lv_at hl 0 rfl) ?_
  refine lv_iconst (v := nI 1) hx hb dL_law_821 (by decide) ?_
  refine lv_iadd hx hb dL_law_822 ?_
  refine cn_i (y := nI (0 + 1)) (nI_add 0 1) ?_
  refine va_sld hx hb hX hbl hbA hS (i := nI (0 + 1)) (vp_in_nI (by omega) (by omega)) dL_law_823 ?_
  refine cn_i (y := xs (0 + 1)) (congrArg xs (nI_clamp (by omega))) ?_
  refine lv_aload_n hx hb dL_law_824 rfl (lv_at hl 3 rfl) ?_
  refine lv_iload_n hx hb dL_law_825 rfl (lv_at hl 0 rfl) ?_
  refine lv_iconst (v := nI 2) hx hb dL_law_826 (by decide) ?_
  refine lv_iadd hx hb dL_law_827 ?_
  refine cn_i (y := nI (0 + 2)) (nI_add 0 2) ?_
  refine va_sld hx hb hX hbl hbA hS (i := nI (0 + 2)) (vp_in_nI (by omega) (by omega)) dL_law_828 ?_
  refine cn_i (y := xs (0 + 2)) (congrArg xs (nI_clamp (by omega))) ?_
  refine pu_i (va_runV (As := [.int (xs (0 + 1)), .int (xs (0 + 2))]) (rest := [.int (-1 : Int32)]) ⟨hx, hb, hml, hown, hts⟩ (c_X7_run l D cI cJ cZ m0 g1 g2 g3 g4 g5 g6 g7 g8 g9 g10 g11 g12 1 (nI 0) (nI 0) (nI 0) (xs (0 + 1)) (xs (0 + 2)) vn th (by first | assumption | omega) (by first | assumption | omega)) (cwV 2 hts gL_law_X7_run rfl rfl rfl (by decide +kernel) ⟨Nat.le_of_ble_eq_true rfl, Nat.le_of_ble_eq_true rfl⟩) ⟨pc_blind, va_recv hK hP (ci := 7) (q0 := 18) rfl rfl, fun U hU hW => ⟨rfl, by rw [hU]; exact hP.sub (ws' := [(m0, .inr (7, [.int (nI 1), .ref g1, .ref g2, .ref g3, .int (nI 0), .ref g4, .int (-1 : Int32), .ref g5, .int (nI 0), .ref g6, .int (nI 0), .ref g7, .ref g8, .ref g9, .ref g10, .ref g11, .ref g12])), (g5, .inl (cI, 9, .inl vn)), (g12, .inl (cI, 9, .inl th))]) [18, 23, 30] rfl, hKN.warm hW⟩⟩ rfl rfl hl.1 rfl (lv_room (Nat.le_of_ble_eq_true rfl)) dL_law_829 ⟨Nat.le_of_ble_eq_true rfl, Nat.le_of_ble_eq_true rfl⟩) hS hP (fun r2 H locs w2r hP hS => ?_)
  have w2 : r2 = -1 := w2r
  clear w2r
  obtain rfl : r2 = (-1 : Int32) := w2
  refine lv_icmp_eq (tgt := 883) hx hb dL_law_832 (by decide) (fun c3 => ?_) (fun c3 => ?_)
  · skip
    exact law_tail hL6 C0 _ _ _ hS (lv_sub hl [0, 3] rfl)
  · exact absurd c3 (by first | decide | exact nz_lt (by omega) | exact fun h => h (nz_ge (by omega)))
set_option maxHeartbeats 4000000 in
set_option maxRecDepth 100000 in
theorem law_c21 {p : Program} {l : Launch} {e : Env} {s : State} {m : MethodId} {below : List Frame} {meth : Method} {c : Code} {b L : Nat} {xs : Nat → Int32} (hL6 : L = 6) (C0 : lw_At p s m meth c b L xs) (D : va_G) (cI cJ cZ : ClassId) (hKN : KN D cI cJ cZ s) (x0 h4 a1 a2 a3 h3 b1 b2 h2 r1 h1 p4 p5 p6 hB l3 h5 lk1 m0 g1 g2 g3 g4 g5 g6 g7 g8 g9 g10 g11 g12 : Nat) (ug ub ur vg vb vr vn th : Nat → Int32) (hone : ∀ z, z < 9 → ug z = nI 1 ∧ ub z = nI 1 ∧ ur z = nI 1) (hmone : (∀ z, z < 9 → vg z = nI 1 ∧ vb z = nI 1 ∧ vr z = nI 1 ∧ vn z = -1) ∧ (∀ z, z < 9 → th z = nI (3 ^ z))) (hth : ∀ z, z < 9 → ¬ th z = 0) : ∀ (H : Heap) (locs : List Loc) (ls : Array Slot), va_P D vwCl [(x0, .inr (6, [.ref h4, .ref h3, .ref h2, .ref h1, .ref hB, .ref h5])), (h4, .inr (4, [.ref a1, .ref a2, .ref a3, .int (nI 1), .int (nI 0), .int (nI 0)])), (a1, .inl (cI, 9, .inl ug)), (a2, .inl (cI, 9, .inl ub)), (a3, .inl (cI, 9, .inl ur)), (h3, .inr (3, [.ref b1, .ref b2, .int (nI 1), .int (nI 0), .int (-1 : Int32)])), (b1, .inl (cJ, 320, .inr (.inl (fun _ => 0)))), (b2, .inl (cI, 9, .inl (fun _ => 0))), (h2, .inr (2, [.ref r1, .int (nI 0)])), (r1, .inl (cI, 9, .inl (fun _ => 0))), (h1, .inr (1, [.ref h4, .ref h3, .ref h2, .ref p4, .ref p5, .ref p6, .int (nI 0)])), (p4, .inl (cI, 9, .inl (fun _ => 0))), (p5, .inl (cJ, 0, .inr (.inl (fun _ => 0)))), (p6, .inl (cI, 0, .inl (fun _ => 0))), (hB, .inr (0, [.ref h4, .ref h3, .ref l3])), (l3, .inl (cI, 512, .inl (fun _ => 0))), (h5, .inr (5, [.ref lk1, .int (nI 0)])), (lk1, .inl (cI, 9, .inl (fun _ => 0))), (m0, .inr (7, [.int (nI 1), .ref g1, .ref g2, .ref g3, .int (nI 0), .ref g4, .int (-1 : Int32), .ref g5, .int (nI 0), .ref g6, .int (nI 0), .ref g7, .ref g8, .ref g9, .ref g10, .ref g11, .ref g12])), (g1, .inl (cI, 9, .inl vg)), (g2, .inl (cI, 9, .inl vb)), (g3, .inl (cI, 9, .inl vr)), (g4, .inl (cZ, 20480, .inl (fun _ => 0))), (g5, .inl (cI, 9, .inl vn)), (g6, .inl (cI, 9, .inl (fun _ => 0))), (g7, .inl (cI, 9, .inl (fun _ => 0))), (g8, .inl (cJ, 19683, .inr (.inl (fun _ => 0)))), (g9, .inl (cI, 19683, .inl (fun _ => 0))), (g10, .inl (cI, 19683, .inl (fun _ => 0))), (g11, .inl (cI, 19683, .inl (fun _ => 0))), (g12, .inl (cI, 9, .inl th))] H → va_D (fun q : Nat => s.heap.size ≤ q) [(x0, .inr (6, [.ref h4, .ref h3, .ref h2, .ref h1, .ref hB, .ref h5])), (h4, .inr (4, [.ref a1, .ref a2, .ref a3, .int (nI 1), .int (nI 0), .int (nI 0)])), (a1, .inl (cI, 9, .inl ug)), (a2, .inl (cI, 9, .inl ub)), (a3, .inl (cI, 9, .inl ur)), (h3, .inr (3, [.ref b1, .ref b2, .int (nI 1), .int (nI 0), .int (-1 : Int32)])), (b1, .inl (cJ, 320, .inr (.inl (fun _ => 0)))), (b2, .inl (cI, 9, .inl (fun _ => 0))), (h2, .inr (2, [.ref r1, .int (nI 0)])), (r1, .inl (cI, 9, .inl (fun _ => 0))), (h1, .inr (1, [.ref h4, .ref h3, .ref h2, .ref p4, .ref p5, .ref p6, .int (nI 0)])), (p4, .inl (cI, 9, .inl (fun _ => 0))), (p5, .inl (cJ, 0, .inr (.inl (fun _ => 0)))), (p6, .inl (cI, 0, .inl (fun _ => 0))), (hB, .inr (0, [.ref h4, .ref h3, .ref l3])), (l3, .inl (cI, 512, .inl (fun _ => 0))), (h5, .inr (5, [.ref lk1, .int (nI 0)])), (lk1, .inl (cI, 9, .inl (fun _ => 0))), (m0, .inr (7, [.int (nI 1), .ref g1, .ref g2, .ref g3, .int (nI 0), .ref g4, .int (-1 : Int32), .ref g5, .int (nI 0), .ref g6, .int (nI 0), .ref g7, .ref g8, .ref g9, .ref g10, .ref g11, .ref g12])), (g1, .inl (cI, 9, .inl vg)), (g2, .inl (cI, 9, .inl vb)), (g3, .inl (cI, 9, .inl vr)), (g4, .inl (cZ, 20480, .inl (fun _ => 0))), (g5, .inl (cI, 9, .inl vn)), (g6, .inl (cI, 9, .inl (fun _ => 0))), (g7, .inl (cI, 9, .inl (fun _ => 0))), (g8, .inl (cJ, 19683, .inr (.inl (fun _ => 0)))), (g9, .inl (cI, 19683, .inl (fun _ => 0))), (g10, .inl (cI, 19683, .inl (fun _ => 0))), (g11, .inl (cI, 19683, .inl (fun _ => 0))), (g12, .inl (cI, 9, .inl th))] → va_S (fun q : Nat => s.heap.size ≤ q) s.heap H locs → lv_has ls 4 [(3, .int (nI 0)), (2, .ref m0), (1, .ref x0), (0, .ref b)] → W p l e room_1 s m #[Value.ref b] below meth c H locs 31 100218 (lw_Z below #[Value.ref b] s) (F0 m 837 ls []) := by
  obtain ⟨hx, hb, hr, hml, hown, hts0, hX, hbl, hlocks, hgv⟩ := id C0
  have hts : ∀ w ∈ wsL_law, w.before #[Value.ref b] s = true := fun w h => hts0 w (wsL_law_in w h)
  have hown : s.vm.findClass RL = some m.cls := hown
  have hA : ∀ q : Nat, s.heap.size ≤ q → (fun q : Nat => s.heap.size ≤ q) q := fun _ h => h
  have hbA : ¬ (fun q : Nat => s.heap.size ≤ q) b := Nat.not_le.mpr hbl
  have hK := hKN.1
  intro H locs ls hP hD hS hl
  refine lv_aload_n hx hb dL_law_837 rfl (lv_at hl 2 rfl) ?_
  refine lv_aload_n hx hb dL_law_838 rfl (lv_at hl 3 rfl) ?_
  refine lv_iload_n hx hb dL_law_839 rfl (lv_at hl 0 rfl) ?_
  refine lv_iconst (v := nI 1) hx hb dL_law_840 (by decide) ?_
  refine lv_iadd hx hb dL_law_841 ?_
  refine cn_i (y := nI (0 + 1)) (nI_add 0 1) ?_
  refine va_sld hx hb hX hbl hbA hS (i := nI (0 + 1)) (vp_in_nI (by omega) (by omega)) dL_law_842 ?_
  refine cn_i (y := xs (0 + 1)) (congrArg xs (nI_clamp (by omega))) ?_
  refine pu_i (va_runV (As := [.int (xs (0 + 1))]) (rest := []) ⟨hx, hb, hml, hown, hts⟩ (c_X6_looked l D cI cJ cZ x0 h4 h3 h2 h1 hB h5 lk1 0 (xs (0 + 1)) (fun _ => 0) (by first | assumption | omega)) (cwV 1 hts gL_law_X6_looked rfl rfl rfl (by decide +kernel) ⟨Nat.le_of_ble_eq_true rfl, Nat.le_of_ble_eq_true rfl⟩) ⟨pc_blind, va_recv hK hP (ci := 6) (q0 := 0) rfl rfl, fun U hU hW => ⟨rfl, by rw [hU]; exact hP.sub (ws' := [(x0, .inr (6, [.ref h4, .ref h3, .ref h2, .ref h1, .ref hB, .ref h5])), (h5, .inr (5, [.ref lk1, .int (nI 0)])), (lk1, .inl (cI, 9, .inl (fun _ => 0)))]) [0, 16, 17] rfl, hKN.warm hW⟩⟩ rfl rfl hl.1 rfl (lv_room (Nat.le_of_ble_eq_true rfl)) dL_law_843 ⟨Nat.le_of_ble_eq_true rfl, Nat.le_of_ble_eq_true rfl⟩) hS hP (fun r1 H locs w1r hP hS => ?_)
  have w1 : r1 = oF (fun _ => 0) 0 (xs (0 + 1)) := w1r
  clear w1r
  have wx := w1
  refine lv_aload_n hx hb dL_law_846 rfl (lv_at hl 1 rfl) ?_
  refine lv_aload_n hx hb dL_law_847 rfl (lv_at hl 3 rfl) ?_
  refine lv_iload_n hx hb dL_law_848 rfl (lv_at hl 0 rfl) ?_
  refine lv_iconst (v := nI 1) hx hb dL_law_849 (by decide) ?_
  refine lv_iadd hx hb dL_law_850 ?_
  refine cn_i (y := nI (0 + 1)) (nI_add 0 1) ?_
  refine va_sld hx hb hX hbl hbA hS (i := nI (0 + 1)) (vp_in_nI (by omega) (by omega)) dL_law_851 ?_
  refine cn_i (y := xs (0 + 1)) (congrArg xs (nI_clamp (by omega))) ?_
  refine pu_i (va_runV (As := [.int (xs (0 + 1))]) (rest := [.int r1]) ⟨hx, hb, hml, hown, hts⟩ (c_X7_looked l D cI cJ cZ m0 g1 g2 g3 g4 g5 g6 g7 g8 g9 g10 g11 g12 0 (nI 1) (nI 0) (-1 : Int32) (nI 0) (xs (0 + 1)) (fun _ => 0) (by first | assumption | omega)) (cwV 1 hts gL_law_X7_looked rfl rfl rfl (by decide +kernel) ⟨Nat.le_of_ble_eq_true rfl, Nat.le_of_ble_eq_true rfl⟩) ⟨pc_blind, va_recv hK hP (ci := 7) (q0 := 18) rfl rfl, fun U hU hW => ⟨rfl, by rw [hU]; exact hP.sub (ws' := [(m0, .inr (7, [.int (nI 1), .ref g1, .ref g2, .ref g3, .int (nI 0), .ref g4, .int (-1 : Int32), .ref g5, .int (nI 0), .ref g6, .int (nI 0), .ref g7, .ref g8, .ref g9, .ref g10, .ref g11, .ref g12])), (g7, .inl (cI, 9, .inl (fun _ => 0)))]) [18, 25] rfl, hKN.warm hW⟩⟩ rfl rfl hl.1 rfl (lv_room (Nat.le_of_ble_eq_true rfl)) dL_law_852 ⟨Nat.le_of_ble_eq_true rfl, Nat.le_of_ble_eq_true rfl⟩) hS hP (fun r2 H locs w2r hP hS => ?_)
  have w2 : r2 = oF (fun _ => 0) 0 (xs (0 + 1)) := w2r
  clear w2r
  have wm := w2
  refine lv_icmp_eq (tgt := 883) hx hb dL_law_855 (by decide) (fun c3 => ?_) (fun c3 => ?_)
  · skip
    exact law_tail hL6 C0 _ _ _ hS (lv_sub hl [0, 3] rfl)
  · exact absurd (wx.trans wm.symm) c3
set_option maxHeartbeats 4000000 in
set_option maxRecDepth 100000 in
theorem law_c22 {p : Program} {l : Launch} {e : Env} {s : State} {m : MethodId} {below : List Frame} {meth : Method} {c : Code} {b L : Nat} {xs : Nat → Int32} (hL6 : L = 6) (C0 : lw_At p s m meth c b L xs) (D : va_G) (cI cJ cZ : ClassId) (hKN : KN D cI cJ cZ s) (x0 h4 a1 a2 a3 h3 b1 b2 h2 r1 h1 p4 p5 p6 hB l3 h5 lk1 m0 g1 g2 g3 g4 g5 g6 g7 g8 g9 g10 g11 g12 : Nat) (ug ub ur vg vb vr vn th : Nat → Int32) (hone : ∀ z, z < 9 → ug z = nI 1 ∧ ub z = nI 1 ∧ ur z = nI 1) (hmone : (∀ z, z < 9 → vg z = nI 1 ∧ vb z = nI 1 ∧ vr z = nI 1 ∧ vn z = -1) ∧ (∀ z, z < 9 → th z = nI (3 ^ z))) (hth : ∀ z, z < 9 → ¬ th z = 0) : ∀ (H : Heap) (locs : List Loc) (ls : Array Slot), va_P D vwCl [(x0, .inr (6, [.ref h4, .ref h3, .ref h2, .ref h1, .ref hB, .ref h5])), (h4, .inr (4, [.ref a1, .ref a2, .ref a3, .int (nI 1), .int (nI 0), .int (nI 0)])), (a1, .inl (cI, 9, .inl ug)), (a2, .inl (cI, 9, .inl ub)), (a3, .inl (cI, 9, .inl ur)), (h3, .inr (3, [.ref b1, .ref b2, .int (nI 1), .int (nI 0), .int (-1 : Int32)])), (b1, .inl (cJ, 320, .inr (.inl (fun _ => 0)))), (b2, .inl (cI, 9, .inl (fun _ => 0))), (h2, .inr (2, [.ref r1, .int (nI 0)])), (r1, .inl (cI, 9, .inl (fun _ => 0))), (h1, .inr (1, [.ref h4, .ref h3, .ref h2, .ref p4, .ref p5, .ref p6, .int (nI 0)])), (p4, .inl (cI, 9, .inl (fun _ => 0))), (p5, .inl (cJ, 0, .inr (.inl (fun _ => 0)))), (p6, .inl (cI, 0, .inl (fun _ => 0))), (hB, .inr (0, [.ref h4, .ref h3, .ref l3])), (l3, .inl (cI, 512, .inl (fun _ => 0))), (h5, .inr (5, [.ref lk1, .int (nI 0)])), (lk1, .inl (cI, 9, .inl (fun _ => 0))), (m0, .inr (7, [.int (nI 1), .ref g1, .ref g2, .ref g3, .int (nI 0), .ref g4, .int (-1 : Int32), .ref g5, .int (nI 0), .ref g6, .int (nI 0), .ref g7, .ref g8, .ref g9, .ref g10, .ref g11, .ref g12])), (g1, .inl (cI, 9, .inl vg)), (g2, .inl (cI, 9, .inl vb)), (g3, .inl (cI, 9, .inl vr)), (g4, .inl (cZ, 20480, .inl (fun _ => 0))), (g5, .inl (cI, 9, .inl vn)), (g6, .inl (cI, 9, .inl (fun _ => 0))), (g7, .inl (cI, 9, .inl (fun _ => 0))), (g8, .inl (cJ, 19683, .inr (.inl (fun _ => 0)))), (g9, .inl (cI, 19683, .inl (fun _ => 0))), (g10, .inl (cI, 19683, .inl (fun _ => 0))), (g11, .inl (cI, 19683, .inl (fun _ => 0))), (g12, .inl (cI, 9, .inl th))] H → va_D (fun q : Nat => s.heap.size ≤ q) [(x0, .inr (6, [.ref h4, .ref h3, .ref h2, .ref h1, .ref hB, .ref h5])), (h4, .inr (4, [.ref a1, .ref a2, .ref a3, .int (nI 1), .int (nI 0), .int (nI 0)])), (a1, .inl (cI, 9, .inl ug)), (a2, .inl (cI, 9, .inl ub)), (a3, .inl (cI, 9, .inl ur)), (h3, .inr (3, [.ref b1, .ref b2, .int (nI 1), .int (nI 0), .int (-1 : Int32)])), (b1, .inl (cJ, 320, .inr (.inl (fun _ => 0)))), (b2, .inl (cI, 9, .inl (fun _ => 0))), (h2, .inr (2, [.ref r1, .int (nI 0)])), (r1, .inl (cI, 9, .inl (fun _ => 0))), (h1, .inr (1, [.ref h4, .ref h3, .ref h2, .ref p4, .ref p5, .ref p6, .int (nI 0)])), (p4, .inl (cI, 9, .inl (fun _ => 0))), (p5, .inl (cJ, 0, .inr (.inl (fun _ => 0)))), (p6, .inl (cI, 0, .inl (fun _ => 0))), (hB, .inr (0, [.ref h4, .ref h3, .ref l3])), (l3, .inl (cI, 512, .inl (fun _ => 0))), (h5, .inr (5, [.ref lk1, .int (nI 0)])), (lk1, .inl (cI, 9, .inl (fun _ => 0))), (m0, .inr (7, [.int (nI 1), .ref g1, .ref g2, .ref g3, .int (nI 0), .ref g4, .int (-1 : Int32), .ref g5, .int (nI 0), .ref g6, .int (nI 0), .ref g7, .ref g8, .ref g9, .ref g10, .ref g11, .ref g12])), (g1, .inl (cI, 9, .inl vg)), (g2, .inl (cI, 9, .inl vb)), (g3, .inl (cI, 9, .inl vr)), (g4, .inl (cZ, 20480, .inl (fun _ => 0))), (g5, .inl (cI, 9, .inl vn)), (g6, .inl (cI, 9, .inl (fun _ => 0))), (g7, .inl (cI, 9, .inl (fun _ => 0))), (g8, .inl (cJ, 19683, .inr (.inl (fun _ => 0)))), (g9, .inl (cI, 19683, .inl (fun _ => 0))), (g10, .inl (cI, 19683, .inl (fun _ => 0))), (g11, .inl (cI, 19683, .inl (fun _ => 0))), (g12, .inl (cI, 9, .inl th))] → va_S (fun q : Nat => s.heap.size ≤ q) s.heap H locs → lv_has ls 4 [(3, .int (nI 0)), (2, .ref m0), (1, .ref x0), (0, .ref b)] → W p l e room_1 s m #[Value.ref b] below meth c H locs 31 100218 (lw_Z below #[Value.ref b] s) (F0 m 860 ls []) := by
  obtain ⟨hx, hb, hr, hml, hown, hts0, hX, hbl, hlocks, hgv⟩ := id C0
  have hts : ∀ w ∈ wsL_law, w.before #[Value.ref b] s = true := fun w h => hts0 w (wsL_law_in w h)
  have hown : s.vm.findClass RL = some m.cls := hown
  have hA : ∀ q : Nat, s.heap.size ≤ q → (fun q : Nat => s.heap.size ≤ q) q := fun _ h => h
  have hbA : ¬ (fun q : Nat => s.heap.size ≤ q) b := Nat.not_le.mpr hbl
  have hK := hKN.1
  intro H locs ls hP hD hS hl
  refine lv_aload_n hx hb dL_law_860 rfl (lv_at hl 2 rfl) ?_
  refine lv_aload_n hx hb dL_law_861 rfl (lv_at hl 3 rfl) ?_
  refine lv_iload_n hx hb dL_law_862 rfl (lv_at hl 0 rfl) ?_
  refine lv_iconst (v := nI 1) hx hb dL_law_863 (by decide) ?_
  refine lv_iadd hx hb dL_law_864 ?_
  refine cn_i (y := nI (0 + 1)) (nI_add 0 1) ?_
  refine va_sld hx hb hX hbl hbA hS (i := nI (0 + 1)) (vp_in_nI (by omega) (by omega)) dL_law_865 ?_
  refine cn_i (y := xs (0 + 1)) (congrArg xs (nI_clamp (by omega))) ?_
  refine pu_i (va_runV (As := [.int (xs (0 + 1))]) (rest := []) ⟨hx, hb, hml, hown, hts⟩ (c_X6_about l D cI cJ cZ x0 h4 h3 h2 h1 hB h5 a1 a2 a3 b1 b2 r1 lk1 (nI 1) (nI 0) (nI 0) (nI 1) (nI 0) (-1 : Int32) (nI 0) (nI 0) (xs (0 + 1))) (cwV 1 hts gL_law_X6_about rfl rfl rfl (by decide +kernel) ⟨Nat.le_of_ble_eq_true rfl, Nat.le_of_ble_eq_true rfl⟩) ⟨pc_blind, va_recv hK hP (ci := 6) (q0 := 0) rfl rfl, fun U hU hW => ⟨rfl, by rw [hU]; exact hP.sub (ws' := [(x0, .inr (6, [.ref h4, .ref h3, .ref h2, .ref h1, .ref hB, .ref h5])), (h4, .inr (4, [.ref a1, .ref a2, .ref a3, .int (nI 1), .int (nI 0), .int (nI 0)])), (h3, .inr (3, [.ref b1, .ref b2, .int (nI 1), .int (nI 0), .int (-1 : Int32)])), (h2, .inr (2, [.ref r1, .int (nI 0)])), (h5, .inr (5, [.ref lk1, .int (nI 0)]))]) [0, 1, 5, 8, 16] rfl, hKN.warm hW⟩⟩ rfl rfl hl.1 rfl (lv_room (Nat.le_of_ble_eq_true rfl)) dL_law_866 ⟨Nat.le_of_ble_eq_true rfl, Nat.le_of_ble_eq_true rfl⟩) hS hP (fun r1 H locs w1r hP hS => ?_)
  have w1 : r1 = abF (nI 1) (nI 0) (-1 : Int32) (nI 0) (nI 0) (xs (0 + 1)) := w1r
  clear w1r
  have wx := w1
  refine lv_aload_n hx hb dL_law_869 rfl (lv_at hl 1 rfl) ?_
  refine lv_aload_n hx hb dL_law_870 rfl (lv_at hl 3 rfl) ?_
  refine lv_iload_n hx hb dL_law_871 rfl (lv_at hl 0 rfl) ?_
  refine lv_iconst (v := nI 1) hx hb dL_law_872 (by decide) ?_
  refine lv_iadd hx hb dL_law_873 ?_
  refine cn_i (y := nI (0 + 1)) (nI_add 0 1) ?_
  refine va_sld hx hb hX hbl hbA hS (i := nI (0 + 1)) (vp_in_nI (by omega) (by omega)) dL_law_874 ?_
  refine cn_i (y := xs (0 + 1)) (congrArg xs (nI_clamp (by omega))) ?_
  refine pu_i (va_runV (As := [.int (xs (0 + 1))]) (rest := [.int r1]) ⟨hx, hb, hml, hown, hts⟩ (c_X7_about l D cI cJ cZ m0 g1 g2 g3 g4 g5 g6 g7 g8 g9 g10 g11 g12 (nI 1) (nI 0) (-1 : Int32) (nI 0) (nI 0) (xs (0 + 1))) (cwV 1 hts gL_law_X7_about rfl rfl rfl (by decide +kernel) ⟨Nat.le_of_ble_eq_true rfl, Nat.le_of_ble_eq_true rfl⟩) ⟨pc_blind, va_recv hK hP (ci := 7) (q0 := 18) rfl rfl, fun U hU hW => ⟨rfl, by rw [hU]; exact hP.sub (ws' := [(m0, .inr (7, [.int (nI 1), .ref g1, .ref g2, .ref g3, .int (nI 0), .ref g4, .int (-1 : Int32), .ref g5, .int (nI 0), .ref g6, .int (nI 0), .ref g7, .ref g8, .ref g9, .ref g10, .ref g11, .ref g12]))]) [18] rfl, hKN.warm hW⟩⟩ rfl rfl hl.1 rfl (lv_room (Nat.le_of_ble_eq_true rfl)) dL_law_875 ⟨Nat.le_of_ble_eq_true rfl, Nat.le_of_ble_eq_true rfl⟩) hS hP (fun r2 H locs w2r hP hS => ?_)
  have w2 : r2 = abF (nI 1) (nI 0) (-1 : Int32) (nI 0) (nI 0) (xs (0 + 1)) := w2r
  clear w2r
  have wm := w2
  refine lv_icmp_eq (tgt := 883) hx hb dL_law_878 (by decide) (fun c3 => ?_) (fun c3 => ?_)
  · skip
    exact law_tail hL6 C0 _ _ _ hS (lv_sub hl [0, 3] rfl)
  · exact absurd (wx.trans wm.symm) c3
