/-! my own base: nest mates' words, the tables' bundle, calls of pure methods and of methods that write -/
def nw_L : List Cond := [.fieldLinkNest RX6 102 RX3 "system" "I" RX6, .fieldLinkNest RX6 128 RX4 "goods" "[I" RX6, .fieldLinkNest RX6 132 RX4 "bads" "[I" RX6, .fieldLinkNest RX6 135 RX4 "prices" "[I" RX6, .fieldLinkNest RX6 141 RX4 "seenGood" "I" RX6, .fieldLinkNest RX6 151 RX4 "seen" "I" RX6, .fieldLinkNest RX6 196 RX2 "count" "I" RX6, .fieldLinkNest RX6 203 RX2 "row" "[I" RX6, .fieldLinkNest RX6 212 RX5 "count" "I" RX6, .fieldLinkNest RX6 213 RX5 "looks" "[I" RX6, .fieldLinkNest RX6 216 RX4 "count" "I" RX6, .fieldLinkNest RX6 217 RX3 "count" "I" RX6, .fieldLinkNest RX0 23 RX4 "count" "I" RX6, .fieldLinkNest RX1 123 RX4 "goods" "[I" RX6, .fieldLinkNest RX1 126 RX4 "bads" "[I" RX6, .fieldLinkNest RX1 45 RX4 "seen" "I" RX6, .fieldLinkNest RX1 51 RX4 "seenGood" "I" RX6, .fieldLinkNest RX1 57 RX4 "count" "I" RX6, .fieldLinkNest RX1 92 RX4 "prices" "[I" RX6, .fieldLinkNest RX2 19 RX4 "count" "I" RX6, .fieldLinkNest RX2 26 RX4 "goods" "[I" RX6, .fieldLinkNest RX2 29 RX4 "bads" "[I" RX6, .fieldLinkNest RX2 32 RX4 "prices" "[I" RX6, .methodLinkNest RX6 25 yX2_init RX6, .methodLinkNest RX6 50 yX5_init RX6]
def nw (U : State) : Prop := ∀ w ∈ nw_L, va_Nw w U
theorem nw_on : ∀ w ∈ nw_L, w.onTables = true := by decide +kernel
theorem nw_in : ∀ w ∈ nw_L, w ∈ lw_tbl := by decide +kernel
def nw_nest : Cond → Bool
  | .fieldLinkNest _ _ _ _ _ _ => true
  | .methodLinkNest _ _ _ _ => true
  | _ => false
theorem nw_form : ∀ w ∈ nw_L, nw_nest w = true := by decide +kernel
theorem nw_warm1 {w : Cond} (hw : nw_nest w = true) {s U : State} (hW : s.WarmedH U.vm) (hZ : va_Nw w s) : va_Nw w U := by
  cases w <;> first | exact va_Nw.warmF hW hZ | exact va_Nw.warmM hW hZ | exact absurd hw (by simp [nw_nest])
theorem nw.same {u U : State} (h : u.vm = U.vm) (hZ : nw u) : nw U := fun w hw => va_Nw.same (nw_on w hw) h (hZ w hw)
theorem nw.warm {s U : State} (hW : s.WarmedH U.vm) (hZ : nw s) : nw U := fun w hw => nw_warm1 (nw_form w hw) hW (hZ w hw)
/-- the classes, the three array classes, the nest mates' words -/
def KN (D : va_G) (cI cJ cZ : ClassId) (U : State) : Prop := va_K D vwCl [(cI, .int), (cJ, .long), (cZ, .boolean)] U ∧ nw U
theorem KN.same {D : va_G} {cI cJ cZ : ClassId} {u U : State} (h : u.vm = U.vm) (hZ : KN D cI cJ cZ u) : KN D cI cJ cZ U := ⟨va_K.moved (by rw [h]; exact Vm.Alike.refl U.vm) hZ.1, hZ.2.same h⟩
theorem KN.warm {D : va_G} {cI cJ cZ : ClassId} {s U : State} (hW : s.WarmedH U.vm) (hZ : KN D cI cJ cZ s) : KN D cI cJ cZ U := ⟨va_K.moved hW.alike hZ.1, hZ.2.warm hW⟩
/-- a pure method's start -/
def pc_ (D : va_G) (cI cJ cZ : ClassId) (av : List Value) (ws : va_W) : Array Value → State → Prop := va_Pc av (fun U => va_P D vwCl ws U.heap ∧ KN D cI cJ cZ U)
theorem pc_blind {D : va_G} {cI cJ cZ : ClassId} {av : List Value} {ws : va_W} : FrameBlind (pc_ D cI cJ cZ av ws) := fun a U g mk h => ⟨h.1, h.2.1, KN.same (u := U) (U := U.calling g mk a) rfl h.2.2⟩
/-- the start of a method that writes its cells alone -/
def pm_ (D : va_G) (cI cJ cZ : ClassId) (av : List Value) (ws : va_W) : Array Value → State → Prop := va_Pc av (fun U => va_P D vwCl ws U.heap ∧ KN D cI cJ cZ U ∧ va_D (fun _ => True) ws)
theorem pm_blind {D : va_G} {cI cJ cZ : ClassId} {av : List Value} {ws : va_W} : FrameBlind (pm_ D cI cJ cZ av ws) := fun a U g mk h => ⟨h.1, h.2.1, KN.same (u := U) (U := U.calling g mk a) rfl h.2.2.1, h.2.2.2⟩
/-- the start of a method that makes cells -/
def pn_ (D : va_G) (cI cJ cZ : ClassId) (sz : Nat) (av : List Value) (ws : va_W) : Array Value → State → Prop := va_Pc av (fun U => U.heap.size = sz ∧ va_P D vwCl ws U.heap ∧ KN D cI cJ cZ U ∧ va_D (fun _ => True) ws)
theorem pn_blind {D : va_G} {cI cJ cZ : ClassId} {sz : Nat} {av : List Value} {ws : va_W} : FrameBlind (pn_ D cI cJ cZ sz av ws) := fun a U g mk h => ⟨h.1, h.2.1, h.2.2.1, KN.same (u := U) (U := U.calling g mk a) rfl h.2.2.2.1, h.2.2.2.2⟩
/-- the addresses that a method may write -/
def aA (as : List Nat) : Nat → Prop := fun q => q ∈ as
def aN : Nat → Prop := fun _ => False
theorem va_D.addr {A : Nat → Prop} {ws : va_W} {as : List Nat} (h : va_D A ws) (ha : ws.map Prod.fst = as) : va_D (aA as) ws := by
  refine ⟨h.1, fun k q hk => ?_⟩
  rw [← ha]
  exact List.mem_map.mpr ⟨q, List.mem_of_getElem? hk, rfl⟩
theorem va_D.same {A : Nat → Prop} {ws ws' : va_W} (h : va_D A ws) (hf : ws'.map Prod.fst = ws.map Prod.fst) : va_D A ws' := by
  have at' : ∀ (k : Nat) (q : Nat × va_E), ws'[k]? = some q → ∃ q2, ws[k]? = some q2 ∧ q2.1 = q.1 := by
    intro k q hq
    have h1 : (ws'.map Prod.fst)[k]? = some q.1 := by rw [List.getElem?_map, hq]; rfl
    rw [hf, List.getElem?_map] at h1
    cases hi : ws[k]? with
    | none => rw [hi] at h1; cases h1
    | some q2 => rw [hi] at h1; exact ⟨q2, rfl, Option.some.inj h1⟩
  refine ⟨fun i j x y hx hy e => ?_, fun k q hk => ?_⟩
  · obtain ⟨x2, g1, g2⟩ := at' i x hx
    obtain ⟨y2, g3, g4⟩ := at' j y hy
    exact h.1 i j x2 y2 g1 g3 (by rw [g2, g4]; exact e)
  · obtain ⟨q2, g1, g2⟩ := at' k q hk
    rw [← g2]; exact h.2 k q2 g1
/-- behind a call that wrote its own cells: the caller's world with these cells new, all at their places -/
theorem rp_join {A0 : Nat → Prop} {D : va_G} {cl : List vw_C} {ws ws' wc w1 : va_W} {as : List Nat} {H H1 : Heap} {n : Nat} (hP : va_P D cl ws H) (hD : va_D A0 ws) (isC isR : List Nat) (hC : isC.map (fun i => ws[i]?) = wc.map some) (hA : wc.map Prod.fst = as)
    (hR : isR.map (fun i => ws[i]?) = isR.map (fun i => ws'[i]?)) (h1 : isC.map (fun i => ws'[i]?) = w1.map some) (hf : ws'.map Prod.fst = ws.map Prod.fst) (hn : ws'.length = n) (hcov : ∀ k, k < n → k ∈ isR ∨ k ∈ isC) (hdis : ∀ i ∈ isR, i ∉ isC)
    (hk : ∀ q : Nat, q < H.size → ¬ aA as q → H1[q]? = H[q]?) (hP1 : va_P D cl w1 H1) : va_P D cl ws' H1 ∧ va_D A0 ws' := by
  have at' : ∀ {is : List Nat} {v w : va_W}, is.map (fun i => v[i]?) = w.map some → ∀ (k : Nat) (q : Nat × va_E), w[k]? = some q → ∃ i, is[k]? = some i ∧ v[i]? = some q := by
    intro is v w hs k q hq
    have h1 : (is.map (fun i => v[i]?))[k]? = some (some q) := by rw [hs, List.getElem?_map, hq]; rfl
    rw [List.getElem?_map] at h1
    cases hi : is[k]? with
    | none => rw [hi] at h1; cases h1
    | some i => rw [hi] at h1; exact ⟨i, rfl, Option.some.inj h1⟩
  refine ⟨fun k q hq => ?_, hD.same hf⟩
  have hkn : k < n := by rw [← hn]; exact (List.getElem?_eq_some_iff.mp hq).1
  rcases hcov k hkn with hr | hc
  · have hwk : ws[k]? = some q := by
      obtain ⟨j, hj⟩ := List.mem_iff_getElem?.mp hr
      have g : (isR.map (fun i => ws[i]?))[j]? = some ws[k]? := by rw [List.getElem?_map, hj]; rfl
      rw [hR, List.getElem?_map, hj] at g
      exact (Option.some.inj g).symm.trans hq
    refine (hP k q hwk).kept (hk q.1 (hP k q hwk).lt (fun hm => ?_))
    unfold aA at hm
    rw [← hA] at hm
    obtain ⟨q2, hq2, e2⟩ := List.mem_map.mp hm
    obtain ⟨j, hj⟩ := List.mem_iff_getElem?.mp hq2
    obtain ⟨i, g1, g2⟩ := at' hC j q2 hj
    have hik := hD.1 i k q2 q g2 hwk e2
    subst hik
    exact hdis i hr (List.mem_of_getElem? g1)
  · obtain ⟨j, hj⟩ := List.mem_iff_getElem?.mp hc
    have g : (isC.map (fun i => ws'[i]?))[j]? = some ws'[k]? := by rw [List.getElem?_map, hj]; rfl
    rw [h1, List.getElem?_map] at g
    cases hw : w1[j]? with
    | none => rw [hw] at g; cases g
    | some q2 =>
      rw [hw] at g
      have e3 : some q2 = ws'[k]? := Option.some.inj g
      rw [hq] at e3
      cases e3
      exact hP1 j q hw
theorem rp_free {A0 : Nat → Prop} {ws wc : va_W} {as : List Nat} (hD : va_D A0 ws) (isC : List Nat) (hC : isC.map (fun i => ws[i]?) = wc.map some) (hA : wc.map Prod.fst = as) : ∀ q, aA as q → A0 q := by
  intro q hm
  unfold aA at hm
  rw [← hA] at hm
  obtain ⟨q2, hq2, e2⟩ := List.mem_map.mp hm
  obtain ⟨j, hj⟩ := List.mem_iff_getElem?.mp hq2
  have h1 : (isC.map (fun i => ws[i]?))[j]? = some (some q2) := by rw [hC, List.getElem?_map, hj]; rfl
  rw [List.getElem?_map] at h1
  cases hi : isC[j]? with
  | none => rw [hi] at h1; cases h1
  | some i => rw [hi] at h1; rw [← e2]; exact hD.2 i q2 (Option.some.inj h1)
section MyW
variable {p : Program} {l : Launch} {e : Env} {R : Room} {s : State} {m : MethodId} {args : Array Value} {below : List Frame} {meth : Method} {c : Code} {H : Heap} {locs : List Loc} {cells slots : Nat} {Q : State → Prop}
variable {pc : Nat} {ls : Array Slot} {rest st0 : List Value} {a : Array Value} {A0 : Nat → Prop} {H0 : Heap} {D : va_G} {cl : List vw_C} {ws : va_W}
theorem cn_i {x y : Int32} (h : x = y) (k : W p l e R s m args below meth c H locs cells slots Q (F0 m pc ls (.int y :: rest))) : W p l e R s m args below meth c H locs cells slots Q (F0 m pc ls (.int x :: rest)) := by
  subst h; exact k
theorem cn_l {x y : Int64} (h : x = y) (k : W p l e R s m args below meth c H locs cells slots Q (F0 m pc ls (.long y :: rest))) : W p l e R s m args below meth c H locs cells slots Q (F0 m pc ls (.long x :: rest)) := by
  subst h; exact k
theorem pu_i {post : Int32 → Prop} (hr : va_Run p l e R s m args below meth c H locs cells slots 0 0 (F0 m pc ls st0) rest (va_Qi (fun r (_ : Unit) => post r) (fun _ _ => True) aN a) aN) (hS : va_S A0 H0 H locs) (hP : va_P D cl ws H)
    (kk : ∀ (r : Int32) (H1 : Heap) (locs1 : List Loc), post r → va_P D cl ws H1 → va_S A0 H0 H1 locs1 → W p l e R s m args below meth c H1 locs1 cells slots Q (F0 m (pc + 3) ls (.int r :: rest))) : W p l e R s m args below meth c H locs cells slots Q (F0 m pc ls st0) :=
  va_calli hr hS (fun _ _ h => h.elim) (fun _ h => h.elim) (fun r _ _ H1 locs1 _ _ hw _ _ hk hS1 => kk r H1 locs1 hw (hP.kept (fun k q hq => hk q.1 (hP k q hq).lt (fun h => h))) hS1)
theorem pu_l {post : Int64 → Prop} (hr : va_Run p l e R s m args below meth c H locs cells slots 0 0 (F0 m pc ls st0) rest (va_Ql (fun r (_ : Unit) => post r) (fun _ _ => True) aN a) aN) (hS : va_S A0 H0 H locs) (hP : va_P D cl ws H)
    (kk : ∀ (r : Int64) (H1 : Heap) (locs1 : List Loc), post r → va_P D cl ws H1 → va_S A0 H0 H1 locs1 → W p l e R s m args below meth c H1 locs1 cells slots Q (F0 m (pc + 3) ls (.long r :: rest))) : W p l e R s m args below meth c H locs cells slots Q (F0 m pc ls st0) :=
  va_calll hr hS (fun _ _ h => h.elim) (fun _ h => h.elim) (fun r _ _ H1 locs1 _ _ hw _ _ hk hS1 => kk r H1 locs1 hw (hP.kept (fun k q hq => hk q.1 (hP k q hq).lt (fun h => h))) hS1)
theorem mu_v {S : Type} {post : S → Prop} {w1 : S → va_W} {as : List Nat} {wc : va_W} {n : Nat} (hr : va_Run p l e R s m args below meth c H locs cells slots 0 0 (F0 m pc ls st0) rest (va_Qv post (fun u t => va_P D cl (w1 u) t.heap) (aA as) a) (aA as)) (hS : va_S A0 H0 H locs) (hP : va_P D cl ws H) (hD : va_D A0 ws) (ws' : S → va_W) (isC isR : List Nat) (hC : isC.map (fun i => ws[i]?) = wc.map some) (hA : wc.map Prod.fst = as)
    (hR : ∀ u, isR.map (fun i => ws[i]?) = isR.map (fun i => (ws' u)[i]?)) (h1 : ∀ u, isC.map (fun i => (ws' u)[i]?) = (w1 u).map some) (hf : ∀ u, (ws' u).map Prod.fst = ws.map Prod.fst) (hn : ∀ u, (ws' u).length = n) (hcov : ∀ k, k < n → k ∈ isR ∨ k ∈ isC) (hdis : ∀ i ∈ isR, i ∉ isC)
    (kk : ∀ (u : S) (H1 : Heap) (locs1 : List Loc), post u → va_P D cl (ws' u) H1 → va_D A0 (ws' u) → va_S A0 H0 H1 locs1 → W p l e R s m args below meth c H1 locs1 cells slots Q (F0 m (pc + 3) ls rest)) : W p l e R s m args below meth c H locs cells slots Q (F0 m pc ls st0) :=
  va_callv hr hS (fun q _ h => rp_free hD isC hC hA q h) (rp_free hD isC hC hA) (fun u t H1 locs1 ht _ hw hB _ hk hS1 => by
    have hj := rp_join hP hD isC isR hC hA (hR u) (h1 u) (hf u) (hn u) hcov hdis hk (by rw [← ht]; exact hB)
    exact kk u H1 locs1 hw hj.1 hj.2 hS1)
theorem mu_i {S : Type} {post : Int32 → S → Prop} {w1 : S → va_W} {as : List Nat} {wc : va_W} {n : Nat} (hr : va_Run p l e R s m args below meth c H locs cells slots 0 0 (F0 m pc ls st0) rest (va_Qi post (fun u t => va_P D cl (w1 u) t.heap) (aA as) a) (aA as)) (hS : va_S A0 H0 H locs) (hP : va_P D cl ws H) (hD : va_D A0 ws) (ws' : S → va_W) (isC isR : List Nat) (hC : isC.map (fun i => ws[i]?) = wc.map some) (hA : wc.map Prod.fst = as)
    (hR : ∀ u, isR.map (fun i => ws[i]?) = isR.map (fun i => (ws' u)[i]?)) (h1 : ∀ u, isC.map (fun i => (ws' u)[i]?) = (w1 u).map some) (hf : ∀ u, (ws' u).map Prod.fst = ws.map Prod.fst) (hn : ∀ u, (ws' u).length = n) (hcov : ∀ k, k < n → k ∈ isR ∨ k ∈ isC) (hdis : ∀ i ∈ isR, i ∉ isC)
    (kk : ∀ (r : Int32) (u : S) (H1 : Heap) (locs1 : List Loc), post r u → va_P D cl (ws' u) H1 → va_D A0 (ws' u) → va_S A0 H0 H1 locs1 → W p l e R s m args below meth c H1 locs1 cells slots Q (F0 m (pc + 3) ls (.int r :: rest))) : W p l e R s m args below meth c H locs cells slots Q (F0 m pc ls st0) :=
  va_calli hr hS (fun q _ h => rp_free hD isC hC hA q h) (rp_free hD isC hC hA) (fun r u t H1 locs1 ht _ hw hB _ hk hS1 => by
    have hj := rp_join hP hD isC isR hC hA (hR u) (h1 u) (hf u) (hn u) hcov hdis hk (by rw [← ht]; exact hB)
    exact kk r u H1 locs1 hw hj.1 hj.2 hS1)
theorem mu_l {S : Type} {post : Int64 → S → Prop} {w1 : S → va_W} {as : List Nat} {wc : va_W} {n : Nat} (hr : va_Run p l e R s m args below meth c H locs cells slots 0 0 (F0 m pc ls st0) rest (va_Ql post (fun u t => va_P D cl (w1 u) t.heap) (aA as) a) (aA as)) (hS : va_S A0 H0 H locs) (hP : va_P D cl ws H) (hD : va_D A0 ws) (ws' : S → va_W) (isC isR : List Nat) (hC : isC.map (fun i => ws[i]?) = wc.map some) (hA : wc.map Prod.fst = as)
    (hR : ∀ u, isR.map (fun i => ws[i]?) = isR.map (fun i => (ws' u)[i]?)) (h1 : ∀ u, isC.map (fun i => (ws' u)[i]?) = (w1 u).map some) (hf : ∀ u, (ws' u).map Prod.fst = ws.map Prod.fst) (hn : ∀ u, (ws' u).length = n) (hcov : ∀ k, k < n → k ∈ isR ∨ k ∈ isC) (hdis : ∀ i ∈ isR, i ∉ isC)
    (kk : ∀ (r : Int64) (u : S) (H1 : Heap) (locs1 : List Loc), post r u → va_P D cl (ws' u) H1 → va_D A0 (ws' u) → va_S A0 H0 H1 locs1 → W p l e R s m args below meth c H1 locs1 cells slots Q (F0 m (pc + 3) ls (.long r :: rest))) : W p l e R s m args below meth c H locs cells slots Q (F0 m pc ls st0) :=
  va_calll hr hS (fun q _ h => rp_free hD isC hC hA q h) (rp_free hD isC hC hA) (fun r u t H1 locs1 ht _ hw hB _ hk hS1 => by
    have hj := rp_join hP hD isC isR hC hA (hR u) (h1 u) (hf u) (hn u) hcov hdis hk (by rw [← ht]; exact hB)
    exact kk r u H1 locs1 hw hj.1 hj.2 hS1)
end MyW
/-- a boolean answer -/
def B01 (r : Int32) (P : Prop) : Prop := (r = nI 1 ∧ P) ∨ (r = nI 0 ∧ ¬ P)
theorem nz_eq {a : Nat} (h : a < 2 ^ 31) : nI a = 0 ↔ a = 0 := by rw [← nI_0]; exact nI_eq h (by decide)
theorem nz_lt {a : Nat} (h : a < 2 ^ 31) : ¬ nI a < 0 := nI_pos h
theorem nz_ge {a : Nat} (h : a < 2 ^ 31) : 0 ≤ nI a := nI_pos' h
theorem nz_le {a : Nat} (h : a < 2 ^ 31) : nI a ≤ 0 ↔ a = 0 := by rw [← nI_0, nI_leI h (by decide)]; omega
theorem nz_gt {a : Nat} (h : a < 2 ^ 31) : 0 < nI a ↔ 0 < a := by rw [← nI_0, nI_ltI (by decide) h]
theorem i_lt {x y : Int32} : x < y ↔ x.toInt < y.toInt := Int32.lt_iff_toInt_lt
theorem i_le {x y : Int32} : x ≤ y ↔ x.toInt ≤ y.toInt := Int32.le_iff_toInt_le
theorem i_z : (0 : Int32).toInt = 0 := by decide
theorem i_eq {x y : Int32} : x = y ↔ x.toInt = y.toInt := Int32.toInt_inj.symm
theorem nI_of' {x : Int32} (h : ¬ x < 0) : ∃ j : Nat, j < 2 ^ 31 ∧ x = nI j := nI_of h
section MyW2
variable {p : Program} {l : Launch} {e : Env} {R : Room} {s : State} {m : MethodId} {args : Array Value} {below : List Frame} {meth : Method} {c : Code} {H H' : Heap} {locs : List Loc} {cells slots : Nat} {Q : State → Prop} {g : JFrame}
theorem m_heap (h : H = H') (k : W p l e R s m args below meth c H locs cells slots Q g) : W p l e R s m args below meth c H' locs cells slots Q g := by
  subst h; exact k
end MyW2
theorem m_arr {D : va_G} {cl : List vw_C} {t1 t2 : List (ClassId × FieldType)} {U : State} {cA cB : ClassId} {ty : FieldType} (h1 : va_K D cl t1 U) (h2 : va_K D cl t2 U) (i j : Nat) (hi : t1[i]? = some (cA, ty)) (hj : t2[j]? = some (cB, ty)) (hp : ty = .int ∨ ty = .long ∨ ty = .boolean) : cA = cB := by
  have a := (h1.2 i _ hi).2
  have b := (h2.2 j _ hj).2
  rcases hp with rfl | rfl | rfl <;> exact Option.some.inj (a.symm.trans b)
theorem m_sl : ∀ n, n < 32 → ((nI n &&& 31).toBitVec.smod 32).toNat = n := by decide +kernel
theorem m_shl1 {n : Nat} (h : n < 31) : nI 1 <<< (nI n &&& 31) = nI (2 ^ n) := by
  have h2 : 2 ^ n ≤ 2 ^ 30 := Nat.pow_le_pow_right (by decide) (by omega)
  have := pk_shlN (n := 1) (nI n &&& 31) n (m_sl n (by omega)) (by rw [Nat.one_mul]; omega)
  rw [Nat.one_mul] at this
  exact this
theorem m_shr {a n : Nat} (ha : a < 2 ^ 31) (hn : n < 32) : nI a >>> (nI n &&& 31) = nI (a / 2 ^ n) := pk_shrN ha _ n (m_sl n hn)
/-- the bit j of x, as a number -/
def sb (x : Int32) (j : Nat) : Nat := (x >>> (nI j &&& 31) &&& nI 1).toBitVec.toNat
theorem m_and1 (x : Int32) : x &&& nI 1 = nI ((x &&& nI 1).toBitVec.toNat) := by
  obtain ⟨k, hk, he⟩ := pk_andE x (m := nI 1) 1 (by decide)
  rw [he, pk_tn (by omega)]
theorem sb_ok (x : Int32) (j : Nat) : x >>> (nI j &&& 31) &&& nI 1 = nI (sb x j) := m_and1 _
theorem sb_lt (x : Int32) (j : Nat) : sb x j < 2 := by
  obtain ⟨k, hk, he⟩ := pk_andE (x >>> (nI j &&& 31)) (m := nI 1) 1 (by decide)
  unfold sb
  rw [he, pk_tn (by omega)]
  omega
theorem lc_lt {x y : Int64} : lg_cmp x y < 0 ↔ x < y := by
  unfold lg_cmp; split
  · rename_i h; constructor
    · intro h2; exact absurd h2 (by decide)
    · intro h2; rw [gt_iff_lt, Int64.lt_iff_toInt_lt] at h; rw [Int64.lt_iff_toInt_lt] at h2; exfalso; omega
  · rename_i h; split
    · rename_i h2; subst h2; constructor
      · intro h3; exact absurd h3 (by decide)
      · intro h3; exact absurd h3 h
    · rename_i h2; constructor
      · intro _; rw [gt_iff_lt, Int64.lt_iff_toInt_lt] at h; rw [Int64.lt_iff_toInt_lt]; rw [← Int64.toInt_inj] at h2; omega
      · intro _; decide
theorem lc_eq {x y : Int64} : lg_cmp x y = 0 ↔ x = y := by
  unfold lg_cmp; split
  · rename_i h; constructor
    · intro h2; exact absurd h2 (by decide)
    · intro h2; subst h2; rw [gt_iff_lt, Int64.lt_iff_toInt_lt] at h; exfalso; omega
  · rename_i h; split
    · rename_i h2; exact ⟨fun _ => h2, fun _ => rfl⟩
    · rename_i h2; constructor
      · intro h3; exact absurd h3 (by decide)
      · intro h3; exact absurd h3 h2
theorem lc_gt {x y : Int64} : 0 < lg_cmp x y ↔ y < x := by
  unfold lg_cmp; split
  · rename_i h; exact ⟨fun _ => h, fun _ => by decide⟩
  · rename_i h; split
    · constructor
      · intro h3; exact absurd h3 (by decide)
      · intro h3; exact absurd h3 h
    · constructor
      · intro h3; exact absurd h3 (by decide)
      · intro h3; exact absurd h3 h
theorem j_lt {x y : Int64} : x < y ↔ x.toInt < y.toInt := Int64.lt_iff_toInt_lt
theorem j_le {x y : Int64} : x ≤ y ↔ x.toInt ≤ y.toInt := Int64.le_iff_toInt_le
theorem j_eq {x y : Int64} : x = y ↔ x.toInt = y.toInt := Int64.toInt_inj.symm
theorem lc_ge {x y : Int64} : 0 ≤ lg_cmp x y ↔ y ≤ x := by
  have h := lc_lt (x := x) (y := y)
  rw [i_lt, i_z, j_lt] at h
  rw [i_le, i_z, j_le]
  omega
theorem lc_le {x y : Int64} : lg_cmp x y ≤ 0 ↔ x ≤ y := by
  have h := lc_gt (x := x) (y := y)
  rw [i_lt, i_z, j_lt] at h
  rw [i_le, i_z, j_le]
  omega
theorem lc_ne {x y : Int64} : lg_cmp x y = 0 ↔ x = y := lc_eq
theorem j2 (x : Int32) : x.toInt64.toInt = x.toInt := Int32.toInt_toInt64 x
theorem nar_b01 : narrow .boolean (.int (nI 1)) = .int (nI 1) := by decide
theorem upd_eq {f : Nat → Int32} {k j : Nat} {x : Int32} : upd f k x j = if j = k then x else f j := rfl
theorem m_at {D : va_G} {cl : List vw_C} {ws : va_W} {t : State} {H : Heap} (ht : t.heap = H) (hP : va_P D cl ws H) : va_P D cl ws t.heap := by
  rw [ht]; exact hP
theorem m_newI (n : Nat) (cA : ClassId) : vp_cell cA (n, .inl (fun _ => 0)) = arrV cA n (fun _ => defaultValue .int) := vp_cell_i ..
theorem m_newZ (n : Nat) (cA : ClassId) : vp_cell cA (n, .inl (fun _ => 0)) = arrV cA n (fun _ => defaultValue .boolean) := vp_cell_i ..
theorem m_newJ (n : Nat) (cA : ClassId) : vp_cell cA (n, .inr (.inl (fun _ => 0))) = arrV cA n (fun _ => defaultValue .long) := vp_cell_l ..
theorem m_bI {n : Nat} (h : n ≤ 60000) : n * componentBytes .int ≤ 536870912 := by
  show n * 4 ≤ 536870912
  omega
theorem m_bJ {n : Nat} (h : n ≤ 60000) : n * componentBytes .long ≤ 536870912 := by
  show n * 8 ≤ 536870912
  omega
theorem m_bZ {n : Nat} (h : n ≤ 60000) : n * componentBytes .boolean ≤ 536870912 := by
  show n * 1 ≤ 536870912
  omega
