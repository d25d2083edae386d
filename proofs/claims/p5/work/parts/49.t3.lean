/-! Plans.THREES: the static row, kept apart from all that is written -/
def T3 (z3 t3 : Nat) (U : State) (H : Heap) : Prop := va_Z RX1 "THREES" "[I" (.ref t3) (fun q => ¬ q = z3) U H ∧ va_T .int t3 10 (fun j => .int (nI (3 ^ j))) (fun q => ¬ q = t3) U H ∧ z3 < H.size ∧ t3 < H.size
theorem T3.kept {z3 t3 : Nat} {U : State} {H H1 : Heap} (h : T3 z3 t3 U H) (hs : H.size ≤ H1.size) (hz : H1[z3]? = H[z3]?) (ht : H1[t3]? = H[t3]?) : T3 z3 t3 U H1 := by
  refine ⟨h.1.kept (fun a _ ha => ?_), h.2.1.kept (fun a _ ha => ?_), Nat.lt_of_lt_of_le h.2.2.1 hs, Nat.lt_of_lt_of_le h.2.2.2 hs⟩
  · have e : a = z3 := Decidable.not_not.mp ha
    rw [e]; exact hz
  · have e : a = t3 := Decidable.not_not.mp ha
    rw [e]; exact ht
theorem T3.moved {z3 t3 : Nat} {u U : State} {H : Heap} (hvm : u.vm.Alike U.vm) (h : T3 z3 t3 u H) : T3 z3 t3 U H := ⟨h.1.moved hvm, h.2.1.moved hvm, h.2.2⟩
theorem T3.go {z3 t3 : Nat} {s U : State} {A : Nat → Prop} {H : Heap} {locs : List Loc} (h : T3 z3 t3 s s.heap) (hS : va_S A s.heap H locs) (hz : ¬ A z3) (ht : ¬ A t3) (hW : s.WarmedH U.vm) (hU : U.heap = H) : T3 z3 t3 U U.heap := by
  rw [hU]
  exact (h.kept hS.1 (hS.2.1 z3 h.2.2.1 hz) (hS.2.1 t3 h.2.2.2 ht)).moved hW.alike
theorem T3.Z {z3 t3 : Nat} {s : State} {A : Nat → Prop} {H : Heap} (h : T3 z3 t3 s H) (hz : ¬ A z3) : va_Z RX1 "THREES" "[I" (.ref t3) A s H := h.1.narrow (fun q hq e => hz (e ▸ hq))
theorem T3.T {z3 t3 : Nat} {s : State} {A : Nat → Prop} {H : Heap} (h : T3 z3 t3 s H) (ht : ¬ A t3) : va_T .int t3 10 (fun j => .int (nI (3 ^ j))) A s H := h.2.1.narrow (fun q hq e => ht (e ▸ hq))
def pcT_ (D : va_G) (cI cJ cZ : ClassId) (z3 t3 : Nat) (av : List Value) (ws : va_W) : Array Value → State → Prop := va_Pc av (fun U => va_P D vwCl ws U.heap ∧ KN D cI cJ cZ U ∧ T3 z3 t3 U U.heap)
theorem pcT_blind {D : va_G} {cI cJ cZ : ClassId} {z3 t3 : Nat} {av : List Value} {ws : va_W} : FrameBlind (pcT_ D cI cJ cZ z3 t3 av ws) := fun a U g mk h => ⟨h.1, h.2.1, KN.same (u := U) (U := U.calling g mk a) rfl h.2.2.1, T3.moved (u := U) (U := U.calling g mk a) (Vm.Alike.refl U.vm) h.2.2.2⟩
def pmT_ (D : va_G) (cI cJ cZ : ClassId) (z3 t3 : Nat) (av : List Value) (ws : va_W) : Array Value → State → Prop := va_Pc av (fun U => va_P D vwCl ws U.heap ∧ KN D cI cJ cZ U ∧ T3 z3 t3 U U.heap ∧ va_D (fun _ => True) ws)
theorem pmT_blind {D : va_G} {cI cJ cZ : ClassId} {z3 t3 : Nat} {av : List Value} {ws : va_W} : FrameBlind (pmT_ D cI cJ cZ z3 t3 av ws) := fun a U g mk h => ⟨h.1, h.2.1, KN.same (u := U) (U := U.calling g mk a) rfl h.2.2.1, T3.moved (u := U) (U := U.calling g mk a) (Vm.Alike.refl U.vm) h.2.2.2.1, h.2.2.2.2⟩
/-- the addresses as are neither of the two -/
def nz3 (z3 t3 : Nat) (as : List Nat) : Prop := ∀ q ∈ as, ¬ q = z3 ∧ ¬ q = t3
theorem nz3.z {z3 t3 : Nat} {as : List Nat} (h : nz3 z3 t3 as) : ¬ aA as z3 := fun hm => (h z3 hm).1 rfl
theorem nz3.t {z3 t3 : Nat} {as : List Nat} (h : nz3 z3 t3 as) : ¬ aA as t3 := fun hm => (h t3 hm).2 rfl
theorem nz3.sub {z3 t3 : Nat} {as as' : List Nat} (h : nz3 z3 t3 as) (is : List Nat) (hs : is.filterMap (fun i => as[i]?) = as') : nz3 z3 t3 as' := by
  intro q hq
  rw [← hs] at hq
  obtain ⟨i, -, hi⟩ := List.mem_filterMap.mp hq
  exact h q (List.mem_of_getElem? hi)
