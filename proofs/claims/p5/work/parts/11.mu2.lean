theorem m_cov {n : Nat} {isR isC : List Nat} (h : (List.range n).all (fun k => isR.contains k || isC.contains k) = true) : ∀ k, k < n → k ∈ isR ∨ k ∈ isC := by
  intro k hk
  have g := List.all_eq_true.mp h k (List.mem_range.mpr hk)
  simp only [Bool.or_eq_true, List.contains_iff_mem] at g
  exact g
theorem m_dis {isR isC : List Nat} (h : isR.all (fun k => !isC.contains k) = true) : ∀ i ∈ isR, i ∉ isC := by
  intro k hk
  have g := List.all_eq_true.mp h k hk
  simpa using g
section MyW3
variable {p : Program} {l : Launch} {e : Env} {R : Room} {s : State} {m : MethodId} {args : Array Value} {below : List Frame} {meth : Method} {c : Code} {H : Heap} {locs : List Loc} {cells slots : Nat} {Q : State → Prop}
variable {pc : Nat} {ls : Array Slot} {rest st0 : List Value} {a : Array Value} {A0 : Nat → Prop} {H0 : Heap} {D : va_G} {cl : List vw_C} {ws : va_W}
theorem mu2_v {S : Type} {post : S → Prop} {w1 : S → va_W} {as : List Nat} {wc wr : va_W} {as0 : List Nat} {n : Nat} (hr : va_Run p l e R s m args below meth c H locs cells slots 0 0 (F0 m pc ls st0) rest (va_Qv post (fun u t => va_P D cl (w1 u) t.heap) (aA as) a) (aA as)) (hS : va_S A0 H0 H locs) (hP : va_P D cl ws H) (hD : va_D A0 ws) (ws' : S → va_W) (isC isR : List Nat) (hC : isC.map (fun i => ws[i]?) = wc.map some) (hA : wc.map Prod.fst = as)
    (hR : isR.map (fun i => ws[i]?) = wr.map some) (hR' : ∀ u, isR.map (fun i => (ws' u)[i]?) = wr.map some) (h1 : ∀ u, isC.map (fun i => (ws' u)[i]?) = (w1 u).map some) (hf1 : ws.map Prod.fst = as0) (hf2 : ∀ u, (ws' u).map Prod.fst = as0) (hn : ∀ u, (ws' u).length = n) (hcov : ∀ k, k < n → k ∈ isR ∨ k ∈ isC) (hdis : ∀ i ∈ isR, i ∉ isC)
    (kk : ∀ (u : S) (H1 : Heap) (locs1 : List Loc), post u → va_P D cl (ws' u) H1 → va_D A0 (ws' u) → va_S A0 H0 H1 locs1 → W p l e R s m args below meth c H1 locs1 cells slots Q (F0 m (pc + 3) ls rest)) : W p l e R s m args below meth c H locs cells slots Q (F0 m pc ls st0) :=
  mu_v hr hS hP hD ws' isC isR hC hA (fun u => hR.trans (hR' u).symm) h1 (fun u => (hf2 u).trans hf1.symm) hn hcov hdis kk
theorem mu2_i {S : Type} {post : Int32 → S → Prop} {w1 : S → va_W} {as : List Nat} {wc wr : va_W} {as0 : List Nat} {n : Nat} (hr : va_Run p l e R s m args below meth c H locs cells slots 0 0 (F0 m pc ls st0) rest (va_Qi post (fun u t => va_P D cl (w1 u) t.heap) (aA as) a) (aA as)) (hS : va_S A0 H0 H locs) (hP : va_P D cl ws H) (hD : va_D A0 ws) (ws' : S → va_W) (isC isR : List Nat) (hC : isC.map (fun i => ws[i]?) = wc.map some) (hA : wc.map Prod.fst = as)
    (hR : isR.map (fun i => ws[i]?) = wr.map some) (hR' : ∀ u, isR.map (fun i => (ws' u)[i]?) = wr.map some) (h1 : ∀ u, isC.map (fun i => (ws' u)[i]?) = (w1 u).map some) (hf1 : ws.map Prod.fst = as0) (hf2 : ∀ u, (ws' u).map Prod.fst = as0) (hn : ∀ u, (ws' u).length = n) (hcov : ∀ k, k < n → k ∈ isR ∨ k ∈ isC) (hdis : ∀ i ∈ isR, i ∉ isC)
    (kk : ∀ (r : Int32) (u : S) (H1 : Heap) (locs1 : List Loc), post r u → va_P D cl (ws' u) H1 → va_D A0 (ws' u) → va_S A0 H0 H1 locs1 → W p l e R s m args below meth c H1 locs1 cells slots Q (F0 m (pc + 3) ls (.int r :: rest))) : W p l e R s m args below meth c H locs cells slots Q (F0 m pc ls st0) :=
  mu_i hr hS hP hD ws' isC isR hC hA (fun u => hR.trans (hR' u).symm) h1 (fun u => (hf2 u).trans hf1.symm) hn hcov hdis kk
theorem mu2_l {S : Type} {post : Int64 → S → Prop} {w1 : S → va_W} {as : List Nat} {wc wr : va_W} {as0 : List Nat} {n : Nat} (hr : va_Run p l e R s m args below meth c H locs cells slots 0 0 (F0 m pc ls st0) rest (va_Ql post (fun u t => va_P D cl (w1 u) t.heap) (aA as) a) (aA as)) (hS : va_S A0 H0 H locs) (hP : va_P D cl ws H) (hD : va_D A0 ws) (ws' : S → va_W) (isC isR : List Nat) (hC : isC.map (fun i => ws[i]?) = wc.map some) (hA : wc.map Prod.fst = as)
    (hR : isR.map (fun i => ws[i]?) = wr.map some) (hR' : ∀ u, isR.map (fun i => (ws' u)[i]?) = wr.map some) (h1 : ∀ u, isC.map (fun i => (ws' u)[i]?) = (w1 u).map some) (hf1 : ws.map Prod.fst = as0) (hf2 : ∀ u, (ws' u).map Prod.fst = as0) (hn : ∀ u, (ws' u).length = n) (hcov : ∀ k, k < n → k ∈ isR ∨ k ∈ isC) (hdis : ∀ i ∈ isR, i ∉ isC)
    (kk : ∀ (r : Int64) (u : S) (H1 : Heap) (locs1 : List Loc), post r u → va_P D cl (ws' u) H1 → va_D A0 (ws' u) → va_S A0 H0 H1 locs1 → W p l e R s m args below meth c H1 locs1 cells slots Q (F0 m (pc + 3) ls (.long r :: rest))) : W p l e R s m args below meth c H locs cells slots Q (F0 m pc ls st0) :=
  mu_l hr hS hP hD ws' isC isR hC hA (fun u => hR.trans (hR' u).symm) h1 (fun u => (hf2 u).trans hf1.symm) hn hcov hdis kk
end MyW3
