/-! Runs over the cells, without counting steps: x_Re .. r: from here on it ends with r. -/
section
variable {scr : xZ} {df : Nat → List Value} {P : Nat → Option xM}
def x_Re (scr : xZ) (df : Nat → List Value) (P : Nat → Option xM) (d j pc : Nat) (lv : xL) (st : List Value) (u : List xC) (r : xR) : Prop := ∃ c, ∀ n, x_exec scr df P (n + c) d j pc lv st u = some r
/-- a step: 'refine x_Re.step (fun n => rfl) ?_' -/
theorem x_Re.step {d j pc pc' : Nat} {lv lv' : xL} {st st' : List Value} {u u' : List xC} {r : xR} (h : ∀ n, x_exec scr df P (n + 1) d j pc lv st u = x_exec scr df P n d j pc' lv' st' u') (k : x_Re scr df P d j pc' lv' st' u' r) : x_Re scr df P d j pc lv st u r := by
  obtain ⟨c, hc⟩ := k
  exact ⟨c + 1, fun n => (h (n + c)).trans (hc n)⟩
/-- a branch -/
theorem x_Re.br {d j pc pc1 pc2 : Nat} {lv lv1 lv2 : xL} {st st1 st2 : List Value} {u u1 u2 : List xC} {r : xR} {C : Prop} [hC : Decidable C] (h : ∀ n, x_exec scr df P (n + 1) d j pc lv st u = if C then x_exec scr df P n d j pc1 lv1 st1 u1 else x_exec scr df P n d j pc2 lv2 st2 u2) (k1 : C → x_Re scr df P d j pc1 lv1 st1 u1 r) (k2 : ¬ C → x_Re scr df P d j pc2 lv2 st2 u2 r) : x_Re scr df P d j pc lv st u r := by
  by_cases hc : C
  · exact x_Re.step (fun n => (h n).trans (if_pos hc)) (k1 hc)
  · exact x_Re.step (fun n => (h n).trans (if_neg hc)) (k2 hc)
/-- what must not be: a divisor 0, a place outside its row -/
theorem x_Re.no {d j pc pc' : Nat} {lv lv' : xL} {st st' : List Value} {u u' : List xC} {r : xR} {C : Prop} [hC : Decidable C] (h : ∀ n, x_exec scr df P (n + 1) d j pc lv st u = if C then none else x_exec scr df P n d j pc' lv' st' u') (hc : ¬ C) (k : x_Re scr df P d j pc' lv' st' u' r) : x_Re scr df P d j pc lv st u r :=
  x_Re.step (fun n => (h n).trans (if_neg hc)) k
/-- a call: the callee's own run, then what is behind it -/
theorem x_Re.call {d d' j j' pc pc' : Nat} {lv lv1 lv' : xL} {st : List Value} {st' : xR → List Value} {u u1 : List xC} {r z : xR} (h : ∀ n, x_exec scr df P (n + 1) d j pc lv st u = (x_exec scr df P n d' j' 0 lv1 [] u1).bind fun z => x_exec scr df P n d j pc' lv' (st' z) z.2) (hz : x_Re scr df P d' j' 0 lv1 [] u1 z) (k : x_Re scr df P d j pc' lv' (st' z) z.2 r) : x_Re scr df P d j pc lv st u r := by
  obtain ⟨c1, h1⟩ := hz
  obtain ⟨c2, h2⟩ := k
  refine ⟨c1 + c2 + 1, fun n => ?_⟩
  have e1 := h (n + (c1 + c2))
  have e2 := h1 (n + c2)
  have e3 := h2 (n + c1)
  rw [show n + c2 + c1 = n + (c1 + c2) by omega] at e2
  rw [show n + c1 + c2 = n + (c1 + c2) by omega] at e3
  rw [e2] at e1
  exact e1.trans e3
/-- an end -/
theorem x_Re.ret {d j pc : Nat} {lv : xL} {st : List Value} {u : List xC} {r : xR} (h : ∀ n, x_exec scr df P (n + 1) d j pc lv st u = some r) : x_Re scr df P d j pc lv st u r := ⟨1, h⟩
end
