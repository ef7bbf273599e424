/-! ===== the law's end: nothing old is written ===== -/
theorem new_only {s t : State} {L : List Loc} {k n : Nat} (h : s.sameButNew t L k n) (hL : ∀ q ∈ L, s.heap.size ≤ q.base) : s.sameButNew t [] k n :=
  ⟨h.1, h.2.1, h.2.2.1, h.2.2.2.1, h.2.2.2.2.1, fun a c hc => by
    obtain ⟨c', e1, e2, e3, e4⟩ := h.2.2.2.2.2 a c hc
    refine ⟨c', e1, e2, e3, fun i _ => e4 i (fun hm => ?_)⟩
    have h1 : s.heap.size ≤ a := hL _ hm
    have h2 := (Array.getElem?_eq_some_iff.mp hc).1
    omega⟩
