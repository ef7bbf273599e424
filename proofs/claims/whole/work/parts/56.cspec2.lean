/-! ===== the class: making offers ===== -/
def orF (x y : Int) : Int := (oI x ||| oI y).toInt
def shlF (x y : Int) : Int := (oI x <<< (oI y &&& 31)).toInt
section
variable {G : HX} {Y : MI} {d kc ks pc : Nat} {lv : LV} {st : List AV} {n : Nat} {I : Mem} {P : Ptr} {Q : QT}
theorem y_ior {x y : Int} (hd : decode Y.2.1 pc = .ok (.ior, 1)) (k : V G Y d kc ks (pc + 1) lv (.inl (orF x y) :: st) n I P Q) : V G Y d kc ks pc lv (.inl y :: .inl x :: st) n I P Q := x_ior (orF x y) hd (Int32.ofInt_toInt _).symm (oI_rng _) k
theorem y_ishl {x y : Int} (hd : decode Y.2.1 pc = .ok (.ishl, 1)) (k : V G Y d kc ks (pc + 1) lv (.inl (shlF x y) :: st) n I P Q) : V G Y d kc ks pc lv (.inl y :: .inl x :: st) n I P Q := x_ishl (shlF x y) hd (Int32.ofInt_toInt _).symm (oI_rng _) k
end
def orbB (m x z : Nat) : Bool := decide (0 ≤ orF m (shlF 1 x) ∧ orF m (shlF 1 x) < 256 ∧ andF (shrF (orF m (shlF 1 x)) z) 1 = if x = z then 1 else andF (shrF m z) 1)
theorem orb_all : (List.range 256).all (fun m => (List.range 8).all (fun x => (List.range 8).all (fun z => orbB m x z))) = true := by decide +kernel
theorem orb {m x z : Int} (hm : 0 ≤ m ∧ m < 256) (hx : 0 ≤ x ∧ x < 8) (hz : 0 ≤ z ∧ z < 8) : (0 ≤ orF m (shlF 1 x) ∧ orF m (shlF 1 x) < 256) ∧ andF (shrF (orF m (shlF 1 x)) z) 1 = if x = z then 1 else andF (shrF m z) 1 := by
  obtain ⟨m, rfl⟩ := Int.eq_ofNat_of_zero_le hm.1
  obtain ⟨x, rfl⟩ := Int.eq_ofNat_of_zero_le hx.1
  obtain ⟨z, rfl⟩ := Int.eq_ofNat_of_zero_le hz.1
  have a1 := List.all_eq_true.mp orb_all m (List.mem_range.mpr (by omega))
  have a2 := List.all_eq_true.mp a1 x (List.mem_range.mpr (by omega))
  have a3 := List.all_eq_true.mp a2 z (List.mem_range.mpr (by omega))
  have a4 := of_decide_eq_true a3
  refine ⟨⟨a4.1, a4.2.1⟩, a4.2.2.trans ?_⟩
  by_cases e : x = z
  · rw [if_pos e, if_pos (by omega)]
  · rw [if_neg e, if_neg (by omega)]
def akN (γ : Rw) (s i : Int) : Int := sumN (fun k => if γ k = s then 1 else 0) i
theorem akN_s {γ : Rw} {s i : Int} (h : 0 ≤ i) : akN γ s (i + 1) = akN γ s i + if γ i = s then 1 else 0 := sumN_s _ h
theorem akN_bd {γ : Rw} {s i : Int} (h : 0 ≤ i) : 0 ≤ akN γ s i := by
  have := (sumN_bd (f := fun k => if γ k = s then (1 : Int) else 0) (n := i) (lo := 0) (hi := 1) h (fun j j0 j1 => by
    show 0 ≤ (if γ j = s then (1 : Int) else 0) ∧ (if γ j = s then (1 : Int) else 0) ≤ 1
    split <;> exact ⟨by decide, by decide⟩)).1
  unfold akN
  omega
def kpN (p : Int) (γ : Rw) (i : Int) : Int := itN (fun k v => if v = -1 ∧ γ k ≠ p then γ k else v) i (-1)
theorem kpN_s {p : Int} {γ : Rw} {i : Int} (h : 0 ≤ i) : kpN p γ (i + 1) = if kpN p γ i = -1 ∧ γ i ≠ p then γ i else kpN p γ i := itN_s _ _ h
theorem kpN_end {T : Tn} {γ : Rw} (hg : 1 ≤ T 0 3 ∧ T 0 3 ≤ 3) (h0 : ∀ k, 0 ≤ k → k < T 0 3 → 0 ≤ γ k) : (if kpN (T 0 4) γ (T 0 3) = -1 then γ 0 else kpN (T 0 4) γ (T 0 3)) = γ (keepS T γ) := by
  have e0 : kpN (T 0 4) γ 0 = -1 := rfl
  have e1 : kpN (T 0 4) γ 1 = _ := kpN_s (i := 0) (by decide)
  have e2 : kpN (T 0 4) γ 2 = _ := kpN_s (i := 1) (by decide)
  have e3 : kpN (T 0 4) γ 3 = _ := kpN_s (i := 2) (by decide)
  rw [e0] at e1
  have g0 := h0 0 (by decide) (by omega)
  have g1 := h0 1 (by decide)
  have g2 := h0 2 (by decide)
  have : T 0 3 = 1 ∨ T 0 3 = 2 ∨ T 0 3 = 3 := by omega
  have k0 : (γ 0 ≠ T 0 4) ∨ (γ 0 = T 0 4 ∧ (T 0 3 = 1 ∨ (γ 1 = T 0 4 ∧ (T 0 3 = 2 ∨ γ 2 = T 0 4)))) → keepS T γ = 0 := fun q => by
    unfold keepS
    rcases q with q | ⟨q, q1⟩
    · rw [if_pos q]
    · rw [if_neg (fun z => z q), if_neg (fun z => by rcases q1 with r | r; (have := z.1; omega); exact z.2 r.1), if_neg (fun z => by rcases q1 with r | ⟨_, r | r⟩; (have := z.1; omega); (have := z.1; omega); exact z.2 r)]
  by_cases q0 : γ 0 = T 0 4
  · rw [if_neg (fun q => q.2 q0)] at e1
    rw [e1] at e2
    by_cases q1 : γ 1 = T 0 4
    · rw [if_neg (fun q => q.2 q1)] at e2
      rw [e2] at e3
      by_cases q2 : γ 2 = T 0 4
      · rw [if_neg (fun q => q.2 q2)] at e3
        rw [k0 (Or.inr ⟨q0, Or.inr ⟨q1, Or.inr q2⟩⟩)]
        rcases this with e | e | e
        · rw [e, e1, if_pos rfl]
        · rw [e, e2, if_pos rfl]
        · rw [e, e3, if_pos rfl]
      · rw [if_pos ⟨rfl, q2⟩] at e3
        rcases this with e | e | e
        · rw [k0 (Or.inr ⟨q0, Or.inl e⟩), e, e1, if_pos rfl]
        · rw [k0 (Or.inr ⟨q0, Or.inr ⟨q1, Or.inl e⟩⟩), e, e2, if_pos rfl]
        · have g2' := g2 (by omega)
          have ek : keepS T γ = 2 := by unfold keepS; rw [if_neg (fun z => z q0), if_neg (fun z => z.2 q1), if_pos ⟨by omega, q2⟩]
          have e3' : kpN (T 0 4) γ 3 = γ 2 := e3
          rw [ek, e, e3', if_neg (by omega)]
    · rw [if_pos ⟨rfl, q1⟩] at e2
      have e2' : kpN (T 0 4) γ 2 = γ 1 := e2
      rcases this with e | e | e
      · rw [k0 (Or.inr ⟨q0, Or.inl e⟩), e, e1, if_pos rfl]
      · have g1' := g1 (by omega)
        have ek : keepS T γ = 1 := by unfold keepS; rw [if_neg (fun z => z q0), if_pos ⟨by omega, q1⟩]
        rw [ek, e, e2', if_neg (by omega)]
      · have g1' := g1 (by omega)
        have ek : keepS T γ = 1 := by unfold keepS; rw [if_neg (fun z => z q0), if_pos ⟨by omega, q1⟩]
        have e3' : kpN (T 0 4) γ 3 = γ 1 := e3.trans ((if_neg (fun q => by have := q.1; omega)).trans e2')
        rw [ek, e, e3', if_neg (by omega)]
  · have e1' : kpN (T 0 4) γ 1 = γ 0 := e1.trans (if_pos ⟨rfl, q0⟩)
    have e2' : kpN (T 0 4) γ 2 = γ 0 := e2.trans ((if_neg (fun q => by have := q.1; omega)).trans e1')
    have e3' : kpN (T 0 4) γ 3 = γ 0 := e3.trans ((if_neg (fun q => by have := q.1; omega)).trans e2')
    rw [k0 (Or.inl q0)]
    rcases this with e | e | e
    · rw [e, e1', if_neg (by omega)]
    · rw [e, e2', if_neg (by omega)]
    · rw [e, e3', if_neg (by omega)]
def ofYL (g so x : Int) : Int := if 1 < g then so - 1 else x
def ofZL (g so y : Int) : Int := if 2 < g then so - 1 else y
abbrev oe (g so o j : Nat) : Int := (OFe (g + 1) (so + 1) o j : Int)
abbrev oN (g so : Nat) : Nat := (OFL (g + 1) (so + 1)).length
abbrev oY (g so o : Nat) : Int := ofYL ((g : Int) + 1) ((so : Int) + 1) (oe g so o 0)
abbrev oZ (g so o : Nat) : Int := ofZL ((g : Int) + 1) ((so : Int) + 1) (oe g so o 1)
def oflA (p : Nat → Nat → Nat → Bool) : Bool := (List.range 3).all (fun g => (List.range 8).all (fun so => (List.range (oN g so)).all (fun o => p g so o)))
theorem oflA_ex {p : Nat → Nat → Nat → Bool} (h : oflA p = true) {g so o : Nat} (hg : g < 3) (hs : so < 8) (ho : o < oN g so) : p g so o = true :=
  List.all_eq_true.mp (List.all_eq_true.mp (List.all_eq_true.mp h g (List.mem_range.mpr hg)) so (List.mem_range.mpr hs)) o (List.mem_range.mpr ho)
theorem ofl_s0 : oflA (fun g so o => decide (oe g so o 0 ≤ so ∧ oe g so o 0 ≤ oe g so o 1 ∧ oe g so o 1 ≤ oY g so o ∧ oe g so o 1 ≤ oe g so o 2 ∧ oe g so o 2 ≤ oZ g so o)) = true := by decide +kernel
theorem ofl_s1 : oflA (fun g so o => decide (oe g so o 2 < oZ g so o → o + 1 < oN g so ∧ oe g so (o + 1) 0 = oe g so o 0 ∧ oe g so (o + 1) 1 = oe g so o 1 ∧ oe g so (o + 1) 2 = oe g so o 2 + 1)) = true := by decide +kernel
theorem ofl_s2 : oflA (fun g so o => decide (oe g so o 2 = oZ g so o → oe g so o 1 < oY g so o → o + 1 < oN g so ∧ oe g so (o + 1) 0 = oe g so o 0 ∧ oe g so (o + 1) 1 = oe g so o 1 + 1 ∧ oe g so (o + 1) 2 = oe g so o 1 + 1)) = true := by decide +kernel
theorem ofl_s3 : oflA (fun g so o => decide (oe g so o 2 = oZ g so o → oe g so o 1 = oY g so o → oe g so o 0 < so → o + 1 < oN g so ∧ oe g so (o + 1) 0 = oe g so o 0 + 1 ∧ oe g so (o + 1) 1 = oe g so o 0 + 1 ∧ oe g so (o + 1) 2 = oe g so o 0 + 1)) = true := by decide +kernel
theorem ofl_s4 : oflA (fun g so o => decide (oe g so o 2 = oZ g so o → oe g so o 1 = oY g so o → oe g so o 0 = so → o + 1 = oN g so)) = true := by decide +kernel
theorem OF_st {T : Tn} (h : WF T) {o : Int} (ho : 0 ≤ o ∧ o < OFN T) : (OF T o 0 ≤ T 0 2 - 1 ∧ OF T o 0 ≤ OF T o 1 ∧ OF T o 1 ≤ ofYL (T 0 3) (T 0 2) (OF T o 0) ∧ OF T o 1 ≤ OF T o 2 ∧ OF T o 2 ≤ ofZL (T 0 3) (T 0 2) (OF T o 1)) ∧
  (OF T o 2 < ofZL (T 0 3) (T 0 2) (OF T o 1) → o + 1 < OFN T ∧ OF T (o + 1) 0 = OF T o 0 ∧ OF T (o + 1) 1 = OF T o 1 ∧ OF T (o + 1) 2 = OF T o 2 + 1) ∧
  (OF T o 2 = ofZL (T 0 3) (T 0 2) (OF T o 1) → OF T o 1 < ofYL (T 0 3) (T 0 2) (OF T o 0) → o + 1 < OFN T ∧ OF T (o + 1) 0 = OF T o 0 ∧ OF T (o + 1) 1 = OF T o 1 + 1 ∧ OF T (o + 1) 2 = OF T o 1 + 1) ∧
  (OF T o 2 = ofZL (T 0 3) (T 0 2) (OF T o 1) → OF T o 1 = ofYL (T 0 3) (T 0 2) (OF T o 0) → OF T o 0 < T 0 2 - 1 → o + 1 < OFN T ∧ OF T (o + 1) 0 = OF T o 0 + 1 ∧ OF T (o + 1) 1 = OF T o 0 + 1 ∧ OF T (o + 1) 2 = OF T o 0 + 1) ∧
  (OF T o 2 = ofZL (T 0 3) (T 0 2) (OF T o 1) → OF T o 1 = ofYL (T 0 3) (T 0 2) (OF T o 0) → OF T o 0 = T 0 2 - 1 → o + 1 = OFN T) := by
  obtain ⟨g, so, hg, hs, e1, e2, e3, e4⟩ := h.g
  have ho2 := ho.2
  unfold OFN at ho2 ⊢
  unfold OF
  rw [e3, e4] at *
  have hoN : o.toNat < oN g so := by show o.toNat < (OFL (g + 1) (so + 1)).length; omega
  have b1 := of_decide_eq_true (oflA_ex ofl_s0 (o := o.toNat) hg hs hoN)
  have b2 := of_decide_eq_true (oflA_ex ofl_s1 (o := o.toNat) hg hs hoN)
  have b3 := of_decide_eq_true (oflA_ex ofl_s2 (o := o.toNat) hg hs hoN)
  have b4 := of_decide_eq_true (oflA_ex ofl_s3 (o := o.toNat) hg hs hoN)
  have b5 := of_decide_eq_true (oflA_ex ofl_s4 (o := o.toNat) hg hs hoN)
  rw [show (0 : Int).toNat = 0 from rfl, show (1 : Int).toNat = 1 from rfl, show (2 : Int).toNat = 2 from rfl, show (o + 1).toNat = o.toNat + 1 by omega]
  rw [e1, e2, show ((so + 1 : Nat) : Int) - 1 = so by omega]
  refine ⟨b1, fun q => ?_, fun q1 q2 => ?_, fun q1 q2 q3 => ?_, fun q1 q2 q3 => ?_⟩
  · have c := (b2 q).1; change o.toNat + 1 < (OFL (g + 1) (so + 1)).length at c; exact ⟨by omega, (b2 q).2⟩
  · have c := (b3 q1 q2).1; change o.toNat + 1 < (OFL (g + 1) (so + 1)).length at c; exact ⟨by omega, (b3 q1 q2).2⟩
  · have c := (b4 q1 q2 q3).1; change o.toNat + 1 < (OFL (g + 1) (so + 1)).length at c; exact ⟨by omega, (b4 q1 q2 q3).2⟩
  · have c := b5 q1 q2 q3; change o.toNat + 1 = (OFL (g + 1) (so + 1)).length at c; omega
theorem OF_00 {T : Tn} (h : WF T) : OF T 0 0 = 0 ∧ OF T 0 1 = 0 ∧ OF T 0 2 = 0 := by
  obtain ⟨g, so, hg, hs, e1, e2, e3, e4⟩ := h.g
  have := (ofl_len g hg so hs).2.2
  unfold OF
  rw [e3, e4]
  exact ⟨by rw [show (0 : Int).toNat = 0 from rfl, this 0 (by decide)]; rfl, by rw [show (0 : Int).toNat = 0 from rfl, show (1 : Int).toNat = 1 from rfl, this 1 (by decide)]; rfl, by rw [show (0 : Int).toNat = 0 from rfl, show (2 : Int).toNat = 2 from rfl, this 2 (by decide)]; rfl⟩
