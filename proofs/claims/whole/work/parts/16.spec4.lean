/-! ===== till nobody trades ===== -/
noncomputable def endN (T : Tn) : Nat → Rw → Int × Rw
  | 0, r => (0, r)
  | f + 1, r => if 0 < (dayS T (-1) r).1 then ((endN T f (dayS T (-1) r).2).1 + 1, (endN T f (dayS T (-1) r).2).2) else (0, (dayS T (-1) r).2)
theorem endN_ok {T : Tn} (hT : WF T) : ∀ (f : Nat) (r : Rw), RW T r → RW T (endN T f r).2 ∧ 0 ≤ (endN T f r).1 ∧ (endN T f r).1 ≤ f
  | 0, r, h => ⟨h, Int.le_refl _, Int.le_refl _⟩
  | f + 1, r, h => by
    have h1 := dayS_ok (w := -1) hT h
    have h2 := endN_ok hT f _ h1.1
    unfold endN
    split
    · exact ⟨h2.1, by show (0 : Int) ≤ _ + 1; omega, by show _ + 1 ≤ _; omega⟩
    · exact ⟨h1.1, by show (0 : Int) ≤ 0; omega, by show (0 : Int) ≤ _; omega⟩
def ifn (b : Int) (I : Mem) (w : Int) : Mem := if b = 0 then uI I 91 0 w else I
theorem sumN_z {f : Int → Int} {n : Int} (h : ∀ i, 0 ≤ i → i < n → f i = 0) : sumN f n = 0 := by
  rw [sumN_congr (g := fun _ => 0) h]
  by_cases hm : n ≤ 0
  · exact sumN_neg _ hm
  · exact int_ind (p := fun m => sumN (fun _ => 0) m = 0) rfl (fun k hk ih => by rw [sumN_s _ hk, ih]; rfl) n (by omega)
theorem ifn_1 {b w : Int} {I : Mem} (h : b ≠ 0) : ifn b I w = I := if_neg h
theorem ifn_0 {b w : Int} {I : Mem} (h : b = 0) : ifn b I w = uI I 91 0 w := if_pos h
noncomputable def daysB (T : Tn) (x : Int × Rw) : Int × Rw := (x.1 + (dayS T (-1) x.2).1, (dayS T (-1) x.2).2)
noncomputable def daysS (T : Tn) (n : Int) (r : Rw) : Int × Rw := itN (fun _ x => daysB T x) n (0, r)
theorem daysS_s {T : Tn} {n : Int} {r : Rw} (h : 0 ≤ n) : daysS T (n + 1) r = daysB T (daysS T n r) := itN_s _ _ h
theorem daysS_ok {T : Tn} (hT : WF T) {r : Rw} (hr : RW T r) {n : Int} (hn : 0 ≤ n) : RW T (daysS T n r).2 ∧ 0 ≤ (daysS T n r).1 ∧ (daysS T n r).1 ≤ 8 * n := by
  refine int_ind (p := fun n => RW T (daysS T n r).2 ∧ 0 ≤ (daysS T n r).1 ∧ (daysS T n r).1 ≤ 8 * n) ⟨hr, Int.le_refl _, Int.le_refl _⟩ (fun k hk ih => ?_) n hn
  have h2 := dayS_ok (w := -1) hT ih.1
  rw [daysS_s hk]
  exact ⟨h2.1, by show 0 ≤ _ + _; omega, by show _ + _ ≤ _; omega⟩
/-! ===== rows that are the same on their 48 cells ===== -/
def RE (r r' : Rw) : Prop := ∀ c, 0 ≤ c → c < 48 → r c = r' c
theorem RE.rf {r : Rw} : RE r r := fun _ _ _ => rfl
theorem RE.sy {r r' : Rw} (h : RE r r') : RE r' r := fun c h0 h1 => (h c h0 h1).symm
theorem RE.tr {r r' r'' : Rw} (h : RE r r') (h' : RE r' r'') : RE r r'' := fun c h0 h1 => (h c h0 h1).trans (h' c h0 h1)
theorem RE.rc {r r' : Rw} (h : RE r r') (hr : RC r) : RC r' := fun c h0 h1 => by rw [← h c h0 h1]; exact hr c h0 h1
theorem RE.rw {T : Tn} {r r' : Rw} (h : RE r r') (hr : RW T r) : RW T r' := by
  refine ⟨fun c h0 h1 => by rw [← h c h0 h1]; exact hr.1 c h0 h1, fun p s h0 h1 h2 h3 h4 => by rw [← h _ (by omega) (by omega)]; exact hr.2.1 p s h0 h1 h2 h3 h4, ?_⟩
  rw [← sumN_congr h]; exact hr.2.2
theorem RE.bag {T : Tn} {r r' : Rw} {p : Int} (h : RE r r') (hT : WF T) (hp : 0 ≤ p ∧ p < T 0 1) : bagS T r p = bagS T r' p := bagS_congr hT hp (fun s h0 h1 => h _ (by omega) (by have := hT.1; omega))
theorem RE.worth {T : Tn} {r r' : Rw} (h : RE r r') (hT : WF T) : worthS T r = worthS T r' := sumN_congr (fun p h0 h1 => h.bag hT ⟨h0, h1⟩)
theorem RE.left {T : Tn} {r r' : Rw} {s : Int} (h : RE r r') (hT : WF T) (hs : 0 ≤ s ∧ s < 8) : leftS T r s = leftS T r' s := sumN_congr (fun p h0 h1 => h _ (by omega) (by have := hT.1; omega))
theorem RE.all {T : Tn} {r r' : Rw} (h : RE r r') (hT : WF T) : allS T r = allS T r' := sumN_congr (fun s h0 h1 => h.left hT (by have := hT.2.1; omega))
theorem RE.law {T : Tn} {r r' : Rw} {a b z : Int} {γ : Rw} (h : RE r r') (hT : WF T) (ha : 0 ≤ a ∧ a < T 0 1) (hb : 0 ≤ b ∧ b < T 0 1) (hz : 0 ≤ z ∧ z < T 0 2) (hγ : ∀ k, 0 ≤ k → k < T 0 3 → 0 ≤ γ k ∧ γ k < 8) : lawP T r a b γ z ↔ lawP T r' a b γ z := by
  have f1 := hT.1
  have f2 := hT.2.1
  unfold lawP
  rw [h (8 * b + z) (by omega) (by omega)]
  constructor
  · rintro ⟨h1, h2, h3, h4⟩
    exact ⟨h1, h2, h3, fun k h0 hk => by have := hγ k h0 hk; rw [← h _ (by omega) (by omega)]; exact h4 k h0 hk⟩
  · rintro ⟨h1, h2, h3, h4⟩
    exact ⟨h1, h2, h3, fun k h0 hk => by have := hγ k h0 hk; rw [h _ (by omega) (by omega)]; exact h4 k h0 hk⟩
theorem RE.deal {T : Tn} {r r' : Rw} {a b z : Int} {γ : Rw} (h : RE r r') : RE (dealS T r a b γ z) (dealS T r' a b γ z) := fun c h0 h1 => by unfold dealS; rw [h c h0 h1]
theorem RE.tie {T : Tn} {r r' : Rw} {p t : Int} (h : RE r r') (hT : WF T) (hp : 0 ≤ p ∧ p < T 0 1) (ht : 0 ≤ t ∧ t < T 0 5) : tieP T r p t ↔ tieP T r' p t := by
  have f1 := hT.1
  have f2 := hT.2.1
  have f5 := hT.2.2.2.2.2.2.2.2.2.2.2.1 t
  have q0 := f5 0 ht.1 ht.2 (by decide) (by decide)
  have q1 := f5 1 ht.1 ht.2 (by decide) (by decide)
  rw [Int.add_zero] at q0
  unfold tieP
  rw [h (8 * p + T 5 (3 * t)) (by omega) (by omega), h (8 * p + T 5 (3 * t + 1)) (by omega) (by omega)]
theorem RE.knot {T : Tn} {r r' : Rw} {p t : Int} (h : RE r r') : RE (knotS T r p t) (knotS T r' p t) := fun c h0 h1 => by unfold knotS; rw [h c h0 h1]
theorem RE.looks {T : Tn} {r r' : Rw} {a b : Int} {m : Bst} (h : RE r r') (hT : WF T) (ha : 0 ≤ a ∧ a < T 0 1) (hb : 0 ≤ b ∧ b < T 0 1) : looksS T r a b m = looksS T r' a b m := by
  refine itN_congr (fun o m h0 ho => itN_congr (fun z m hz0 hz => ?_))
  have hO : ∀ k, 0 ≤ k → k < T 0 3 → 0 ≤ OF T o k ∧ OF T o k < 8 := fun k k0 k1 => by have := OF_bd hT h0 ho k0 (by have := hT.2.2.1; omega); have := hT.2.1; omega
  unfold lookB
  rw [h.bag hT ha, h.bag hT hb, (RE.deal h).bag hT ha, (RE.deal h).bag hT hb]
  exact cif_congr (and_congr (h.law hT ha hb ⟨hz0, hz⟩ hO) Iff.rfl)
theorem RE.meetb {T : Tn} {r r' : Rw} {a b : Int} (h : RE r r') (hT : WF T) (ha : 0 ≤ a ∧ a < T 0 1) (hb : 0 ≤ b ∧ b < T 0 1) : meetB T r a b = meetB T r' a b := by
  have h1 : 0 ≤ min a b ∧ min a b < T 0 1 := by omega
  have h2 : 0 ≤ max a b ∧ max a b < T 0 1 := by omega
  have e1 : looksS T r (min a b) (max a b) = looksS T r' (min a b) (max a b) := funext fun m => h.looks hT h1 h2
  have e2 : looksS T r (max a b) (min a b) = looksS T r' (max a b) (min a b) := funext fun m => h.looks hT h2 h1
  show looksS T r _ _ (looksS T r _ _ _) = looksS T r' _ _ (looksS T r' _ _ _)
  rw [e1, e2]
theorem RE.meet {T : Tn} {r r' : Rw} {a b : Int} (h : RE r r') (hT : WF T) (ha : 0 ≤ a ∧ a < T 0 1) (hb : 0 ≤ b ∧ b < T 0 1) : (meetS T r a b).1 = (meetS T r' a b).1 ∧ RE (meetS T r a b).2 (meetS T r' a b).2 := by
  unfold meetS
  rw [h.meetb hT ha hb]
  split
  · exact ⟨rfl, RE.deal h⟩
  · exact ⟨rfl, h⟩
theorem RE.dayb {T : Tn} {w m : Int} {x x' : Int × Rw} (h1 : x.1 = x'.1) (h : RE x.2 x'.2) (hT : WF T) (h0 : 0 ≤ m) (hm : m < T 0 6) : (dayB T w m x).1 = (dayB T w m x').1 ∧ RE (dayB T w m x).2 (dayB T w m x').2 := by
  have hm0 := hT.2.2.2.2.2.2.2.2.2.2.2.2.2.1 m 0 h0 hm (by decide) (by decide)
  have hm1 := hT.2.2.2.2.2.2.2.2.2.2.2.2.2.1 m 1 h0 hm (by decide) (by decide)
  rw [Int.add_zero] at hm0
  have hh := h.meet hT hm0 hm1
  have ed : ∀ y, dayB T w m y = if T 6 (2 * m) ≠ w ∧ T 6 (2 * m + 1) ≠ w then (y.1 + (if 0 < (meetS T y.2 (T 6 (2 * m)) (T 6 (2 * m + 1))).1 then 1 else 0), (meetS T y.2 (T 6 (2 * m)) (T 6 (2 * m + 1))).2) else y := fun y => rfl
  rw [ed, ed]
  split
  · exact ⟨by show x.1 + _ = x'.1 + _; rw [h1, hh.1], hh.2⟩
  · exact ⟨h1, h⟩
theorem itN_rel {α β : Type} {f : Int → α → α} {g : Int → β → β} {R : α → β → Prop} {n : Int} {s : α} {t : β} (h0 : R s t) (h : ∀ i a b, 0 ≤ i → i < n → R a b → R (f i a) (g i b)) : R (itN f n s) (itN g n t) := by
  by_cases hn : n ≤ 0
  · have : n.toNat = 0 := by omega
    unfold itN; rw [this]; exact h0
  · exact int_ind (p := fun k => k ≤ n → R (itN f k s) (itN g k t)) (fun _ => h0) (fun k hk ih hkn => by rw [itN_s _ _ hk, itN_s _ _ hk]; exact h k _ _ hk (by omega) (ih (by omega))) n (by omega) (Int.le_refl _)
theorem RE.day {T : Tn} {w : Int} {r r' : Rw} (h : RE r r') (hT : WF T) : (dayS T w r).1 = (dayS T w r').1 ∧ RE (dayS T w r).2 (dayS T w r').2 :=
  itN_rel (R := fun (x y : Int × Rw) => x.1 = y.1 ∧ RE x.2 y.2) ⟨rfl, h⟩ (fun m x y h0 hm q => RE.dayb q.1 q.2 hT h0 hm)
theorem RE.days {T : Tn} {n : Int} {r r' : Rw} (h : RE r r') (hT : WF T) : (daysS T n r).1 = (daysS T n r').1 ∧ RE (daysS T n r).2 (daysS T n r').2 :=
  itN_rel (R := fun (x y : Int × Rw) => x.1 = y.1 ∧ RE x.2 y.2) ⟨rfl, h⟩ (fun m x y h0 hm q => by
    have := RE.day (w := -1) q.2 hT
    exact ⟨by show _ + _ = _ + _; rw [q.1, this.1], this.2⟩)
theorem endN_p {T : Tn} {f : Nat} {r : Rw} (h : 0 < (dayS T (-1) r).1) : endN T (f + 1) r = ((endN T f (dayS T (-1) r).2).1 + 1, (endN T f (dayS T (-1) r).2).2) := if_pos h
theorem endN_q {T : Tn} {f : Nat} {r : Rw} (h : ¬ 0 < (dayS T (-1) r).1) : endN T (f + 1) r = (0, (dayS T (-1) r).2) := if_neg h
theorem RE.endd {T : Tn} (hT : WF T) : ∀ {f : Nat} {r r' : Rw}, RE r r' → (endN T f r).1 = (endN T f r').1 ∧ RE (endN T f r).2 (endN T f r').2
  | 0, r, r', h => ⟨rfl, h⟩
  | f + 1, r, r', h => by
    have h1 := RE.day (w := -1) h hT
    have h2 := RE.endd hT (f := f) h1.2
    by_cases q : 0 < (dayS T (-1) r).1
    · rw [endN_p q, endN_p (by rw [← h1.1]; exact q)]
      exact ⟨by show _ + 1 = _ + 1; rw [h2.1], h2.2⟩
    · rw [endN_q q, endN_q (by rw [← h1.1]; exact q)]
      exact ⟨rfl, h1.2⟩
/-- what end answers -/
noncomputable def endA (T : Tn) (r : Rw) (w : Int) : Int := if w = 0 then (endN T 60 r).1 else if w = 1 then allS T (endN T 60 r).2 else if w = 2 then worthS T (endN T 60 r).2 else bagS T (endN T 60 r).2 (w - 3)
theorem RE.enda {T : Tn} {r r' : Rw} {w : Int} (h : RE r r') (hT : WF T) (hw : w = 0 ∨ w = 1 ∨ w = 2 ∨ (3 ≤ w ∧ w - 3 < T 0 1)) : endA T r w = endA T r' w := by
  have e : ∀ s, endA T s w = if w = 0 then (endN T 60 s).1 else if w = 1 then allS T (endN T 60 s).2 else if w = 2 then worthS T (endN T 60 s).2 else bagS T (endN T 60 s).2 (w - 3) := fun s => rfl
  have h1 := RE.endd hT (f := 60) h
  rw [e, e, h1.1, h1.2.all hT, h1.2.worth hT]
  by_cases q0 : w = 0
  · rw [if_pos q0, if_pos q0]
  by_cases q1 : w = 1
  · rw [if_neg q0, if_neg q0, if_pos q1, if_pos q1]
  by_cases q2 : w = 2
  · rw [if_neg q0, if_neg q0, if_neg q1, if_neg q1, if_pos q2, if_pos q2]
  rw [if_neg q0, if_neg q0, if_neg q1, if_neg q1, if_neg q2, if_neg q2, h1.2.bag hT (by omega)]
