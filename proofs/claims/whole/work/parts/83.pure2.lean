/-! ===== offers by their numbers; what a trial starts from ===== -/
theorem num1 {γ : Rw} : numS 1 γ = γ 0 + 1 := by
  have e : numS 1 γ = 9 * 0 + γ 0 + 1 := itN_s (fun k v => 9 * v + γ k + 1) 0 (Int.le_refl 0)
  omega
theorem num2 {γ : Rw} : numS 2 γ = 9 * (γ 0 + 1) + γ 1 + 1 := by
  have e : numS 2 γ = 9 * numS 1 γ + γ 1 + 1 := itN_s (fun k v => 9 * v + γ k + 1) 0 (n := 1) (by decide)
  rw [e, num1]
theorem num3 {γ : Rw} : numS 3 γ = 9 * (9 * (γ 0 + 1) + γ 1 + 1) + γ 2 + 1 := by
  have e : numS 3 γ = 9 * numS 2 γ + γ 2 + 1 := itN_s (fun k v => 9 * v + γ k + 1) 0 (n := 2) (by decide)
  rw [e, num2]
theorem ofl_mem {g so x y z : Nat} (hx : x < so) (hy : if 1 < g then y < so ∧ x ≤ y else y = x) (hz : if 2 < g then z < so ∧ y ≤ z else z = y) : [x, y, z] ∈ OFL g so := by
  unfold OFL
  refine List.mem_flatMap.mpr ⟨x, List.mem_range.mpr hx, List.mem_flatMap.mpr ⟨y, ?_, List.mem_map.mpr ⟨z, ?_, rfl⟩⟩⟩
  · by_cases h : 1 < g
    · rw [if_pos h] at hy ⊢
      exact List.mem_filter.mpr ⟨List.mem_range.mpr hy.1, decide_eq_true hy.2⟩
    · rw [if_neg h] at hy ⊢
      rw [hy]
      exact List.mem_singleton.mpr rfl
  · by_cases h : 2 < g
    · rw [if_pos h] at hz ⊢
      exact List.mem_filter.mpr ⟨List.mem_range.mpr hz.1, decide_eq_true hz.2⟩
    · rw [if_neg h] at hz ⊢
      rw [hz]
      exact List.mem_singleton.mpr rfl
theorem of_tri {T : Tn} (hF : WF T) {x y z : Int} (hx : 0 ≤ x ∧ x < T 0 2) (hy : (1 < T 0 3 ∧ x ≤ y ∧ y < T 0 2) ∨ (T 0 3 = 1 ∧ y = x)) (hz : (2 < T 0 3 ∧ y ≤ z ∧ z < T 0 2) ∨ (T 0 3 ≤ 2 ∧ z = y)) : ∃ o, (0 ≤ o ∧ o < OFN T) ∧ OF T o 0 = x ∧ OF T o 1 = y ∧ OF T o 2 = z := by
  obtain ⟨g, so, hg, hs, e1, e2, e3, e4⟩ := hF.g
  have hm : [x.toNat, y.toNat, z.toNat] ∈ OFL (T 0 3).toNat (T 0 2).toNat := by
    refine ofl_mem (by omega) ?_ ?_
    · by_cases h : 1 < (T 0 3).toNat
      · rw [if_pos h]; omega
      · rw [if_neg h]; omega
    · by_cases h : 2 < (T 0 3).toNat
      · rw [if_pos h]; omega
      · rw [if_neg h]; omega
  obtain ⟨i, hi, he⟩ := List.getElem_of_mem hm
  have hd : (OFL (T 0 3).toNat (T 0 2).toNat).getD i [] = [x.toNat, y.toNat, z.toNat] := by
    rw [← he]
    simp [List.getD, hi]
  refine ⟨(i : Int), ⟨by omega, by unfold OFN; omega⟩, ?_, ?_, ?_⟩
  · unfold OF OFe
    rw [Int.toNat_natCast, hd]
    show (x.toNat : Int) = x
    omega
  · unfold OF OFe
    rw [Int.toNat_natCast, hd]
    show (y.toNat : Int) = y
    omega
  · unfold OF OFe
    rw [Int.toNat_natCast, hd]
    show (z.toNat : Int) = z
    omega
theorem g123 {T : Tn} (hF : WF T) : T 0 3 = 1 ∨ T 0 3 = 2 ∨ T 0 3 = 3 := by
  have := hF.2.2.1
  omega
theorem num_of {T : Tn} (hF : WF T) {o : Int} (ho : 0 ≤ o ∧ o < OFN T) : vdS T (numS (T 0 3) (OF T o)) ∧ ∀ k, 0 ≤ k → k < T 0 3 → dgS (T 0 3) (numS (T 0 3) (OF T o)) k = OF T o k := by
  have b0 := OF_bd hF ho.1 ho.2 (j := 0) (by decide) (by decide)
  have b1 := OF_bd hF ho.1 ho.2 (j := 1) (by decide) (by decide)
  have b2 := OF_bd hF ho.1 ho.2 (j := 2) (by decide) (by decide)
  have hs := OF_so hF ho
  have f2 := hF.2.1
  have key : (0 ≤ numS (T 0 3) (OF T o) ∧ numS (T 0 3) (OF T o) < 9 * pwS (T 0 3) 0) ∧ ∀ k, 0 ≤ k → k < T 0 3 → dgS (T 0 3) (numS (T 0 3) (OF T o)) k = OF T o k := by
    rcases g123 hF with e | e | e
    · rw [e, num1]
      have p0 : pwS 1 0 = 1 := rfl
      refine ⟨by rw [p0]; omega, fun k k0 k1 => ?_⟩
      obtain rfl : k = 0 := by omega
      unfold dgS
      rw [p0]
      omega
    · rw [e, num2]
      have p0 : pwS 2 0 = 9 := rfl
      have p1 : pwS 2 1 = 1 := rfl
      refine ⟨by rw [p0]; omega, fun k k0 k1 => ?_⟩
      have : k = 0 ∨ k = 1 := by omega
      rcases this with rfl | rfl
      · unfold dgS; rw [p0]; omega
      · unfold dgS; rw [p1]; omega
    · rw [e, num3]
      have p0 : pwS 3 0 = 81 := rfl
      have p1 : pwS 3 1 = 9 := rfl
      have p2 : pwS 3 2 = 1 := rfl
      refine ⟨by rw [p0]; omega, fun k k0 k1 => ?_⟩
      have : k = 0 ∨ k = 1 ∨ k = 2 := by omega
      rcases this with rfl | rfl | rfl
      · unfold dgS; rw [p0]; omega
      · unfold dgS; rw [p1]; omega
      · unfold dgS; rw [p2]; omega
  refine ⟨⟨key.1.1, key.1.2, fun k k0 k1 => ⟨?_, fun k2 => ?_⟩⟩, key.2⟩
  · rw [key.2 k k0 k1]
    exact OFd hF ho.1 ho.2 k k0 k1
  · rw [key.2 k k0 k1, key.2 (k + 1) (by omega) k2]
    have f3 := hF.2.2.1
    have : k = 0 ∨ k = 1 := by omega
    rcases this with rfl | rfl
    · exact hs.1
    · exact hs.2
theorem of_num {T : Tn} (hF : WF T) {v : Int} (h : vdS T v) : ∃ o, (0 ≤ o ∧ o < OFN T) ∧ numS (T 0 3) (OF T o) = v := by
  obtain ⟨h0, h1, hd⟩ := h
  rcases g123 hF with e | e | e
  · have p0 : pwS 1 0 = 1 := rfl
    rw [e] at h1 hd ⊢
    have d0 := (hd 0 (by decide) (by decide)).1
    have x0 : dgS 1 v 0 = v / 1 % 9 - 1 := rfl
    rw [p0] at h1
    obtain ⟨o, ho, y0, y1, y2⟩ := of_tri hF (x := dgS 1 v 0) (y := dgS 1 v 0) (z := dgS 1 v 0) d0 (Or.inr ⟨e, rfl⟩) (Or.inr ⟨by omega, rfl⟩)
    exact ⟨o, ho, by rw [num1, y0]; omega⟩
  · have p0 : pwS 2 0 = 9 := rfl
    rw [e] at h1 hd ⊢
    have d0 := hd 0 (by decide) (by decide)
    have d1 := (hd 1 (by decide) (by decide)).1
    have d01 := d0.2 (by decide)
    have x0 : dgS 2 v 0 = v / 9 % 9 - 1 := rfl
    have x1 : dgS 2 v 1 = v / 1 % 9 - 1 := rfl
    rw [p0] at h1
    obtain ⟨o, ho, y0, y1, y2⟩ := of_tri hF (x := dgS 2 v 0) (y := dgS 2 v 1) (z := dgS 2 v 1) d0.1 (Or.inl ⟨by omega, d01, d1.2⟩) (Or.inr ⟨by omega, rfl⟩)
    exact ⟨o, ho, by rw [num2, y0, y1]; omega⟩
  · have p0 : pwS 3 0 = 81 := rfl
    rw [e] at h1 hd ⊢
    have d0 := hd 0 (by decide) (by decide)
    have d1 := hd 1 (by decide) (by decide)
    have d2 := (hd 2 (by decide) (by decide)).1
    have d01 := d0.2 (by decide)
    have d12 := d1.2 (by decide)
    have x0 : dgS 3 v 0 = v / 81 % 9 - 1 := rfl
    have x1 : dgS 3 v 1 = v / 9 % 9 - 1 := rfl
    have x2 : dgS 3 v 2 = v / 1 % 9 - 1 := rfl
    rw [p0] at h1
    obtain ⟨o, ho, y0, y1, y2⟩ := of_tri hF (x := dgS 3 v 0) (y := dgS 3 v 1) (z := dgS 3 v 2) d0.1 (Or.inl ⟨by omega, d01, d1.1.2⟩) (Or.inl ⟨by omega, d12, d2.2⟩)
    exact ⟨o, ho, by rw [num3, y0, y1, y2]; omega⟩
theorem RE.looka {T : Tn} {r r' : Rw} {a b v z w : Int} (h : RE r r') (hT : WF T) : lookA T r a b v z w = lookA T r' a b v z w := by
  unfold lookA
  by_cases ok : trOK T a b v z ∧ 0 ≤ w ∧ w ≤ 3
  · obtain ⟨oa, ob, oab, oz, ov⟩ := ok.1
    have hl := RE.law h hT oa ob oz (ov.g hT)
    have e1 : ∀ p, 0 ≤ p ∧ p < T 0 1 → bagS T (dealS T r a b (dgS (T 0 3) v) z) p = bagS T (dealS T r' a b (dgS (T 0 3) v) z) p := fun p hp => (RE.deal h).bag hT hp
    rw [cif_pos ok, cif_pos ok, e1 a oa, e1 b ob, h.bag hT oa, h.bag hT ob]
    by_cases q : lawP T r a b (dgS (T 0 3) v) z
    · simp only [cif_pos q, cif_pos (hl.mp q)]
    · simp only [cif_neg q, cif_neg (fun z => q (hl.mpr z))]
  · rw [cif_neg ok, cif_neg ok]
/-- the pointers that stay -/
def PK (P P' : Ptr) : Prop := WP P' ∧ P' 1 = P 1 ∧ P' 46 = P 46
theorem PK.rf {P : Ptr} (h : WP P) : PK P P := ⟨h, rfl, rfl⟩
theorem PK.tr {P P' P'' : Ptr} (h : PK P P') (h2 : PK P' P'') : PK P P'' := ⟨h2.1, h2.2.1.trans h.2.1, h2.2.2.trans h.2.2⟩
theorem PK.mk {P : Ptr} {q t l : Nat} (h : WP P) (hq : isM q) (hn : q ≠ 46) : PK P (uP (uP P q 0 t) q 1 l) := by
  have h1 : 1 ≠ q := fun e => by unfold isM at hq; omega
  exact ⟨h.mk hq, by rw [uP_ne h1, uP_ne h1], by rw [uP_ne (Ne.symm hn), uP_ne (Ne.symm hn)]⟩
theorem MK.pk {I J : Mem} {P P' : Ptr} {t : Nat} {T : Tn} (h : MK I P 46 t (t + 13) T) (hP : PK P P') {S : Nat → Prop} (hf : Fc S I J) (hs : ∀ a, S a → ¬ inTL a) : MK J P' 46 t (t + 13) T := by
  have h2 := h.fr hf hs
  exact ⟨h2.1, h2.2.1, h2.2.2.1, by rw [hP.2.2]; exact h2.2.2.2.1, by rw [hP.2.2]; exact h2.2.2.2.2.1, h2.2.2.2.2.2⟩
theorem isM48 : isM 48 := Or.inr (Or.inl rfl)
theorem s48_tl : ∀ a, sM 48 a → ¬ inTL a := sM_out isM48
theorem trl {I : Mem} {P : Ptr} {t : Nat} {T : Tn} (hW : WP P) (hM : MK I P 46 t (t + 13) T) {J : Mem} {q : Nat} (hq : isM q) (hn : q ≠ 46) (hJ : Fc (sM q) I J) : PK P (uP (uP P q 0 t) q 1 (t + 13)) ∧ MK J (uP (uP P q 0 t) q 1 (t + 13)) q t (t + 13) T ∧ MK J (uP (uP P q 0 t) q 1 (t + 13)) 46 t (t + 13) T := by
  have hP : PK P (uP (uP P q 0 t) q 1 (t + 13)) := PK.mk hW hq hn
  have h2 := hM.fr hJ (sM_out hq)
  exact ⟨hP, ⟨hq, h2.2.1, h2.2.2.1, mk_P.1, mk_P.2, h2.2.2.2.2.2⟩, hM.pk hP hJ (sM_out hq)⟩
