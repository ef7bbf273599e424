/-! ===== the class: towns, laws, markets in its memory ===== -/
def Fc (S : Nat → Prop) (I J : Mem) : Prop := ∀ a, ¬ S a → J a = I a
theorem Fc.rf {S : Nat → Prop} {I : Mem} : Fc S I I := fun _ _ => rfl
theorem Fc.tr {S : Nat → Prop} {I J K : Mem} (h : Fc S I J) (h2 : Fc S J K) : Fc S I K := fun a q => (h2 a q).trans (h a q)
theorem Fc.mo {S S' : Nat → Prop} {I J : Mem} (h : Fc S I J) (hs : ∀ a, S a → S' a) : Fc S' I J := fun a q => h a (fun z => q (hs a z))
theorem Fc.ui {S : Nat → Prop} {I J : Mem} {a : Nat} {i v : Int} (h : Fc S I J) (ha : S a) : Fc S I (uI J a i v) := fun b q => by rw [uI_ne (fun e : b = a => q (by rw [e]; exact ha))]; exact h b q
theorem Fc.ua {S : Nat → Prop} {I J : Mem} {a : Nat} {f : Int → Int} (h : Fc S I J) (ha : S a) : Fc S I (uA J a f) := fun b q => by rw [uA_ne (fun e : b = a => q (by rw [e]; exact ha))]; exact h b q
def CA (I : Mem) (t : Nat) (T : Tn) : Prop := I t 0 = T 0 1 ∧ I t 1 = T 0 2 ∧ I t 2 = T 0 5 ∧ I t 3 = T 0 6 ∧ (∀ c, 0 ≤ c → c < 8 * T 0 1 → I (t + 2) c = T 1 c) ∧ (∀ p, 0 ≤ p → p < T 0 1 → I (t + 3) p = T 2 p ∧ I (t + 4) p = T 3 p) ∧ (∀ p k, 0 ≤ p → p < T 0 1 → 0 ≤ k → k < T 3 p → I (t + 5) (6 * p + k) = T 4 (18 * p + 3 * k) ∧ I (t + 6) (6 * p + k) = T 4 (18 * p + 3 * k + 1) ∧ I (t + 7) (6 * p + k) = T 4 (18 * p + 3 * k + 2)) ∧ (∀ x, 0 ≤ x → x < T 0 5 → I (t + 8) x = T 5 (3 * x) ∧ I (t + 9) x = T 5 (3 * x + 1) ∧ I (t + 10) x = T 5 (3 * x + 2)) ∧ ∀ m, 0 ≤ m → m < T 0 6 → I (t + 11) m = T 6 (2 * m) ∧ I (t + 12) m = T 6 (2 * m + 1)
def CLo (I : Mem) (l : Nat) (T : Tn) (o : Int) : Prop := (∀ j, 0 ≤ j → j < 3 → I (l + 1) (3 * o + j) = OF T o j) ∧ I (l + 2) o = numS (T 0 3) (OF T o) ∧ I (l + 3) o = OF T o (keepS T (OF T o)) ∧ (∀ z, 0 ≤ z → z < 8 → andF (shrF (I (l + 4) o) z) 1 = if askS T (OF T o) z = 0 then 0 else 1) ∧ ((I (l + 5) o = 1 ∧ (T 0 4 = -1 ∨ 0 < askS T (OF T o) (T 0 4))) ∨ (I (l + 5) o = 0 ∧ ¬ (T 0 4 = -1 ∨ 0 < askS T (OF T o) (T 0 4))))
def CL (I : Mem) (l : Nat) (T : Tn) : Prop := I l 0 = T 0 3 ∧ I l 1 = T 0 4 ∧ I l 2 = T 0 7 ∧ I l 3 = OFN T ∧ ∀ o, 0 ≤ o → o < OFN T → CLo I l T o
def MK (I : Mem) (P : Ptr) (q t l : Nat) (T : Tn) : Prop := isM q ∧ isT NO t ∧ isL NO l ∧ P q 0 = t ∧ P q 1 = l ∧ CA I t T ∧ CL I l T
/-- what towns and laws lie in -/
def inTL (a : Nat) : Prop := (3 ≤ a ∧ a ≤ 40) ∨ (50 ≤ a ∧ a ≤ 55)
theorem CA.fr {S : Nat → Prop} {I J : Mem} {t : Nat} {T : Tn} (h : CA I t T) (ht : isT NO t) (hf : Fc S I J) (hs : ∀ a, S a → ¬ inTL a) : CA J t T := by
  have hn : ∀ a, 3 ≤ a → a ≤ 40 → J a = I a := fun a a0 a1 => hf a (fun q => hs a q (Or.inl ⟨a0, a1⟩))
  have h1 := ht.1
  unfold CA
  rw [hn t (by omega) (by omega), hn (t + 2) (by omega) (by omega), hn (t + 3) (by omega) (by omega), hn (t + 4) (by omega) (by omega), hn (t + 5) (by omega) (by omega), hn (t + 6) (by omega) (by omega), hn (t + 7) (by omega) (by omega), hn (t + 8) (by omega) (by omega), hn (t + 9) (by omega) (by omega), hn (t + 10) (by omega) (by omega), hn (t + 11) (by omega) (by omega), hn (t + 12) (by omega) (by omega)]
  exact h
theorem CL.fr {S : Nat → Prop} {I J : Mem} {l : Nat} {T : Tn} (h : CL I l T) (hl : isL NO l) (hf : Fc S I J) (hs : ∀ a, S a → ¬ inTL a) : CL J l T := by
  have h1 := hl.1
  have hn : ∀ a, l ≤ a → a ≤ l + 5 → J a = I a := fun a a0 a1 => hf a (fun q => hs a q (by unfold inTL; omega))
  unfold CL CLo
  rw [hn l (by omega) (by omega), hn (l + 1) (by omega) (by omega), hn (l + 2) (by omega) (by omega), hn (l + 3) (by omega) (by omega), hn (l + 4) (by omega) (by omega), hn (l + 5) (by omega) (by omega)]
  exact h
theorem MK.fr {S : Nat → Prop} {I J : Mem} {P : Ptr} {q t l : Nat} {T : Tn} (h : MK I P q t l T) (hf : Fc S I J) (hs : ∀ a, S a → ¬ inTL a) : MK J P q t l T := ⟨h.1, h.2.1, h.2.2.1, h.2.2.2.1, h.2.2.2.2.1, h.2.2.2.2.2.1.fr h.2.1 hf hs, h.2.2.2.2.2.2.fr h.2.2.1 hf hs⟩
abbrev sM (q : Nat) : Nat → Prop := fun a => a = q ∨ a = q + 1
theorem sM_out {q : Nat} (h : isM q) : ∀ a, sM q a → ¬ inTL a := fun a ha => by
  unfold isM at h
  unfold inTL
  rcases ha with ha | ha <;> omega
theorem MK.fq {I J : Mem} {P : Ptr} {q t l : Nat} {T : Tn} (h : MK I P q t l T) (hf : Fc (sM q) I J) : MK J P q t l T := h.fr hf (sM_out h.1)
-- worth in closed form
theorem dv2 (k : Int) : ((k + 1) * k) / 2 = (k * (k - 1)) / 2 + k := by
  have h : (k + 1) * k = k * (k - 1) + 2 * k := by rw [Int.add_mul, Int.mul_sub, Int.one_mul, Int.mul_one]; omega
  rw [h]
  omega
theorem wcell_eq {w f c : Int} (hf : 0 ≤ f ∧ f ≤ 100) (hc : 0 ≤ c) {full : Int} (hfull : full = if 0 < f then (99 + f) / f else 1000000) (hcb : c ≤ 960) : wcell w f c = w * (100 * (min c full) - f * ((min c full) * (min c full - 1) / 2)) := by
  have hfl : 0 < f → ∀ i, 0 ≤ i → (i < (99 + f) / f ↔ 0 < 100 - f * i) := fun h0 i hi => by
    rw [Int.lt_iff_add_one_le, Int.le_ediv_iff_mul_le h0, Int.add_mul, Int.one_mul, Int.mul_comm i f]
    omega
  have hb : 0 < f → 1 ≤ (99 + f) / f := fun h0 => by
    rw [Int.le_ediv_iff_mul_le h0]; omega
  have key : ∀ c, 0 ≤ c → c ≤ 960 → wcell w f c = w * (100 * (min c full) - f * ((min c full) * (min c full - 1) / 2)) := fun c hc => by
    refine int_ind (p := fun c => c ≤ 960 → wcell w f c = w * (100 * (min c full) - f * ((min c full) * (min c full - 1) / 2))) (fun _ => ?_) (fun k hk ih hk9 => ?_) c hc
    · have h0 : min 0 full = 0 := by
        rw [hfull]
        by_cases h0 : 0 < f
        · rw [if_pos h0]; have := hb h0; omega
        · rw [if_neg h0]; decide
      rw [h0]
      show (0 : Int) = _
      rw [Int.mul_zero, Int.zero_mul, show (0 : Int) / 2 = 0 from rfl, Int.mul_zero, Int.sub_self, Int.mul_zero]
    · have e1 : wcell w f (k + 1) = wcell w f k + (if 0 < 100 - f * k then w * (100 - f * k) else 0) := sumN_s _ hk
      rw [e1, ih (by omega)]
      by_cases q : k < full
      · have hp : 0 < 100 - f * k := by
          by_cases h0 : 0 < f
          · rw [hfull, if_pos h0] at q
            exact (hfl h0 k hk).mp q
          · rw [show f = 0 by omega, Int.zero_mul]; decide
        rw [if_pos hp, show min k full = k by omega, show min (k + 1) full = k + 1 by omega, show k + 1 - 1 = k by omega, dv2, ← Int.mul_add]
        congr 1
        rw [Int.mul_add f]
        omega
      · have hp : ¬ 0 < 100 - f * k := by
          have h0 : 0 < f := by
            by_cases h0 : 0 < f
            · exact h0
            · rw [hfull, if_neg h0] at q; omega
          rw [hfull, if_pos h0] at q
          exact fun z => q ((hfl h0 k hk).mpr z)
        rw [if_neg hp, show min k full = full by omega, show min (k + 1) full = full by omega, Int.add_zero]
  exact key c hc hcb
-- offers are in order
theorem ofl_so : (List.range 3).all (fun g => (List.range 8).all (fun so => (List.range (OFL (g + 1) (so + 1)).length).all (fun o => decide (OFe (g + 1) (so + 1) o 0 ≤ OFe (g + 1) (so + 1) o 1 ∧ OFe (g + 1) (so + 1) o 1 ≤ OFe (g + 1) (so + 1) o 2)))) = true := by decide +kernel
theorem OF_so {T : Tn} (h : WF T) {o : Int} (ho : 0 ≤ o ∧ o < OFN T) : OF T o 0 ≤ OF T o 1 ∧ OF T o 1 ≤ OF T o 2 := by
  obtain ⟨g, so, hg, hs, e1, e2, e3, e4⟩ := h.g
  have ho2 := ho.2
  unfold OFN at ho2
  unfold OF
  rw [e3, e4] at *
  have a1 := List.all_eq_true.mp ofl_so g (List.mem_range.mpr hg)
  have a2 := List.all_eq_true.mp a1 so (List.mem_range.mpr hs)
  have a3 := of_decide_eq_true (List.all_eq_true.mp a2 o.toNat (List.mem_range.mpr (by omega)))
  rw [show (0 : Int).toNat = 0 from rfl, show (1 : Int).toNat = 1 from rfl, show (2 : Int).toNat = 2 from rfl]
  omega
/-- how often the k-th given sort was given so far -/
def cnS (γ : Rw) (k : Int) : Int := itN (fun i v => if 0 < i ∧ γ (i - 1) = γ i then v + 1 else 1) k 0
theorem cnS_s {γ : Rw} {k : Int} (h : 0 ≤ k) : cnS γ (k + 1) = if 0 < k ∧ γ (k - 1) = γ k then cnS γ k + 1 else 1 := itN_s _ _ h
theorem ask_u {T : Tn} {γ : Rw} {s : Int} (hg : 1 ≤ T 0 3 ∧ T 0 3 ≤ 3) : askS T γ s = (if γ 0 = s then 1 else 0) + (if 1 < T 0 3 ∧ γ 1 = s then 1 else 0) + (if 2 < T 0 3 ∧ γ 2 = s then 1 else 0) := by
  have h1 : sumN (fun k => if γ k = s then (1 : Int) else 0) 1 = if γ 0 = s then 1 else 0 := by
    have := sumN_s (fun k => if γ k = s then (1 : Int) else 0) (n := 0) (Int.le_refl 0)
    rw [sumN_0, Int.zero_add, Int.zero_add] at this
    exact this
  have h2 : sumN (fun k => if γ k = s then (1 : Int) else 0) 2 = _ := sumN_s (fun k => if γ k = s then (1 : Int) else 0) (n := 1) (by decide)
  have h3 : sumN (fun k => if γ k = s then (1 : Int) else 0) 3 = _ := sumN_s (fun k => if γ k = s then (1 : Int) else 0) (n := 2) (by decide)
  unfold askS
  have : T 0 3 = 1 ∨ T 0 3 = 2 ∨ T 0 3 = 3 := by omega
  rcases this with e | e | e
  · rw [e, h1]; simp
  · rw [e, h2, h1]; simp
  · rw [e, h3, h2, h1]; simp
theorem ite_or (c : Prop) [Decidable c] (a b : Int) : (c ∧ (if c then a else b) = a) ∨ (¬ c ∧ (if c then a else b) = b) := by
  by_cases h : c
  · exact Or.inl ⟨h, if_pos h⟩
  · exact Or.inr ⟨h, if_neg h⟩
theorem gv_iff {T : Tn} {γ f : Rw} (hg : 1 ≤ T 0 3 ∧ T 0 3 ≤ 3) (hso : γ 0 ≤ γ 1 ∧ γ 1 ≤ γ 2) : (∀ k, 0 ≤ k → k < T 0 3 → cnS γ (k + 1) ≤ f (γ k)) ↔ ∀ k, 0 ≤ k → k < T 0 3 → askS T γ (γ k) ≤ f (γ k) := by
  have c1 : cnS γ 1 = 1 := by
    have := cnS_s (γ := γ) (k := 0) (Int.le_refl 0)
    rw [if_neg (by omega)] at this
    exact this
  have c2 : cnS γ 2 = if 0 < (1 : Int) ∧ γ (1 - 1) = γ 1 then cnS γ 1 + 1 else 1 := cnS_s (γ := γ) (k := 1) (by decide)
  have c3 : cnS γ 3 = if 0 < (2 : Int) ∧ γ (2 - 1) = γ 2 then cnS γ 2 + 1 else 1 := cnS_s (γ := γ) (k := 2) (by decide)
  rw [show (1 : Int) - 1 = 0 from rfl] at c2
  rw [show (2 : Int) - 1 = 1 from rfl] at c3
  have a0 := ask_u (γ := γ) (s := γ 0) hg
  have a1 := ask_u (γ := γ) (s := γ 1) hg
  have a2 := ask_u (γ := γ) (s := γ 2) hg
  have d2 := ite_or (0 < (1 : Int) ∧ γ 0 = γ 1) (cnS γ 1 + 1) 1
  have d3 := ite_or (0 < (2 : Int) ∧ γ 1 = γ 2) (cnS γ 2 + 1) 1
  have b00 := ite_or (γ 0 = γ 0) 1 0
  have b01 := ite_or (1 < T 0 3 ∧ γ 1 = γ 0) 1 0
  have b02 := ite_or (2 < T 0 3 ∧ γ 2 = γ 0) 1 0
  have b10 := ite_or (γ 0 = γ 1) 1 0
  have b11 := ite_or (1 < T 0 3 ∧ γ 1 = γ 1) 1 0
  have b12 := ite_or (2 < T 0 3 ∧ γ 2 = γ 1) 1 0
  have b20 := ite_or (γ 0 = γ 2) 1 0
  have b21 := ite_or (1 < T 0 3 ∧ γ 1 = γ 2) 1 0
  have b22 := ite_or (2 < T 0 3 ∧ γ 2 = γ 2) 1 0
  rw [← c2] at d2
  rw [← c3] at d3
  have x01 : γ 0 = γ 1 → f (γ 0) = f (γ 1) := fun e => by rw [e]
  have x12 : γ 1 = γ 2 → f (γ 1) = f (γ 2) := fun e => by rw [e]
  generalize (if γ 0 = γ 0 then (1 : Int) else 0) = t00 at *
  generalize (if 1 < T 0 3 ∧ γ 1 = γ 0 then (1 : Int) else 0) = t01 at *
  generalize (if 2 < T 0 3 ∧ γ 2 = γ 0 then (1 : Int) else 0) = t02 at *
  generalize (if γ 0 = γ 1 then (1 : Int) else 0) = t10 at *
  generalize (if 1 < T 0 3 ∧ γ 1 = γ 1 then (1 : Int) else 0) = t11 at *
  generalize (if 2 < T 0 3 ∧ γ 2 = γ 1 then (1 : Int) else 0) = t12 at *
  generalize (if γ 0 = γ 2 then (1 : Int) else 0) = t20 at *
  generalize (if 1 < T 0 3 ∧ γ 1 = γ 2 then (1 : Int) else 0) = t21 at *
  generalize (if 2 < T 0 3 ∧ γ 2 = γ 2 then (1 : Int) else 0) = t22 at *
  clear c2 c3
  have hk3 : ∀ k, 0 ≤ k → k < T 0 3 → k = 0 ∨ k = 1 ∨ k = 2 := fun k k0 k1 => by omega
  constructor
  · intro h k k0 k1
    have h0 := h 0 (by decide) (by omega)
    have h1 := fun (q : 1 < T 0 3) => h 1 (by decide) q
    have h2 := fun (q : 2 < T 0 3) => h 2 (by decide) q
    rw [show (0 : Int) + 1 = 1 from rfl, c1] at h0
    rw [show (1 : Int) + 1 = 2 from rfl] at h1
    rw [show (2 : Int) + 1 = 3 from rfl] at h2
    clear h
    rcases hk3 k k0 k1 with rfl | rfl | rfl
    · rw [a0]; omega
    · rw [a1]; omega
    · rw [a2]; omega
  · intro h k k0 k1
    have h0 := h 0 (by decide) (by omega)
    have h1 := fun (q : 1 < T 0 3) => h 1 (by decide) q
    have h2 := fun (q : 2 < T 0 3) => h 2 (by decide) q
    rw [a0] at h0
    rw [a1] at h1
    rw [a2] at h2
    clear h
    rcases hk3 k k0 k1 with rfl | rfl | rfl
    · rw [show (0 : Int) + 1 = 1 from rfl, c1]; omega
    · rw [show (1 : Int) + 1 = 2 from rfl]; omega
    · rw [show (2 : Int) + 1 = 3 from rfl]; omega
def gvP (T : Tn) (r : Rw) (a o : Int) : Prop := (T 0 4 = -1 ∨ 0 < askS T (OF T o) (T 0 4)) ∧ ∀ k, 0 ≤ k → k < T 0 3 → askS T (OF T o) (OF T o k) ≤ r (8 * a + OF T o k)
def gtP (T : Tn) (r : Rw) (b o z : Int) : Prop := 0 < r (8 * b + z) ∧ askS T (OF T o) z = 0
theorem law_gg {T : Tn} {r : Rw} {a b o z : Int} : lawP T r a b (OF T o) z ↔ gvP T r a o ∧ gtP T r b o z := ⟨fun h => ⟨⟨h.2.2.1, h.2.2.2⟩, h.1, h.2.1⟩, fun h => ⟨h.2.1, h.2.2, h.1.1, h.1.2⟩⟩
/-- a deal, x times -/
def ddS (T : Tn) (a b : Int) (γ : Rw) (z c : Int) : Int := sumN (dlS T a b γ c) (T 0 3) + (if c = 8 * a + z then 1 else 0) - (if c = 8 * b + z then 1 else 0)
def delS (T : Tn) (r : Rw) (a b : Int) (γ : Rw) (z x : Int) : Rw := fun c => r c + x * ddS T a b γ z c
theorem del_1 {T : Tn} {r : Rw} {a b z : Int} {γ : Rw} : delS T r a b γ z 1 = dealS T r a b γ z := by
  funext c
  unfold delS ddS dealS
  omega
theorem del_m {T : Tn} {r : Rw} {a b z : Int} {γ : Rw} : delS T (dealS T r a b γ z) a b γ z (-1) = r := by
  funext c
  unfold delS ddS dealS
  omega
