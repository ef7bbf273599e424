/-! ===== the class: a town while it is read ===== -/
def CRa (K : Mem) (t : Nat) (S : Tn) (e : Int) : Prop := K t 0 = S 0 1 + e ∧ K t 1 = S 0 2 ∧ K t 2 = S 0 5 ∧ K t 3 = S 0 6
def CRb (K : Mem) (t : Nat) (S : Tn) : Prop := K (t + 13) 0 = S 0 3 ∧ K (t + 13) 1 = S 0 4 ∧ K (t + 13) 2 = S 0 7 ∧ K 41 7 = S 11 0
def CRc (K : Mem) (t : Nat) (S : Tn) : Prop := ∀ c, 0 ≤ c → c < 48 → K (t + 2) c = S 1 c ∧ K (t + 1) c = S 7 c
def CRd (K : Mem) (t : Nat) (S : Tn) : Prop := ∀ p, 0 ≤ p → p < 6 → K (t + 3) p = S 2 p ∧ K (t + 4) p = S 3 p
def CRe (K : Mem) (t : Nat) (S : Tn) : Prop := ∀ p k, 0 ≤ p → p < 6 → 0 ≤ k → k < S 3 p → K (t + 5) (6 * p + k) = S 4 (18 * p + 3 * k) ∧ K (t + 6) (6 * p + k) = S 4 (18 * p + 3 * k + 1) ∧ K (t + 7) (6 * p + k) = S 4 (18 * p + 3 * k + 2)
def CRf (K : Mem) (t : Nat) (S : Tn) : Prop := ∀ x, 0 ≤ x → x < S 0 5 → K (t + 8) x = S 5 (3 * x) ∧ K (t + 9) x = S 5 (3 * x + 1) ∧ K (t + 10) x = S 5 (3 * x + 2)
def CRg (K : Mem) (t : Nat) (S : Tn) : Prop := ∀ x, 0 ≤ x → x < S 0 6 → K (t + 11) x = S 6 (2 * x) ∧ K (t + 12) x = S 6 (2 * x + 1)
def CRz (S : Tn) (e : Int) : Prop := (∀ c, 8 * (S 0 1 + e) ≤ c → c < 48 → S 1 c = 0 ∧ S 7 c = 0) ∧ ∀ p, S 0 1 + e ≤ p → p < 6 → S 2 p = 0 ∧ S 3 p = 0
/-- e: 1 while a person is read -/
def CR (K : Mem) (t : Nat) (S : Tn) (e : Int) : Prop := CRa K t S e ∧ CRb K t S ∧ CRc K t S ∧ CRd K t S ∧ CRe K t S ∧ CRf K t S ∧ CRg K t S ∧ CRz S e ∧ SB S
theorem CR.a {K : Mem} {t : Nat} {S : Tn} {e : Int} (h : CR K t S e) : CRa K t S e := h.1
theorem CR.b {K : Mem} {t : Nat} {S : Tn} {e : Int} (h : CR K t S e) : CRb K t S := h.2.1
theorem CR.d {K : Mem} {t : Nat} {S : Tn} {e : Int} (h : CR K t S e) : CRd K t S := h.2.2.2.1
theorem CR.sb {K : Mem} {t : Nat} {S : Tn} {e : Int} (h : CR K t S e) : SB S := h.2.2.2.2.2.2.2.2
theorem CR.eq {I J : Mem} {t : Nat} {S : Tn} {e : Int} (h : CR I t S e) (h1 : ∀ a, t ≤ a → a ≤ t + 13 → J a = I a) (h2 : J 41 7 = I 41 7) : CR J t S e := by
  unfold CR CRa CRb CRc CRd CRe CRf CRg
  rw [h1 t (by omega) (by omega), h1 (t + 13) (by omega) (by omega), h1 (t + 2) (by omega) (by omega), h1 (t + 1) (by omega) (by omega), h1 (t + 3) (by omega) (by omega), h1 (t + 4) (by omega) (by omega), h1 (t + 5) (by omega) (by omega), h1 (t + 6) (by omega) (by omega), h1 (t + 7) (by omega) (by omega), h1 (t + 8) (by omega) (by omega), h1 (t + 9) (by omega) (by omega), h1 (t + 10) (by omega) (by omega), h1 (t + 11) (by omega) (by omega), h1 (t + 12) (by omega) (by omega), h2]
  exact h
theorem CR.fl {I J : Mem} {t : Nat} {S : Tn} {e : Int} (h : CR I t S e) (ht : isT NO t) (hf : FL rF I J) : CR J t S e := by
  have ht1 := ht.1
  exact h.eq (fun a a0 a1 => hf.1 a (by omega)) (hf.2 7 (by decide))
theorem TKC.fl {I J : Mem} {k : Tn} {m : Int} {L : List Int} (h : TKC I k m) (hf : FL L I J) : TKC J k m := h.fr (hf.1 43 (by decide)) (hf.1 44 (by decide)) (hf.1 45 (by decide))
abbrev sR (t : Nat) : Nat → Prop := fun a => a = 41 ∨ (t ≤ a ∧ a ≤ t + 18)
theorem FL.fc {I J : Mem} {L : List Int} {t : Nat} (h : FL L I J) : Fc (sR t) I J := fun a ha => h.1 a (fun e => ha (Or.inl e))
theorem TKC.fc {I J : Mem} {k : Tn} {m : Int} {t : Nat} (h : TKC I k m) (ht : isT NO t) (hf : Fc (sR t) I J) : TKC J k m := by
  have ht1 := ht.1
  exact h.fr (hf 43 (by show ¬ (43 = 41 ∨ _); omega)) (hf 44 (by show ¬ (44 = 41 ∨ _); omega)) (hf 45 (by show ¬ (45 = 41 ∨ _); omega))
theorem Fc.t {I J : Mem} {t a : Nat} {i v : Int} (h : Fc (sR t) I J) (ha : t ≤ a ∧ a ≤ t + 18) : Fc (sR t) I (uI J a i v) := h.ui (Or.inr ha)
theorem Fc.r {I J : Mem} {t : Nat} {i v : Int} (h : Fc (sR t) I J) : Fc (sR t) I (uI J 41 i v) := h.ui (Or.inl rfl)
theorem TKC.t {K : Mem} {k : Tn} {m : Int} {t a : Nat} {i v : Int} (h : TKC K k m) (ht : isT NO t) (ha : t ≤ a ∧ a ≤ t + 18) : TKC (uI K a i v) k m := h.fc ht (Fc.rf.t ha)
theorem TKC.r {K : Mem} {k : Tn} {m : Int} {i v : Int} (h : TKC K k m) : TKC (uI K 41 i v) k m := h.fr (uI_ne (by decide)) (uI_ne (by decide)) (uI_ne (by decide))
theorem r41 {K : Mem} {t a : Nat} {i v : Int} (ht : isT NO t) (ha : t ≤ a ∧ a ≤ t + 18) : uI K a i v 41 = K 41 := uI_ne (by have := ht.1; omega)
theorem nT {K : Mem} {t : Nat} (ht : isT NO t) (a : Nat) (i v : Int) (ha : t ≤ a ∧ a ≤ t + 18) : uI K 41 i v a = K a := uI_ne (by have := ht.1; omega)
def RSC (K : Mem) (t : Nat) (k : Tn) (m : Int) (R : Rs) : Prop := (R.1 = 0 ∧ K 41 6 = 0 ∧ K 41 2 = min R.2.2.1 m ∧ 0 ≤ R.2.2.1 ∧ CR K t R.2.2.2 0) ∨ (R.1 ≠ 0 ∧ K 41 6 = R.1 ∧ K 41 3 = R.2.1)
theorem RSC.no {K : Mem} {t : Nat} {k : Tn} {m c p : Int} {S : Tn} {r : Rs} (hc : c ≠ 0) (h6 : K 41 6 = c) (h3 : K 41 3 = p) : RSC K t k m (ckR c p S r) := by
  unfold ckR
  rw [if_neg hc]
  exact Or.inr ⟨hc, h6, h3⟩
theorem RSC.n2 {K : Mem} {t : Nat} {k : Tn} {m c v p : Int} {S : Tn} {r : Rs} (hc : c = v) (hv : v ≠ 0) (h6 : K 41 6 = v) (h3 : K 41 3 = p) : RSC K t k m (ckR c p S r) := by
  subst hc
  exact RSC.no hv h6 h3
theorem RSC.sgn {K : Mem} {t : Nat} {k : Tn} {m i : Int} {S : Tn} {r : Int} (ha : ATK K k m i) (hi : 0 ≤ i) (hS : CR K t S 0) (h : (r = 1 ∧ k 0 i = 1 ∧ K 41 6 = 0) ∨ (r = 0 ∧ k 0 i ≠ 1 ∧ K 41 6 = 1)) : RSC K t k m (sgnR k i S) := by
  unfold sgnR
  rcases h with ⟨_, h1, h2⟩ | ⟨_, h1, h2⟩
  · rw [ckR_0 (if_pos h1)]
    exact Or.inl ⟨rfl, h2, ha.1, by show 0 ≤ i + 1; omega, hS⟩
  · exact RSC.no (by rw [if_neg h1]; decide) (by rw [if_neg h1]; exact h2) ha.2.1
theorem ATK.b {K : Mem} {k : Tn} {m i : Int} (h : ATK K k m (i - 1)) : K 41 2 = min i m := by rw [h.1, Int.sub_add_cancel]
-- single changes
theorem CR.sorts {K : Mem} {t : Nat} {S : Tn} {v : Int} (h : CR K t S 0) (ht : isT NO t) (hv : 1 ≤ v ∧ v ≤ 8) : CR (uI K t 1 v) t (uI S 0 2 v) 0 := by
  obtain ⟨a, b, c, d, e, f, g, z, sb⟩ := h
  obtain ⟨rfl | rfl, -⟩ := ht <;>
  refine ⟨?_, ?_, ?_, ?_, ?_, ?_, ?_, ?_, ?_⟩ <;> first
    | (unfold CRa at a ⊢; simp [uI, u1] at a ⊢; exact ⟨a.1, a.2.2⟩)
    | (unfold CRb at b ⊢; simpa [uI, u1] using b)
    | (unfold CRc at c ⊢; simpa [uI, u1] using c)
    | (unfold CRd at d ⊢; simpa [uI, u1] using d)
    | (unfold CRe at e ⊢; simpa [uI, u1] using e)
    | (unfold CRf at f ⊢; simpa [uI, u1] using f)
    | (unfold CRg at g ⊢; simpa [uI, u1] using g)
    | (unfold CRz at z ⊢; simpa [uI, u1] using z)
    | (unfold SB at sb ⊢; simp [uI, u1] at sb ⊢; exact ⟨sb.1, hv, sb.2.2⟩)
/-- a tie's places behind the told ones -/
theorem CR.tie {K : Mem} {t a : Nat} {S : Tn} {v : Int} (h : CR K t S 0) (ht : isT NO t) (ha : a = t + 8 ∨ a = t + 9 ∨ a = t + 10) : CR (uI K a (S 0 5) v) t S 0 := by
  obtain ⟨ha1, hb, hc, hd, he, hf, hg, hz, hsb⟩ := h
  have key : CRf (uI K a (S 0 5) v) t S := fun x x0 x1 => by
    have h1 := hf x x0 x1
    have h2 : x ≠ S 0 5 := by omega
    rcases ha with rfl | rfl | rfl
    · rw [uI_eq, u1_ne h2, uI_ne (by omega), uI_ne (by omega)]; exact h1
    · rw [uI_eq, u1_ne h2, uI_ne (by omega), uI_ne (by omega)]; exact h1
    · rw [uI_eq, u1_ne h2, uI_ne (by omega), uI_ne (by omega)]; exact h1
  have hn : ∀ b, b ≠ a → uI K a (S 0 5) v b = K b := fun b hb => uI_ne hb
  have ht1 := ht.1
  refine ⟨?_, ?_, ?_, ?_, ?_, key, ?_, hz, hsb⟩
  · unfold CRa; rw [hn t (by omega)]; exact ha1
  · unfold CRb; rw [hn (t + 13) (by omega), hn 41 (by omega)]; exact hb
  · unfold CRc; rw [hn (t + 2) (by omega), hn (t + 1) (by omega)]; exact hc
  · unfold CRd; rw [hn (t + 3) (by omega), hn (t + 4) (by omega)]; exact hd
  · unfold CRe; rw [hn (t + 5) (by omega), hn (t + 6) (by omega), hn (t + 7) (by omega)]; exact he
  · unfold CRg; rw [hn (t + 11) (by omega), hn (t + 12) (by omega)]; exact hg
theorem CR.tieF {K : Mem} {t : Nat} {S : Tn} {u v w : Int} (h : CR K t S 0) (ht : isT NO t) (h4 : S 0 5 < 4) (hu : K (t + 8) (S 0 5) = u) (hv : K (t + 9) (S 0 5) = v) (hw : K (t + 10) (S 0 5) = w) : CR (uI K t 2 (S 0 5 + 1)) t (tieW S u v w) 0 := by
  obtain ⟨ha1, hb, hc, hd, he, hf, hg, hz, hsb⟩ := h
  have hn : ∀ b, b ≠ t → uI K t 2 (S 0 5 + 1) b = K b := fun b hb => uI_ne hb
  have e0 : ∀ k, k ≠ 5 → tieW S u v w 0 k = S 0 k := fun k hk => by unfold tieW; rw [uI_eq, u1_ne hk, uI_ne (by decide), uI_ne (by decide), uI_ne (by decide)]
  have e05 : tieW S u v w 0 5 = S 0 5 + 1 := by unfold tieW; rw [uI_eq, u1_eq]
  have eo : ∀ a, a ≠ 0 → a ≠ 5 → tieW S u v w a = S a := fun a a0 a5 => by unfold tieW; rw [uI_ne a0, uI_ne a5, uI_ne a5, uI_ne a5]
  have e5 : ∀ x, tieW S u v w 5 x = if x = 3 * S 0 5 + 2 then w else if x = 3 * S 0 5 + 1 then v else if x = 3 * S 0 5 then u else S 5 x := fun x => by
    unfold tieW; rw [uI_ne (by decide), uI_eq, uI_eq, uI_eq]; rfl
  have ht1 := ht.1
  refine ⟨?_, ?_, ?_, ?_, ?_, ?_, ?_, ?_, ?_⟩
  · unfold CRa; rw [uI_eq, u1_ne (by decide), u1_ne (by decide), u1_eq, u1_ne (by decide), e05, e0 1 (by decide), e0 2 (by decide), e0 6 (by decide)]; exact ⟨ha1.1, ha1.2.1, rfl, ha1.2.2.2⟩
  · unfold CRb; rw [hn (t + 13) (by omega), hn 41 (by omega), e0 _ (by decide), e0 _ (by decide), e0 _ (by decide), eo _ (by decide) (by decide)]; exact hb
  · unfold CRc; rw [hn (t + 2) (by omega), hn (t + 1) (by omega), eo _ (by decide) (by decide), eo _ (by decide) (by decide)]; exact hc
  · unfold CRd; rw [hn (t + 3) (by omega), hn (t + 4) (by omega), eo _ (by decide) (by decide), eo _ (by decide) (by decide)]; exact hd
  · unfold CRe; rw [hn (t + 5) (by omega), hn (t + 6) (by omega), hn (t + 7) (by omega), eo _ (by decide) (by decide), eo _ (by decide) (by decide)]; exact he
  · intro x x0 x1
    rw [e05] at x1
    rw [hn (t + 8) (by omega), hn (t + 9) (by omega), hn (t + 10) (by omega), e5, e5, e5]
    by_cases q : x = S 0 5
    · subst q
      rw [if_neg (by omega), if_neg (by omega), if_pos rfl, if_neg (by omega), if_pos rfl, if_pos rfl]
      exact ⟨hu, hv, hw⟩
    · rw [if_neg (by omega), if_neg (by omega), if_neg (by omega), if_neg (by omega), if_neg (by omega), if_neg (by omega), if_neg (by omega), if_neg (by omega), if_neg (by omega)]
      exact hf x x0 (by omega)
  · unfold CRg; rw [hn (t + 11) (by omega), hn (t + 12) (by omega), e0 _ (by decide), eo _ (by decide) (by decide)]; exact hg
  · unfold CRz; rw [e0 _ (by decide), eo _ (by decide) (by decide), eo _ (by decide) (by decide), eo _ (by decide) (by decide), eo _ (by decide) (by decide)]; exact hz
  · unfold SB; rw [e05, e0 1 (by decide), e0 2 (by decide), e0 6 (by decide), e0 7 (by decide), eo _ (by decide) (by decide), eo _ (by decide) (by decide), eo _ (by decide) (by decide), eo _ (by decide) (by decide), eo _ (by decide) (by decide)]
    obtain ⟨s1, s2, s3, s4⟩ := hsb
    exact ⟨s1, s2, ⟨by omega, by omega⟩, s4⟩
theorem CR.meet {K : Mem} {t a : Nat} {S : Tn} {v : Int} (h : CR K t S 0) (ht : isT NO t) (ha : a = t + 11 ∨ a = t + 12) : CR (uI K a (S 0 6) v) t S 0 := by
  obtain ⟨ha1, hb, hc, hd, he, hf, hg, hz, hsb⟩ := h
  have key : CRg (uI K a (S 0 6) v) t S := fun x x0 x1 => by
    have h1 := hg x x0 x1
    have h2 : x ≠ S 0 6 := by omega
    rcases ha with rfl | rfl
    · rw [uI_eq, u1_ne h2, uI_ne (by omega)]; exact h1
    · rw [uI_eq, u1_ne h2, uI_ne (by omega)]; exact h1
  have hn : ∀ b, b ≠ a → uI K a (S 0 6) v b = K b := fun b hb => uI_ne hb
  have ht1 := ht.1
  refine ⟨?_, ?_, ?_, ?_, ?_, ?_, key, hz, hsb⟩
  · unfold CRa; rw [hn t (by omega)]; exact ha1
  · unfold CRb; rw [hn (t + 13) (by omega), hn 41 (by omega)]; exact hb
  · unfold CRc; rw [hn (t + 2) (by omega), hn (t + 1) (by omega)]; exact hc
  · unfold CRd; rw [hn (t + 3) (by omega), hn (t + 4) (by omega)]; exact hd
  · unfold CRe; rw [hn (t + 5) (by omega), hn (t + 6) (by omega), hn (t + 7) (by omega)]; exact he
  · unfold CRf; rw [hn (t + 8) (by omega), hn (t + 9) (by omega), hn (t + 10) (by omega)]; exact hf
theorem CR.meetF {K : Mem} {t : Nat} {S : Tn} {u v : Int} (h : CR K t S 0) (ht : isT NO t) (h8 : S 0 6 < 8) (hu : K (t + 11) (S 0 6) = u) (hv : K (t + 12) (S 0 6) = v) : CR (uI K t 3 (S 0 6 + 1)) t (meetW S u v) 0 := by
  obtain ⟨ha1, hb, hc, hd, he, hf, hg, hz, hsb⟩ := h
  have hn : ∀ b, b ≠ t → uI K t 3 (S 0 6 + 1) b = K b := fun b hb => uI_ne hb
  have e0 : ∀ k, k ≠ 6 → meetW S u v 0 k = S 0 k := fun k hk => by unfold meetW; rw [uI_eq, u1_ne hk, uI_ne (by decide), uI_ne (by decide)]
  have e06 : meetW S u v 0 6 = S 0 6 + 1 := by unfold meetW; rw [uI_eq, u1_eq]
  have eo : ∀ a, a ≠ 0 → a ≠ 6 → meetW S u v a = S a := fun a a0 a5 => by unfold meetW; rw [uI_ne a0, uI_ne a5, uI_ne a5]
  have e6 : ∀ x, meetW S u v 6 x = if x = 2 * S 0 6 + 1 then v else if x = 2 * S 0 6 then u else S 6 x := fun x => by
    unfold meetW; rw [uI_ne (by decide), uI_eq, uI_eq]; rfl
  have ht1 := ht.1
  refine ⟨?_, ?_, ?_, ?_, ?_, ?_, ?_, ?_, ?_⟩
  · unfold CRa; rw [uI_eq, u1_ne (by decide), u1_ne (by decide), u1_ne (by decide), u1_eq, e06, e0 1 (by decide), e0 2 (by decide), e0 5 (by decide)]; exact ⟨ha1.1, ha1.2.1, ha1.2.2.1, rfl⟩
  · unfold CRb; rw [hn (t + 13) (by omega), hn 41 (by omega), e0 _ (by decide), e0 _ (by decide), e0 _ (by decide), eo _ (by decide) (by decide)]; exact hb
  · unfold CRc; rw [hn (t + 2) (by omega), hn (t + 1) (by omega), eo _ (by decide) (by decide), eo _ (by decide) (by decide)]; exact hc
  · unfold CRd; rw [hn (t + 3) (by omega), hn (t + 4) (by omega), eo _ (by decide) (by decide), eo _ (by decide) (by decide)]; exact hd
  · unfold CRe; rw [hn (t + 5) (by omega), hn (t + 6) (by omega), hn (t + 7) (by omega), eo _ (by decide) (by decide), eo _ (by decide) (by decide)]; exact he
  · unfold CRf; rw [hn (t + 8) (by omega), hn (t + 9) (by omega), hn (t + 10) (by omega), e0 _ (by decide), eo _ (by decide) (by decide)]; exact hf
  · intro x x0 x1
    rw [e06] at x1
    rw [hn (t + 11) (by omega), hn (t + 12) (by omega), e6, e6]
    by_cases q : x = S 0 6
    · subst q
      rw [if_neg (by omega), if_pos rfl, if_pos rfl]
      exact ⟨hu, hv⟩
    · rw [if_neg (by omega), if_neg (by omega), if_neg (by omega), if_neg (by omega)]
      exact hg x x0 (by omega)
  · unfold CRz; rw [e0 _ (by decide), eo _ (by decide) (by decide), eo _ (by decide) (by decide), eo _ (by decide) (by decide), eo _ (by decide) (by decide)]; exact hz
  · unfold SB; rw [e06, e0 1 (by decide), e0 2 (by decide), e0 5 (by decide), e0 7 (by decide), eo _ (by decide) (by decide), eo _ (by decide) (by decide), eo _ (by decide) (by decide), eo _ (by decide) (by decide), eo _ (by decide) (by decide)]
    obtain ⟨s1, s2, s3, s4, s5⟩ := hsb
    exact ⟨s1, s2, s3, ⟨by omega, by omega⟩, s5⟩
/-- a field of the law, or that one was told -/
theorem CR.lawF {K J : Mem} {t : Nat} {S S' : Tn} (h : CR K t S 0) (h1 : ∀ a, a ≠ 41 → a ≠ t + 13 → J a = K a) (hS0 : ∀ a, a ≠ 0 → a ≠ 11 → S' a = S a) (hS : S' 0 1 = S 0 1 ∧ S' 0 2 = S 0 2 ∧ S' 0 5 = S 0 5 ∧ S' 0 6 = S 0 6) (hb : CRb J t S') (hsb : SB S') (ht : isT NO t) : CR J t S' 0 := by
  obtain ⟨ha1, -, hc, hd, he, hf, hg, hz, -⟩ := h
  have ht1 := ht.1
  refine ⟨?_, hb, ?_, ?_, ?_, ?_, ?_, ?_, hsb⟩
  · unfold CRa; rw [h1 t (by omega) (by omega), hS.1, hS.2.1, hS.2.2.1, hS.2.2.2]; exact ha1
  · unfold CRc; rw [h1 (t + 2) (by omega) (by omega), h1 (t + 1) (by omega) (by omega), hS0 _ (by decide) (by decide), hS0 _ (by decide) (by decide)]; exact hc
  · unfold CRd; rw [h1 (t + 3) (by omega) (by omega), h1 (t + 4) (by omega) (by omega), hS0 _ (by decide) (by decide), hS0 _ (by decide) (by decide)]; exact hd
  · unfold CRe; rw [h1 (t + 5) (by omega) (by omega), h1 (t + 6) (by omega) (by omega), h1 (t + 7) (by omega) (by omega), hS0 _ (by decide) (by decide), hS0 _ (by decide) (by decide)]; exact he
  · unfold CRf; rw [h1 (t + 8) (by omega) (by omega), h1 (t + 9) (by omega) (by omega), h1 (t + 10) (by omega) (by omega), hS.2.2.1, hS0 _ (by decide) (by decide)]; exact hf
  · unfold CRg; rw [h1 (t + 11) (by omega) (by omega), h1 (t + 12) (by omega) (by omega), hS.2.2.2, hS0 _ (by decide) (by decide)]; exact hg
  · unfold CRz; rw [hS.1, hS0 _ (by decide) (by decide), hS0 _ (by decide) (by decide), hS0 _ (by decide) (by decide), hS0 _ (by decide) (by decide)]; exact hz
theorem CR.told {K : Mem} {t : Nat} {S : Tn} (h : CR K t S 0) (ht : isT NO t) : CR (uI K 41 7 1) t (uI S 11 0 1) 0 := by
  have ht1 := ht.1
  have hb := h.b
  have hsb := h.sb
  refine h.lawF (fun a a0 _ => uI_ne a0) (fun a _ a1 => uI_ne a1) ⟨rfl, rfl, rfl, rfl⟩ ?_ ?_ ht
  · unfold CRb; rw [uI_ne (show t + 13 ≠ 41 by omega), uI_eq, u1_eq, uI_ne (by decide), uI_eq, u1_eq]; exact ⟨hb.1, hb.2.1, hb.2.2.1, rfl⟩
  · obtain ⟨s1, s2, s3, s4, s5, s6, s7, s8, s9⟩ := hsb
    exact ⟨s1, s2, s3, s4, s5, s6, s7, Or.inr (by rw [uI_eq, u1_eq]), s9⟩
theorem CR.give {K : Mem} {t : Nat} {S : Tn} {v : Int} (h : CR K t S 0) (ht : isT NO t) : CR (uI K (t + 13) 0 v) t (uI S 0 3 v) 0 := by
  have ht1 := ht.1
  have hb := h.b
  refine h.lawF (fun a _ a0 => uI_ne a0) (fun a a1 _ => uI_ne a1) ⟨rfl, rfl, rfl, rfl⟩ ?_ h.sb ht
  unfold CRb; rw [uI_ne (show 41 ≠ t + 13 by omega), uI_ne (show 11 ≠ 0 by decide), uI_eq, uI_eq, u1_eq, u1_eq, u1_ne (by decide), u1_ne (by decide), u1_ne (by decide), u1_ne (by decide)]; exact ⟨rfl, hb.2⟩
theorem CR.spoon {K : Mem} {t : Nat} {S : Tn} {v : Int} (h : CR K t S 0) (ht : isT NO t) : CR (uI K (t + 13) 1 v) t (uI S 0 4 v) 0 := by
  have ht1 := ht.1
  have hb := h.b
  refine h.lawF (fun a _ a0 => uI_ne a0) (fun a a1 _ => uI_ne a1) ⟨rfl, rfl, rfl, rfl⟩ ?_ h.sb ht
  unfold CRb; rw [uI_ne (show 41 ≠ t + 13 by omega), uI_ne (show 11 ≠ 0 by decide), uI_eq, uI_eq, u1_eq, u1_eq, u1_ne (by decide), u1_ne (by decide), u1_ne (by decide), u1_ne (by decide)]; exact ⟨hb.1, rfl, hb.2.2⟩
theorem CR.burn {K : Mem} {t : Nat} {S : Tn} (h : CR K t S 0) (ht : isT NO t) : CR (uI K (t + 13) 2 1) t (uI S 0 7 1) 0 := by
  have ht1 := ht.1
  have hb := h.b
  obtain ⟨s1, s2, s3, s4, s5, s6, s7, s8, s9⟩ := h.sb
  refine h.lawF (fun a _ a0 => uI_ne a0) (fun a a1 _ => uI_ne a1) ⟨rfl, rfl, rfl, rfl⟩ ?_ ⟨s1, s2, s3, s4, s5, s6, s7, s8, Or.inr (by rw [uI_eq, u1_eq])⟩ ht
  unfold CRb; rw [uI_ne (show 41 ≠ t + 13 by omega), uI_ne (show 11 ≠ 0 by decide), uI_eq, uI_eq, u1_eq, u1_eq, u1_ne (by decide), u1_ne (by decide), u1_ne (by decide), u1_ne (by decide)]; exact ⟨hb.1, hb.2.1, rfl, hb.2.2.2⟩

