/-! ===== the class: the reader's persons, their parts ===== -/
def BTS (w : Int) (f : Int → Int) : Prop := (0 ≤ w ∧ w < 256) ∧ ∀ z, 0 ≤ z → z < 8 → andF (shrF w z) 1 = f z
theorem BTS.set {w x : Int} {f : Int → Int} (h : BTS w f) (hx : 0 ≤ x ∧ x < 8) : BTS (orF w (shlF 1 x)) (u1 f x 1) := by
  refine ⟨(orb h.1 hx (z := 0) (by decide)).1, fun z z0 z1 => ?_⟩
  rw [(orb h.1 hx ⟨z0, z1⟩).2]
  by_cases e : x = z
  · rw [if_pos e, ← e, u1_eq]
  · rw [if_neg e, u1_ne (Ne.symm e)]; exact h.2 z z0 z1
theorem BTS.z : BTS 0 (fun _ => 0) := ⟨by decide, fun z z0 z1 => by
  have : z = 0 ∨ z = 1 ∨ z = 2 ∨ z = 3 ∨ z = 4 ∨ z = 5 ∨ z = 6 ∨ z = 7 := by omega
  rcases this with rfl | rfl | rfl | rfl | rfl | rfl | rfl | rfl <;> decide +kernel⟩
theorem BTS.c {w : Int} {f g : Int → Int} (h : BTS w f) (e : ∀ z, 0 ≤ z → z < 8 → f z = g z) : BTS w g := ⟨h.1, fun z z0 z1 => (h.2 z z0 z1).trans (e z z0 z1)⟩
def CP (K : Mem) (t : Nat) (S : Tn) : Prop := CR K t S 1 ∧ S 0 1 < 6 ∧ K 41 8 = S 10 0 ∧ BTS (K 41 9) (S 8) ∧ BTS (K 41 10) (S 9)
def RSP (K : Mem) (t : Nat) (k : Tn) (m : Int) (R : Rs) : Prop := (R.1 = 0 ∧ K 41 6 = 0 ∧ K 41 2 = min R.2.2.1 m ∧ CP K t R.2.2.2) ∨ (R.1 ≠ 0 ∧ K 41 6 = R.1 ∧ K 41 3 = R.2.1)
theorem RSP.no {K : Mem} {t : Nat} {k : Tn} {m c p : Int} {S : Tn} {r : Rs} (hc : c ≠ 0) (h6 : K 41 6 = c) (h3 : K 41 3 = p) : RSP K t k m (ckR c p S r) := by
  unfold ckR
  rw [if_neg hc]
  exact Or.inr ⟨hc, h6, h3⟩
theorem RSP.n2 {K : Mem} {t : Nat} {k : Tn} {m c v p : Int} {S : Tn} {r : Rs} (hc : c = v) (hv : v ≠ 0) (h6 : K 41 6 = v) (h3 : K 41 3 = p) : RSP K t k m (ckR c p S r) := by
  subst hc
  exact RSP.no hv h6 h3
theorem CR.cell {K : Mem} {t A a b : Nat} {S : Tn} {s v x : Int} (h : CR K t S 1) (ht : isT NO t) (h6 : S 0 1 < 6) (hs : 0 ≤ s ∧ s < 8) (hA : (A = t + 1 ∧ a = 7 ∧ b = 8) ∨ (A = t + 2 ∧ a = 1 ∧ b = 9)) (hx : x = 8 * S 0 1 + s) : CR (uI K A x v) t (uI (uI S b s 1) a x v) 1 := by
  obtain ⟨ha1, hb, hc, hd, he, hf, hg, hz, hsb⟩ := h
  have hn : ∀ c, c ≠ A → uI K A x v c = K c := fun c hc => uI_ne hc
  have hS : ∀ c, c ≠ a → c ≠ b → uI (uI S b s 1) a x v c = S c := fun c ca cb => by rw [uI_ne ca, uI_ne cb]
  have ht1 := ht.1
  have f1 := hsb.1
  have hab : a ≠ b := by omega
  have ea : uI (uI S b s 1) a x v a = u1 (S a) x v := by rw [uI_eq, uI_ne hab]
  have eb : uI (uI S b s 1) a x v b = u1 (S b) s 1 := by rw [uI_ne (Ne.symm hab), uI_eq]
  have eA : uI K A x v A = u1 (K A) x v := uI_eq
  refine ⟨?_, ?_, ?_, ?_, ?_, ?_, ?_, ?_, ?_⟩
  · unfold CRa; rw [hn t (by omega), hS 0 (by omega) (by omega)]; exact ha1
  · unfold CRb; rw [hn (t + 13) (by omega), hn 41 (by omega), hS 0 (by omega) (by omega), hS 11 (by omega) (by omega)]; exact hb
  · intro c c0 c1
    have h1 := hc c c0 c1
    rcases hA with ⟨rfl, rfl, rfl⟩ | ⟨rfl, rfl, rfl⟩
    · rw [hn (t + 2) (by omega), hS 1 (by decide) (by decide), eA, ea]
      refine ⟨h1.1, ?_⟩
      unfold u1
      split
      · rfl
      · exact h1.2
    · rw [hn (t + 1) (by omega), hS 7 (by decide) (by decide), eA, ea]
      refine ⟨?_, h1.2⟩
      unfold u1
      split
      · rfl
      · exact h1.1
  · unfold CRd; rw [hn (t + 3) (by omega), hn (t + 4) (by omega), hS 2 (by omega) (by omega), hS 3 (by omega) (by omega)]; exact hd
  · unfold CRe; rw [hn (t + 5) (by omega), hn (t + 6) (by omega), hn (t + 7) (by omega), hS 3 (by omega) (by omega), hS 4 (by omega) (by omega)]; exact he
  · unfold CRf; rw [hn (t + 8) (by omega), hn (t + 9) (by omega), hn (t + 10) (by omega), hS 0 (by omega) (by omega), hS 5 (by omega) (by omega)]; exact hf
  · unfold CRg; rw [hn (t + 11) (by omega), hn (t + 12) (by omega), hS 0 (by omega) (by omega), hS 6 (by omega) (by omega)]; exact hg
  · unfold CRz
    rw [hS 0 (by omega) (by omega), hS 2 (by omega) (by omega), hS 3 (by omega) (by omega)]
    refine ⟨fun c c0 c1 => ?_, hz.2⟩
    have h1 := hz.1 c c0 c1
    rcases hA with ⟨rfl, rfl, rfl⟩ | ⟨rfl, rfl, rfl⟩
    · rw [hS 1 (by decide) (by decide), ea, u1_ne (by omega)]; exact h1
    · rw [hS 7 (by decide) (by decide), ea, u1_ne (by omega)]; exact h1
  · unfold SB
    rw [hS 0 (by omega) (by omega), hS 3 (by omega) (by omega), hS 10 (by omega) (by omega), hS 11 (by omega) (by omega)]
    obtain ⟨s1, s2, s3, s4, s5, s6, s7⟩ := hsb
    refine ⟨s1, s2, s3, s4, s5, fun y => ?_, s7⟩
    have h1 := s6 y
    rcases hA with ⟨rfl, rfl, rfl⟩ | ⟨rfl, rfl, rfl⟩
    · rw [hS 9 (by decide) (by decide), eb]
      refine ⟨?_, h1.2⟩
      unfold u1
      split
      · exact Or.inr rfl
      · exact h1.1
    · rw [hS 8 (by decide) (by decide), eb]
      refine ⟨h1.1, ?_⟩
      unfold u1
      split
      · exact Or.inr rfl
      · exact h1.2
theorem CR.pair {K : Mem} {t a : Nat} {S : Tn} {v x : Int} (h : CR K t S 1) (ht : isT NO t) (h3 : S 3 (S 0 1) < 6) (ha : a = t + 5 ∨ a = t + 6 ∨ a = t + 7) (hx : x = 6 * S 0 1 + S 3 (S 0 1)) : CR (uI K a x v) t S 1 := by
  obtain ⟨ha1, hb, hc, hd, he, hf, hg, hz, hsb⟩ := h
  have f1 := hsb.1
  have f3 := hsb.2.2.2.2.1
  have key : CRe (uI K a x v) t S := fun p q p0 p1 q0 q1 => by
    have h1 := he p q p0 p1 q0 q1
    have b1 := f3 p
    have b2 := f3 (S 0 1)
    have h2 : 6 * p + q ≠ x := by
      rw [hx]
      intro e
      have e2 : p = S 0 1 := by omega
      rw [e2] at q1 e
      omega
    rcases ha with rfl | rfl | rfl
    · rw [uI_eq, u1_ne h2, uI_ne (by omega), uI_ne (by omega)]; exact h1
    · rw [uI_eq, u1_ne h2, uI_ne (by omega), uI_ne (by omega)]; exact h1
    · rw [uI_eq, u1_ne h2, uI_ne (by omega), uI_ne (by omega)]; exact h1
  have hn : ∀ b, b ≠ a → uI K a x v b = K b := fun b hb => uI_ne hb
  have ht1 := ht.1
  refine ⟨?_, ?_, ?_, ?_, key, ?_, ?_, hz, hsb⟩
  · unfold CRa; rw [hn t (by omega)]; exact ha1
  · unfold CRb; rw [hn (t + 13) (by omega), hn 41 (by omega)]; exact hb
  · unfold CRc; rw [hn (t + 2) (by omega), hn (t + 1) (by omega)]; exact hc
  · unfold CRd; rw [hn (t + 3) (by omega), hn (t + 4) (by omega)]; exact hd
  · unfold CRf; rw [hn (t + 8) (by omega), hn (t + 9) (by omega), hn (t + 10) (by omega)]; exact hf
  · unfold CRg; rw [hn (t + 11) (by omega), hn (t + 12) (by omega)]; exact hg
theorem CR.pairF {K : Mem} {t : Nat} {S : Tn} {u v w x : Int} (h : CR K t S 1) (ht : isT NO t) (h6 : S 0 1 < 6) (h3 : S 3 (S 0 1) < 6) (hx : x = 6 * S 0 1 + S 3 (S 0 1)) (hu : K (t + 5) x = u) (hv : K (t + 6) x = v) (hw : K (t + 7) x = w) : CR (uI K (t + 4) (S 0 1) (S 3 (S 0 1) + 1)) t (pairW S u v w) 1 := by
  obtain ⟨ha1, hb, hc, hd, he, hf, hg, hz, hsb⟩ := h
  have hn : ∀ b, b ≠ t + 4 → uI K (t + 4) (S 0 1) (S 3 (S 0 1) + 1) b = K b := fun b hb => uI_ne hb
  have eo : ∀ a, a ≠ 3 → a ≠ 4 → pairW S u v w a = S a := fun a a0 a5 => by unfold pairW; rw [uI_ne a0, uI_ne a5, uI_ne a5, uI_ne a5]
  have e3 : ∀ y, pairW S u v w 3 y = if y = S 0 1 then S 3 (S 0 1) + 1 else S 3 y := fun y => by
    unfold pairW; rw [uI_eq, uI_ne (by decide), uI_ne (by decide), uI_ne (by decide)]; rfl
  have e4 : ∀ y, pairW S u v w 4 y = if y = 18 * S 0 1 + 3 * S 3 (S 0 1) + 2 then w else if y = 18 * S 0 1 + 3 * S 3 (S 0 1) + 1 then v else if y = 18 * S 0 1 + 3 * S 3 (S 0 1) then u else S 4 y := fun y => by
    unfold pairW; rw [uI_ne (by decide), uI_eq, uI_eq, uI_eq]; rfl
  have ht1 := ht.1
  have f1 := hsb.1
  have f3 := hsb.2.2.2.2.1
  refine ⟨?_, ?_, ?_, ?_, ?_, ?_, ?_, ?_, ?_⟩
  · unfold CRa; rw [hn t (by omega), eo 0 (by decide) (by decide)]; exact ha1
  · unfold CRb; rw [hn (t + 13) (by omega), hn 41 (by omega), eo 0 (by decide) (by decide), eo 11 (by decide) (by decide)]; exact hb
  · unfold CRc; rw [hn (t + 2) (by omega), hn (t + 1) (by omega), eo 1 (by decide) (by decide), eo 7 (by decide) (by decide)]; exact hc
  · intro p p0 p1
    have h1 := hd p p0 p1
    rw [hn (t + 3) (by omega), eo 2 (by decide) (by decide), uI_eq, e3]
    refine ⟨h1.1, ?_⟩
    unfold u1
    split
    · rfl
    · exact h1.2
  · intro p q p0 p1 q0 q1
    rw [e3] at q1
    rw [hn (t + 5) (by omega), hn (t + 6) (by omega), hn (t + 7) (by omega), e4, e4, e4]
    have b1 := f3 p
    have b2 := f3 (S 0 1)
    by_cases z : p = S 0 1 ∧ q = S 3 (S 0 1)
    · obtain ⟨rfl, rfl⟩ := z
      rw [if_neg (by omega), if_neg (by omega), if_pos rfl, if_neg (by omega), if_pos rfl, if_pos rfl, ← hx]
      exact ⟨hu, hv, hw⟩
    · have h2 : q < S 3 p := by
        split at q1
        · next e => rw [e] at z ⊢; omega
        · exact q1
      have h4 : 6 * p + q ≠ 6 * S 0 1 + S 3 (S 0 1) := fun e => by
        have e2 : p = S 0 1 := by omega
        exact z ⟨e2, by rw [e2] at e; omega⟩
      rw [if_neg (by omega), if_neg (by omega), if_neg (by omega), if_neg (by omega), if_neg (by omega), if_neg (by omega), if_neg (by omega), if_neg (by omega), if_neg (by omega)]
      exact he p q p0 p1 q0 h2
  · unfold CRf; rw [hn (t + 8) (by omega), hn (t + 9) (by omega), hn (t + 10) (by omega), eo 0 (by decide) (by decide), eo 5 (by decide) (by decide)]; exact hf
  · unfold CRg; rw [hn (t + 11) (by omega), hn (t + 12) (by omega), eo 0 (by decide) (by decide), eo 6 (by decide) (by decide)]; exact hg
  · unfold CRz
    rw [eo 0 (by decide) (by decide), eo 1 (by decide) (by decide), eo 7 (by decide) (by decide), eo 2 (by decide) (by decide)]
    refine ⟨hz.1, fun p p0 p1 => ?_⟩
    rw [e3, if_neg (by omega)]
    exact hz.2 p p0 p1
  · unfold SB
    rw [eo 0 (by decide) (by decide), eo 8 (by decide) (by decide), eo 9 (by decide) (by decide), eo 10 (by decide) (by decide), eo 11 (by decide) (by decide)]
    obtain ⟨s1, s2, s3, s4, s5, s6⟩ := hsb
    refine ⟨s1, s2, s3, s4, fun p => ?_, s6⟩
    have b1 := s5 p
    have b2 := s5 (S 0 1)
    rw [e3]
    split <;> omega
theorem CR.fall {K : Mem} {t : Nat} {S : Tn} {v : Int} (h : CR K t S 1) (ht : isT NO t) (h6 : S 0 1 < 6) : CR (uI K (t + 3) (S 0 1) v) t (uI (uI S 10 0 1) 2 (S 0 1) v) 1 := by
  obtain ⟨ha1, hb, hc, hd, he, hf, hg, hz, hsb⟩ := h
  have hn : ∀ b, b ≠ t + 3 → uI K (t + 3) (S 0 1) v b = K b := fun b hb => uI_ne hb
  have eo : ∀ a, a ≠ 2 → a ≠ 10 → uI (uI S 10 0 1) 2 (S 0 1) v a = S a := fun a a0 a5 => by rw [uI_ne a0, uI_ne a5]
  have e2 : uI (uI S 10 0 1) 2 (S 0 1) v 2 = u1 (S 2) (S 0 1) v := by rw [uI_eq, uI_ne (by decide)]
  have e10 : uI (uI S 10 0 1) 2 (S 0 1) v 10 = u1 (S 10) 0 1 := by rw [uI_ne (by decide), uI_eq]
  have ht1 := ht.1
  have f1 := hsb.1
  refine ⟨?_, ?_, ?_, ?_, ?_, ?_, ?_, ?_, ?_⟩
  · unfold CRa; rw [hn t (by omega), eo 0 (by decide) (by decide)]; exact ha1
  · unfold CRb; rw [hn (t + 13) (by omega), hn 41 (by omega), eo 0 (by decide) (by decide), eo 11 (by decide) (by decide)]; exact hb
  · unfold CRc; rw [hn (t + 2) (by omega), hn (t + 1) (by omega), eo 1 (by decide) (by decide), eo 7 (by decide) (by decide)]; exact hc
  · intro p p0 p1
    have h1 := hd p p0 p1
    rw [hn (t + 4) (by omega), eo 3 (by decide) (by decide), uI_eq, e2]
    refine ⟨?_, h1.2⟩
    unfold u1
    split
    · rfl
    · exact h1.1
  · unfold CRe; rw [hn (t + 5) (by omega), hn (t + 6) (by omega), hn (t + 7) (by omega), eo 3 (by decide) (by decide), eo 4 (by decide) (by decide)]; exact he
  · unfold CRf; rw [hn (t + 8) (by omega), hn (t + 9) (by omega), hn (t + 10) (by omega), eo 0 (by decide) (by decide), eo 5 (by decide) (by decide)]; exact hf
  · unfold CRg; rw [hn (t + 11) (by omega), hn (t + 12) (by omega), eo 0 (by decide) (by decide), eo 6 (by decide) (by decide)]; exact hg
  · unfold CRz
    rw [eo 0 (by decide) (by decide), eo 1 (by decide) (by decide), eo 7 (by decide) (by decide), eo 3 (by decide) (by decide), e2]
    refine ⟨hz.1, fun p p0 p1 => ?_⟩
    rw [u1_ne (by omega)]
    exact hz.2 p p0 p1
  · unfold SB
    rw [eo 0 (by decide) (by decide), eo 3 (by decide) (by decide), eo 8 (by decide) (by decide), eo 9 (by decide) (by decide), eo 11 (by decide) (by decide), e10]
    obtain ⟨s1, s2, s3, s4, s5, s6, s7, s8⟩ := hsb
    exact ⟨s1, s2, s3, s4, s5, s6, Or.inr u1_eq, s8⟩
theorem CR.r {K : Mem} {t : Nat} {S : Tn} {e f v : Int} (h : CR K t S e) (ht : isT NO t) (hf : f ≠ 7) : CR (uI K 41 f v) t S e := by
  have ht1 := ht.1
  exact h.eq (fun a a0 a1 => uI_ne (by omega)) (by rw [uI_eq, u1_ne (Ne.symm hf)])
theorem CP.new {K J : Mem} {t : Nat} {S : Tn} (h : CR K t S 0) (ht : isT NO t) (h6 : S 0 1 < 6) (hJ : ∀ a, a ≠ t → a ≠ 41 → J a = K a) (h1 : J t = u1 (K t) 0 (S 0 1 + 1)) (h7 : J 41 7 = K 41 7) (h8 : J 41 8 = 0) (h9 : J 41 9 = 0) (h10 : J 41 10 = 0) : CP J t (newP S) := by
  obtain ⟨ha1, hb, hc, hd, he, hf, hg, hz, hsb⟩ := h
  have ht1 := ht.1
  have f1 := hsb.1
  have n0 : newP S 0 = S 0 := by
    funext c
    unfold newP
    rw [if_neg (by omega), if_neg (by omega), if_neg (by omega)]
  have nn : ∀ a, a ≠ 7 → a ≠ 1 → a ≠ 8 → a ≠ 9 → a ≠ 10 → a ≠ 2 → a ≠ 3 → newP S a = S a := fun a a7 a1 a8 a9 a10 a2 a3 => by
    funext c
    unfold newP
    rw [if_neg (by omega), if_neg (by omega), if_neg (by omega)]
  have nz : ∀ c, newP S 8 c = 0 ∧ newP S 9 c = 0 ∧ newP S 10 c = 0 := fun c => by
    refine ⟨?_, ?_, ?_⟩ <;> (unfold newP; rw [if_neg (by omega), if_pos (by decide)])
  have n17 : ∀ c, 0 ≤ c → c < 48 → newP S 1 c = S 1 c ∧ newP S 7 c = S 7 c := fun c c0 c1 => by
    by_cases q : 8 * S 0 1 ≤ c ∧ c < 8 * S 0 1 + 8
    · have hz1 := hz.1 c (by omega) c1
      rw [hz1.1, hz1.2]
      exact ⟨if_pos ⟨Or.inr rfl, q⟩, if_pos ⟨Or.inl rfl, q⟩⟩
    · refine ⟨?_, ?_⟩ <;> (unfold newP; rw [if_neg (fun z => q z.2), if_neg (by decide), if_neg (fun z => by rcases z.1 with z | z <;> exact absurd z (by decide))])
  have n23 : ∀ p, 0 ≤ p → p < 6 → newP S 2 p = S 2 p ∧ newP S 3 p = S 3 p := fun p p0 p1 => by
    by_cases q : p = S 0 1
    · have hz1 := hz.2 p (by omega) p1
      rw [hz1.1, hz1.2]
      refine ⟨?_, ?_⟩ <;> (unfold newP; rw [if_neg (fun z => by rcases z.1 with z | z <;> exact absurd z (by decide)), if_neg (by decide), if_pos ⟨by decide, q⟩])
    · refine ⟨?_, ?_⟩ <;> (unfold newP; rw [if_neg (fun z => by rcases z.1 with z | z <;> exact absurd z (by decide)), if_neg (by decide), if_neg (fun z => q z.2)])
  have n3 : ∀ p, newP S 3 p = S 3 p ∨ newP S 3 p = 0 := fun p => by
    by_cases q : p = S 0 1
    · right
      unfold newP; rw [if_neg (fun z => by rcases z.1 with z | z <;> exact absurd z (by decide)), if_neg (by decide), if_pos ⟨by decide, q⟩]
    · left
      unfold newP; rw [if_neg (fun z => by rcases z.1 with z | z <;> exact absurd z (by decide)), if_neg (by decide), if_neg (fun z => q z.2)]
  refine ⟨⟨?_, ?_, ?_, ?_, ?_, ?_, ?_, ?_, ?_⟩, by rw [n0]; exact h6, by rw [(nz 0).2.2]; exact h8, by rw [h9]; exact BTS.z.c (fun z _ _ => (nz z).1.symm), by rw [h10]; exact BTS.z.c (fun z _ _ => (nz z).2.1.symm)⟩
  · unfold CRa; rw [n0, h1, u1_eq, u1_ne (by decide), u1_ne (by decide), u1_ne (by decide)]; exact ⟨rfl, ha1.2⟩
  · unfold CRb; rw [n0, nn 11 (by decide) (by decide) (by decide) (by decide) (by decide) (by decide) (by decide), hJ (t + 13) (by omega) (by omega), h7]; exact hb
  · intro c c0 c1; rw [hJ (t + 2) (by omega) (by omega), hJ (t + 1) (by omega) (by omega), (n17 c c0 c1).1, (n17 c c0 c1).2]; exact hc c c0 c1
  · intro p p0 p1; rw [hJ (t + 3) (by omega) (by omega), hJ (t + 4) (by omega) (by omega), (n23 p p0 p1).1, (n23 p p0 p1).2]; exact hd p p0 p1
  · intro p q p0 p1 q0 q1
    rw [(n23 p p0 p1).2] at q1
    rw [hJ (t + 5) (by omega) (by omega), hJ (t + 6) (by omega) (by omega), hJ (t + 7) (by omega) (by omega), nn 4 (by decide) (by decide) (by decide) (by decide) (by decide) (by decide) (by decide)]
    exact he p q p0 p1 q0 q1
  · unfold CRf; rw [n0, nn 5 (by decide) (by decide) (by decide) (by decide) (by decide) (by decide) (by decide), hJ (t + 8) (by omega) (by omega), hJ (t + 9) (by omega) (by omega), hJ (t + 10) (by omega) (by omega)]; exact hf
  · unfold CRg; rw [n0, nn 6 (by decide) (by decide) (by decide) (by decide) (by decide) (by decide) (by decide), hJ (t + 11) (by omega) (by omega), hJ (t + 12) (by omega) (by omega)]; exact hg
  · unfold CRz
    rw [n0]
    refine ⟨fun c c0 c1 => ?_, fun p p0 p1 => ?_⟩
    · rw [(n17 c (by omega) c1).1, (n17 c (by omega) c1).2]; exact hz.1 c (by omega) c1
    · rw [(n23 p (by omega) p1).1, (n23 p (by omega) p1).2]; exact hz.2 p (by omega) p1
  · unfold SB
    obtain ⟨s1, s2, s3, s4, s5, s6, s7, s8, s9⟩ := hsb
    rw [n0, nn 11 (by decide) (by decide) (by decide) (by decide) (by decide) (by decide) (by decide)]
    refine ⟨s1, s2, s3, s4, fun p => ?_, fun s => ⟨Or.inl (nz s).1, Or.inl (nz s).2.1⟩, Or.inl (nz 0).2.2, s8, s9⟩
    rcases n3 p with e | e
    · rw [e]; exact s5 p
    · rw [e]; decide
theorem CR.done {K : Mem} {t : Nat} {S : Tn} (h : CR K t S 1) (h6 : S 0 1 < 6) : CR K t (uI S 0 1 (S 0 1 + 1)) 0 := by
  obtain ⟨ha1, hb, hc, hd, he, hf, hg, hz, hsb⟩ := h
  have f1 := hsb.1
  have e0 : ∀ k, k ≠ 1 → uI S 0 1 (S 0 1 + 1) 0 k = S 0 k := fun k hk => by rw [uI_eq, u1_ne hk]
  have e1 : uI S 0 1 (S 0 1 + 1) 0 1 = S 0 1 + 1 := by rw [uI_eq, u1_eq]
  have eo : ∀ a, a ≠ 0 → uI S 0 1 (S 0 1 + 1) a = S a := fun a h => uI_ne h
  refine ⟨?_, ?_, ?_, ?_, ?_, ?_, ?_, ?_, ?_⟩
  · unfold CRa; rw [e1, e0 2 (by decide), e0 5 (by decide), e0 6 (by decide), Int.add_zero]; exact ha1
  · unfold CRb; rw [e0 3 (by decide), e0 4 (by decide), e0 7 (by decide), eo 11 (by decide)]; exact hb
  · unfold CRc; rw [eo _ (by decide), eo _ (by decide)]; exact hc
  · unfold CRd; rw [eo _ (by decide), eo _ (by decide)]; exact hd
  · unfold CRe; rw [eo _ (by decide), eo _ (by decide)]; exact he
  · unfold CRf; rw [e0 _ (by decide), eo _ (by decide)]; exact hf
  · unfold CRg; rw [e0 _ (by decide), eo _ (by decide)]; exact hg
  · unfold CRz; rw [e1, Int.add_zero, eo _ (by decide), eo _ (by decide), eo _ (by decide), eo _ (by decide)]; exact hz
  · unfold SB; rw [e1, e0 2 (by decide), e0 5 (by decide), e0 6 (by decide), e0 7 (by decide), eo 3 (by decide), eo 8 (by decide), eo 9 (by decide), eo 10 (by decide), eo 11 (by decide)]
    obtain ⟨s1, s2⟩ := hsb
    exact ⟨⟨by omega, by omega⟩, s2⟩
section
variable {G : HX} {d : Nat} {I : Mem} {P : Ptr} {k S : Tn} {m i : Int} {t : Nat}
def RSQ (I K : Mem) (r : Int) (t b : Nat) (k : Tn) (m : Int) (R : Rs) : Prop := (∀ f : Int, 7 ≤ f → K 41 f = I 41 f) ∧ ((R.1 = 0 ∧ K 41 6 = 0 ∧ K 41 2 = min R.2.2.1 m ∧ CR K t R.2.2.2 1 ∧ BTS r (R.2.2.2 b)) ∨ (R.1 ≠ 0 ∧ K 41 6 = R.1 ∧ K 41 3 = R.2.1))
theorem FL.f7 {I J : Mem} (h : FL rF I J) : ∀ f : Int, 7 ≤ f → J 41 f = I 41 f := fun f hf => h.2 f (fun q => by simp at q; omega)
theorem c_X6_readOfSort {A a b : Nat} {w hi : Int} (hW : WP P) (hTo : isT NO t) (hpt : P 41 1 = t) (hA : AR NO A 20 48) (hAB : (A = t + 1 ∧ a = 7 ∧ b = 8) ∨ (A = t + 2 ∧ a = 1 ∧ b = 9)) (hk : TKC I k m) (hi0 : 1 ≤ i) (ha : ATK I k m (i - 1)) (h6 : I 41 6 = 0) (hS : CR I t S 1) (h61 : S 0 1 < 6) (hw : BTS w (S b)) : Cv G mX6_readOfSort (d + 2) 0 0 [.inr (.inl 41), .inr (.inl A), .inl (S 0 1), .inl w, .inl hi] NO I P (qI NO (fun r I' P' => P' = P ∧ Fc (sR t) I I' ∧ RSQ I I' r t b k m (toldR k a b hi i S))) := by
  have wT := wp_T hW hTo
  have ht1 := hTo.1
  have hsb := hS.sb.1
  have hs2 := hS.sb.2.1
  have hb01 : S b (k 2 i) = 0 ∨ S b (k 2 i) = 1 := by
    have := hS.sb.2.2.2.2.2.1 (k 2 i)
    rcases hAB with ⟨-, -, rfl⟩ | ⟨-, -, rfl⟩
    · exact this.1
    · exact this.2
  refine x_enter mfX6_readOfSort rfl (Nat.le_of_ble_eq_true rfl) (fun _ => ?_)
  refine y_aln (i := 0) dX6_readOfSort_0 at41.ne0 rfl rfl ?_
  refine y_aln (i := 0) dX6_readOfSort_1 at41.ne0 rfl rfl ?_
  refine y_getp (z := 1) (v := t) dX6_readOfSort_2 frX6_15 cfX6 at41 rfl rfl hpt ?_
  refine y_geti (z := 1) dX6_readOfSort_5 frX6_51 cfX10 hTo.at rfl rfl ?_
  rw [hS.a.2.1]
  refine x_callVI (c_X6_isOneBelow hW hk (by omega) ha.b) dX6_readOfSort_8 lkX6_121 mfX6_isOneBelow cfX6 at41 rfl rfl rfl rfl (Nat.le_of_ble_eq_true rfl) (fun r8 I8 P8 hr8 hf8 => ?_)
  obtain ⟨rfl, f8, a8, q8⟩ := hf8
  have s8 := hS.fl hTo f8
  refine x_if_ne (tgt := 16) dX6_readOfSort_11 rfl (fun h11 => ?_) (fun h11 => ?_)
  · have y8 := q8.resolve_right (fun q => h11 q.1)
    have v8 := a8.2.2.2 y8.2.2.1
    have z8 := y8.2.2.2.2.trans h6
    have b8 : 0 ≤ k 2 i ∧ k 2 i < 8 := by have := y8.2.2.2.1; omega
    have w8 := hw.2 (k 2 i) b8.1 b8.2
    refine y_aln (i := 0) dX6_readOfSort_16 at41.ne0 rfl rfl ?_
    refine y_geti (z := 5) dX6_readOfSort_17 frX6_85 cfX6 at41 rfl rfl ?_
    rw [v8]
    refine x_istore (i := 5) dX6_readOfSort_20 rfl (Nat.le_of_ble_eq_true rfl) ?_
    refine x_iload_n (i := 3) dX6_readOfSort_22 rfl rfl ?_
    refine x_iload (i := 5) dX6_readOfSort_23 rfl ?_
    refine y_ishr dX6_readOfSort_25 ?_
    refine y_ic dX6_readOfSort_26 ⟨by decide, by decide⟩ ?_
    refine y_iand dX6_readOfSort_27 ?_
    rw [w8]
    refine y_ic dX6_readOfSort_28 ⟨by decide, by decide⟩ ?_
    refine x_icmp_ne (tgt := 41) dX6_readOfSort_29 rfl (fun h29 => ?_) (fun h29 => ?_)
    · have n29 : (if S b (k 2 i) = 0 then (0 : Int) else 5) = 0 := if_pos (by omega)
      refine y_aln (i := 0) dX6_readOfSort_41 at41.ne0 rfl rfl ?_
      refine y_ic dX6_readOfSort_42 ⟨by decide, by decide⟩ ?_
      refine x_iload (i := 4) dX6_readOfSort_43 rfl ?_
      refine x_callVI (c_X6_isNumber (i := i + 1) hW (hk.fl f8) (by omega) a8.1) dX6_readOfSort_45 lkX6_81 mfX6_isNumber cfX6 at41 rfl rfl rfl rfl (Nat.le_of_ble_eq_true rfl) (fun r45 I45 P45 hr45 hf45 => ?_)
      obtain ⟨rfl, f45, a45, q45⟩ := hf45
      rw [z8] at q45
      have s45 := s8.fl hTo f45
      have g45 := f8.fc.tr (f45.fc (t := t))
      refine x_if_eq (tgt := 64) dX6_readOfSort_48 rfl (fun h48 => ?_) (fun h48 => ?_)
      · have n48 := q45.resolve_left (fun q => by have := q.1; omega)
        refine x_iload_n (i := 3) dX6_readOfSort_64 rfl rfl ?_
        refine y_ic dX6_readOfSort_65 ⟨by decide, by decide⟩ ?_
        refine x_iload (i := 5) dX6_readOfSort_66 rfl ?_
        refine y_ishl dX6_readOfSort_68 ?_
        refine y_ior dX6_readOfSort_69 ?_
        refine x_iret dX6_readOfSort_70 rfl ?_
        first | (have z1 := s63; refine ⟨rfl, g45.ui (Or.inr ⟨by omega, by omega⟩), fun f hf => ?_, Or.inl ?_⟩; (rw [uI_ne (by omega)]; exact (f45.f7 f hf).trans (f8.f7 f hf)); unfold toldR; rw [ckR_0 y8.2.1, ckR_0 n29, ckR_0 y48.2.1]; rw [← ex]; refine ⟨rfl, by rw [uI_ne (by omega)]; exact y48.2.2.2.2, by rw [uI_ne (by omega), a45.1]; show min (i + 1 + 1) m = min (i + 2) m; rw [show i + 1 + 1 = i + 2 by omega], s63, ?_⟩; show BTS _ (uI (uI S b (k 2 i) 1) a _ _ b); rw [uI_ne (by omega), uI_eq]; exact hw.set b8) | (have z1 := n48; refine ⟨rfl, g45, fun f hf => (f45.f7 f hf).trans (f8.f7 f hf), Or.inr ?_⟩; unfold toldR; rw [ckR_0 y8.2.1, ckR_0 n29, ckR_1 n48.2.1]; exact ⟨n48.2.1, n48.2.2, a45.2.1⟩) | (have z1 := h29; refine ⟨rfl, f8.fc.r, fun f hf => by rw [uI_eq, u1_ne (by omega)]; exact f8.f7 f hf, Or.inr ?_⟩; unfold toldR; rw [ckR_0 y8.2.1, show (if S b (k 2 i) = 0 then (0 : Int) else 5) = 5 from if_neg (by omega), ckR_1 (by decide)]; exact ⟨by show (5 : Int) ≠ 0; decide, by rw [uI_eq, u1_eq]; rfl, by rw [uI_eq, u1_ne (by decide)]; exact a8.2.1⟩) | fail "none"
      · have y48 := q45.resolve_right (fun q => h48 q.1)
        have v48 := a45.2.2.2 y48.2.2.1
        have ex : S 0 1 * 8 + k 2 i = 8 * S 0 1 + k 2 i := by omega
        have s63 := s45.cell (v := k 2 (i + 1)) hTo h61 b8 hAB ex
        refine y_aln (i := 1) dX6_readOfSort_51 hA.ne0 rfl rfl ?_
        refine x_iload_n (i := 2) dX6_readOfSort_52 rfl rfl ?_
        refine y_bi dX6_readOfSort_53 ⟨by decide, by decide⟩ ?_
        refine x_imul dX6_readOfSort_55 ⟨by omega, by omega⟩ ?_
        refine x_iload (i := 5) dX6_readOfSort_56 rfl ?_
        refine x_iadd dX6_readOfSort_58 ⟨by omega, by omega⟩ ?_
        refine y_aln (i := 0) dX6_readOfSort_59 at41.ne0 rfl rfl ?_
        refine y_geti (z := 5) dX6_readOfSort_60 frX6_85 cfX6 at41 rfl rfl ?_
        rw [v48]
        refine x_iast dX6_readOfSort_63 hA ⟨by omega, by omega⟩ ?_
        refine x_iload_n (i := 3) dX6_readOfSort_64 rfl rfl ?_
        refine y_ic dX6_readOfSort_65 ⟨by decide, by decide⟩ ?_
        refine x_iload (i := 5) dX6_readOfSort_66 rfl ?_
        refine y_ishl dX6_readOfSort_68 ?_
        refine y_ior dX6_readOfSort_69 ?_
        refine x_iret dX6_readOfSort_70 rfl ?_
        first | (have z1 := s63; refine ⟨rfl, g45.ui (Or.inr ⟨by omega, by omega⟩), fun f hf => ?_, Or.inl ?_⟩; (rw [uI_ne (by omega)]; exact (f45.f7 f hf).trans (f8.f7 f hf)); unfold toldR; rw [ckR_0 y8.2.1, ckR_0 n29, ckR_0 y48.2.1]; rw [← ex]; refine ⟨rfl, by rw [uI_ne (by omega)]; exact y48.2.2.2.2, by rw [uI_ne (by omega), a45.1]; show min (i + 1 + 1) m = min (i + 2) m; rw [show i + 1 + 1 = i + 2 by omega], s63, ?_⟩; show BTS _ (uI (uI S b (k 2 i) 1) a _ _ b); rw [uI_ne (by omega), uI_eq]; exact hw.set b8) | (have z1 := n48; refine ⟨rfl, g45, fun f hf => (f45.f7 f hf).trans (f8.f7 f hf), Or.inr ?_⟩; unfold toldR; rw [ckR_0 y8.2.1, ckR_0 n29, ckR_1 n48.2.1]; exact ⟨n48.2.1, n48.2.2, a45.2.1⟩) | (have z1 := h29; refine ⟨rfl, f8.fc.r, fun f hf => by rw [uI_eq, u1_ne (by omega)]; exact f8.f7 f hf, Or.inr ?_⟩; unfold toldR; rw [ckR_0 y8.2.1, show (if S b (k 2 i) = 0 then (0 : Int) else 5) = 5 from if_neg (by omega), ckR_1 (by decide)]; exact ⟨by show (5 : Int) ≠ 0; decide, by rw [uI_eq, u1_eq]; rfl, by rw [uI_eq, u1_ne (by decide)]; exact a8.2.1⟩) | fail "none"
    · refine y_aln (i := 0) dX6_readOfSort_32 at41.ne0 rfl rfl ?_
      refine y_ic dX6_readOfSort_33 ⟨by decide, by decide⟩ ?_
      refine x_callVI (c_X6_refuse hW) dX6_readOfSort_34 lkX6_77 mfX6_refuse cfX6 at41 rfl rfl rfl rfl (Nat.le_of_ble_eq_true rfl) (fun r34 I34 P34 hr34 hf34 => ?_)
      obtain ⟨rfl, rfl, rfl⟩ := hf34
      refine x_pop dX6_readOfSort_37 rfl ?_
      refine x_goto (tgt := 64) dX6_readOfSort_38 rfl ?_
      refine x_iload_n (i := 3) dX6_readOfSort_64 rfl rfl ?_
      refine y_ic dX6_readOfSort_65 ⟨by decide, by decide⟩ ?_
      refine x_iload (i := 5) dX6_readOfSort_66 rfl ?_
      refine y_ishl dX6_readOfSort_68 ?_
      refine y_ior dX6_readOfSort_69 ?_
      refine x_iret dX6_readOfSort_70 rfl ?_
      first | (have z1 := s63; refine ⟨rfl, g45.ui (Or.inr ⟨by omega, by omega⟩), fun f hf => ?_, Or.inl ?_⟩; (rw [uI_ne (by omega)]; exact (f45.f7 f hf).trans (f8.f7 f hf)); unfold toldR; rw [ckR_0 y8.2.1, ckR_0 n29, ckR_0 y48.2.1]; rw [← ex]; refine ⟨rfl, by rw [uI_ne (by omega)]; exact y48.2.2.2.2, by rw [uI_ne (by omega), a45.1]; show min (i + 1 + 1) m = min (i + 2) m; rw [show i + 1 + 1 = i + 2 by omega], s63, ?_⟩; show BTS _ (uI (uI S b (k 2 i) 1) a _ _ b); rw [uI_ne (by omega), uI_eq]; exact hw.set b8) | (have z1 := n48; refine ⟨rfl, g45, fun f hf => (f45.f7 f hf).trans (f8.f7 f hf), Or.inr ?_⟩; unfold toldR; rw [ckR_0 y8.2.1, ckR_0 n29, ckR_1 n48.2.1]; exact ⟨n48.2.1, n48.2.2, a45.2.1⟩) | (have z1 := h29; refine ⟨rfl, f8.fc.r, fun f hf => by rw [uI_eq, u1_ne (by omega)]; exact f8.f7 f hf, Or.inr ?_⟩; unfold toldR; rw [ckR_0 y8.2.1, show (if S b (k 2 i) = 0 then (0 : Int) else 5) = 5 from if_neg (by omega), ckR_1 (by decide)]; exact ⟨by show (5 : Int) ≠ 0; decide, by rw [uI_eq, u1_eq]; rfl, by rw [uI_eq, u1_ne (by decide)]; exact a8.2.1⟩) | fail "none"
  · have n8 := q8.resolve_left (fun q => by have := q.1; omega)
    refine x_iload_n (i := 3) dX6_readOfSort_14 rfl rfl ?_
    refine x_iret dX6_readOfSort_15 rfl ?_
    refine ⟨rfl, f8.fc, f8.f7, Or.inr ?_⟩
    unfold toldR
    rw [ckR_1 n8.2.1]
    exact ⟨n8.2.1, n8.2.2, a8.2.1⟩
theorem c_X6_readPair (hW : WP P) (hTo : isT NO t) (hpt : P 41 1 = t) (hk : TKC I k m) (hi : 1 ≤ i) (ha : ATK I k m (i - 1)) (h6 : I 41 6 = 0) (hP : CP I t S) : Cv G mX6_readPair (d + 2) 0 0 [.inr (.inl 41), .inl (S 0 1)] NO I P (qV (fun n' I' P' => n' = NO ∧ P' = P ∧ Fc (sR t) I I' ∧ RSP I' t k m (pairR k i S))) := by
  have wT := wp_T hW hTo
  have ht1 := hTo.1
  obtain ⟨hS, h61, hp8, hp9, hp10⟩ := hP
  have hsb := hS.sb.1
  have hs3 := hS.sb.2.2.2.2.1 (S 0 1)
  have e3 : I (t + 4) (S 0 1) = S 3 (S 0 1) := (hS.d (S 0 1) hsb.1 h61).2
  have hx : S 0 1 * 6 + S 3 (S 0 1) = 6 * S 0 1 + S 3 (S 0 1) := by omega
  obtain ⟨x, ex⟩ : ∃ x, x = S 0 1 * 6 + S 3 (S 0 1) := ⟨_, rfl⟩
  have hx2 := ex.trans hx
  refine x_enter mfX6_readPair rfl (Nat.le_of_ble_eq_true rfl) (fun _ => ?_)
  refine y_aln (i := 0) dX6_readPair_0 at41.ne0 rfl rfl ?_
  refine y_getp (z := 1) (v := t) dX6_readPair_1 frX6_15 cfX6 at41 rfl rfl hpt ?_
  refine y_getp (z := 7) (v := (t + 4)) dX6_readPair_4 frX6_124 cfX10 hTo.at rfl rfl (p10_7 wT hTo) ?_
  refine x_iload_n (i := 1) dX6_readPair_7 rfl rfl ?_
  refine x_iald dX6_readPair_8 (a10_7 hTo) ⟨by omega, by omega⟩ ?_
  rw [e3]
  refine y_bi dX6_readPair_9 ⟨by decide, by decide⟩ ?_
  refine x_icmp_lt (tgt := 21) dX6_readPair_11 rfl (fun h11 => ?_) (fun h11 => ?_)
  · refine x_iload_n (i := 1) dX6_readPair_21 rfl rfl ?_
    refine y_bi dX6_readPair_22 ⟨by decide, by decide⟩ ?_
    refine x_imul dX6_readPair_24 ⟨by omega, by omega⟩ ?_
    refine y_aln (i := 0) dX6_readPair_25 at41.ne0 rfl rfl ?_
    refine y_getp (z := 1) (v := t) dX6_readPair_26 frX6_15 cfX6 at41 rfl rfl hpt ?_
    refine y_getp (z := 7) (v := (t + 4)) dX6_readPair_29 frX6_124 cfX10 hTo.at rfl rfl (p10_7 wT hTo) ?_
    refine x_iload_n (i := 1) dX6_readPair_32 rfl rfl ?_
    refine x_iald dX6_readPair_33 (a10_7 hTo) ⟨by omega, by omega⟩ ?_
    rw [e3]
    refine x_iadd dX6_readPair_34 ⟨by omega, by omega⟩ ?_
    rw [← ex]
    refine x_istore_n (i := 2) dX6_readPair_35 rfl rfl (Nat.le_of_ble_eq_true rfl) ?_
    refine y_aln (i := 0) dX6_readPair_36 at41.ne0 rfl rfl ?_
    refine y_aln (i := 0) dX6_readPair_37 at41.ne0 rfl rfl ?_
    refine y_getp (z := 1) (v := t) dX6_readPair_38 frX6_15 cfX6 at41 rfl rfl hpt ?_
    refine y_geti (z := 1) dX6_readPair_41 frX6_51 cfX10 hTo.at rfl rfl ?_
    rw [hS.a.2.1]
    refine x_callVI (c_X6_isOneBelow hW hk (by omega) ha.b) dX6_readPair_44 lkX6_121 mfX6_isOneBelow cfX6 at41 rfl rfl rfl rfl (Nat.le_of_ble_eq_true rfl) (fun r44 I44 P44 hr44 hf44 => ?_)
    obtain ⟨rfl, f28, a28, q28⟩ := hf44
    have s28 := hS.fl hTo f28
    refine x_if_ne (tgt := 51) dX6_readPair_47 rfl (fun h47 => ?_) (fun h47 => ?_)
    · have y28 := q28.resolve_right (fun q => h47 q.1)
      have v28 := a28.2.2.2 y28.2.2.1
      have z28 := y28.2.2.2.2.trans h6
      refine y_aln (i := 0) dX6_readPair_51 at41.ne0 rfl rfl ?_
      refine y_getp (z := 1) (v := t) dX6_readPair_52 frX6_15 cfX6 at41 rfl rfl hpt ?_
      refine y_getp (z := 8) (v := (t + 5)) dX6_readPair_55 frX6_127 cfX10 hTo.at rfl rfl (p10_8 wT hTo) ?_
      refine x_iload_n (i := 2) dX6_readPair_58 rfl rfl ?_
      refine y_aln (i := 0) dX6_readPair_59 at41.ne0 rfl rfl ?_
      refine y_geti (z := 5) dX6_readPair_60 frX6_85 cfX6 at41 rfl rfl ?_
      rw [v28]
      refine x_iast dX6_readPair_63 (a10_8 hTo) ⟨by omega, by omega⟩ ?_
      have s48 := s28.pair (v := k 2 i) hTo (by omega) (Or.inl rfl) hx2
      have k48 := (hk.fl f28).t (i := x) (v := k 2 i) hTo (a := t + 5) ⟨by omega, by omega⟩
      refine y_aln (i := 0) dX6_readPair_64 at41.ne0 rfl rfl ?_
      refine y_aln (i := 0) dX6_readPair_65 at41.ne0 rfl rfl ?_
      refine y_getp (z := 1) (v := t) dX6_readPair_66 frX6_15 cfX6 at41 rfl rfl hpt ?_
      refine y_geti (z := 1) dX6_readPair_69 frX6_51 cfX10 hTo.at rfl rfl ?_
      rw [s48.a.2.1]
      refine x_callVI (c_X6_isOneBelow (i := i + 1) hW k48 (by omega) (by rw [r41 hTo ⟨by omega, by omega⟩]; exact a28.1)) dX6_readPair_72 lkX6_121 mfX6_isOneBelow cfX6 at41 rfl rfl rfl rfl (Nat.le_of_ble_eq_true rfl) (fun r72 I72 P72 hr72 hf72 => ?_)
      obtain ⟨rfl, f56, a56, q56⟩ := hf72
      rw [r41 hTo ⟨by omega, by omega⟩, z28] at q56
      have s56 := s48.fl hTo f56
      have u56 : I72 (t + 5) x = k 2 i := by rw [f56.1 (t + 5) (by omega), uI_eq, u1_eq]
      have g56 := (f28.fc.t (t := t) (a := t + 5) (i := x) (v := k 2 i) ⟨by omega, by omega⟩).tr f56.fc
      have j56 : ∀ f : Int, 7 ≤ f → I72 41 f = I 41 f := fun f hf => by rw [f56.f7 f hf, r41 hTo ⟨by omega, by omega⟩]; exact f28.f7 f hf
      refine x_if_ne (tgt := 79) dX6_readPair_75 rfl (fun h75 => ?_) (fun h75 => ?_)
      · have y56 := q56.resolve_right (fun q => h75 q.1)
        have v56 := a56.2.2.2 y56.2.2.1
        have z56 := y56.2.2.2.2
        refine y_aln (i := 0) dX6_readPair_79 at41.ne0 rfl rfl ?_
        refine y_geti (z := 5) dX6_readPair_80 frX6_85 cfX6 at41 rfl rfl ?_
        rw [v56]
        refine y_aln (i := 0) dX6_readPair_83 at41.ne0 rfl rfl ?_
        refine y_getp (z := 1) (v := t) dX6_readPair_84 frX6_15 cfX6 at41 rfl rfl hpt ?_
        refine y_getp (z := 8) (v := (t + 5)) dX6_readPair_87 frX6_127 cfX10 hTo.at rfl rfl (p10_8 wT hTo) ?_
        refine x_iload_n (i := 2) dX6_readPair_90 rfl rfl ?_
        refine x_iald dX6_readPair_91 (a10_8 hTo) ⟨by omega, by omega⟩ ?_
        rw [u56]
        refine x_icmp_ne (tgt := 102) dX6_readPair_92 rfl (fun h92 => ?_) (fun h92 => ?_)
        · refine y_aln (i := 0) dX6_readPair_102 at41.ne0 rfl rfl ?_
          refine y_getp (z := 1) (v := t) dX6_readPair_103 frX6_15 cfX6 at41 rfl rfl hpt ?_
          refine y_getp (z := 9) (v := (t + 6)) dX6_readPair_106 frX6_130 cfX10 hTo.at rfl rfl (p10_9 wT hTo) ?_
          refine x_iload_n (i := 2) dX6_readPair_109 rfl rfl ?_
          refine y_aln (i := 0) dX6_readPair_110 at41.ne0 rfl rfl ?_
          refine y_geti (z := 5) dX6_readPair_111 frX6_85 cfX6 at41 rfl rfl ?_
          rw [v56]
          refine x_iast dX6_readPair_114 (a10_9 hTo) ⟨by omega, by omega⟩ ?_
          have s76 := s56.pair (v := k 2 (i + 1)) hTo (by omega) (Or.inr (Or.inl rfl)) hx2
          have k76 := (k48.fl f56).t (i := x) (v := k 2 (i + 1)) hTo (a := t + 6) ⟨by omega, by omega⟩
          refine y_aln (i := 0) dX6_readPair_115 at41.ne0 rfl rfl ?_
          refine y_ic dX6_readPair_116 ⟨by decide, by decide⟩ ?_
          refine y_bi dX6_readPair_117 ⟨by decide, by decide⟩ ?_
          refine x_callVI (c_X6_isNumber (i := i + 2) hW k76 (by omega) (by rw [r41 hTo ⟨by omega, by omega⟩, a56.1, show i + 1 + 1 = i + 2 by omega])) dX6_readPair_119 lkX6_81 mfX6_isNumber cfX6 at41 rfl rfl rfl rfl (Nat.le_of_ble_eq_true rfl) (fun r119 I119 P119 hr119 hf119 => ?_)
          obtain ⟨rfl, f84, a84, q84⟩ := hf119
          rw [r41 hTo ⟨by omega, by omega⟩, z56] at q84
          have s84 := s76.fl hTo f84
          have u84 : I119 (t + 5) x = k 2 i := by rw [f84.1 (t + 5) (by omega), uI_ne (by omega)]; exact u56
          have w84 : I119 (t + 6) x = k 2 (i + 1) := by rw [f84.1 (t + 6) (by omega), uI_eq, u1_eq]
          have g84 := (g56.t (a := t + 6) (i := x) (v := k 2 (i + 1)) ⟨by omega, by omega⟩).tr f84.fc
          have j84 : ∀ f : Int, 7 ≤ f → I119 41 f = I 41 f := fun f hf => by rw [f84.f7 f hf, r41 hTo ⟨by omega, by omega⟩]; exact j56 f hf
          refine x_if_eq (tgt := 151) dX6_readPair_122 rfl (fun h122 => ?_) (fun h122 => ?_)
          · have n84 := q84.resolve_left (fun q => by have := q.1; omega)
            refine x_vret dX6_readPair_151 rfl ?_
            first | (have z1 := s151; refine ⟨rfl, rfl, (g84.t ⟨by omega, by omega⟩).t ⟨by omega, by omega⟩, ?_⟩; unfold pairR; rw [ckR_0 (if_neg (by omega)), ckR_0 y28.2.1, ckR_0 y56.2.1, ckR_0 (if_neg (by omega)), ckR_0 y84.2.1]; have ee : ∀ f : Int, uI (uI I119 (t + 7) x (k 2 (i + 2))) (t + 4) (S 0 1) (S 3 (S 0 1) + 1) 41 f = I119 41 f := fun f => (by rw [r41 hTo ⟨by omega, by omega⟩, r41 hTo ⟨by omega, by omega⟩]); refine Or.inl ⟨rfl, by rw [ee]; exact z84, by rw [ee, a84.1]; show min (i + 2 + 1) m = min (i + 3) m; rw [show i + 2 + 1 = i + 3 by omega], s151, ?_, by rw [ee, j84 8 (by decide)]; exact hp8, by rw [ee, j84 9 (by decide)]; exact hp9, by rw [ee, j84 10 (by decide)]; exact hp10⟩; exact h61) | (have z1 := n84; refine ⟨rfl, rfl, g84, ?_⟩; unfold pairR; rw [ckR_0 (if_neg (by omega)), ckR_0 y28.2.1, ckR_0 y56.2.1, ckR_0 (if_neg (by omega))]; exact RSP.no n84.2.1 n84.2.2 a84.2.1) | fail "none"
          · have y84 := q84.resolve_right (fun q => h122 q.1)
            have v84 := a84.2.2.2 y84.2.2.1
            have z84 := y84.2.2.2.2
            refine y_aln (i := 0) dX6_readPair_125 at41.ne0 rfl rfl ?_
            refine y_getp (z := 1) (v := t) dX6_readPair_126 frX6_15 cfX6 at41 rfl rfl hpt ?_
            refine y_getp (z := 10) (v := (t + 7)) dX6_readPair_129 frX6_133 cfX10 hTo.at rfl rfl (p10_10 wT hTo) ?_
            refine x_iload_n (i := 2) dX6_readPair_132 rfl rfl ?_
            refine y_aln (i := 0) dX6_readPair_133 at41.ne0 rfl rfl ?_
            refine y_geti (z := 5) dX6_readPair_134 frX6_85 cfX6 at41 rfl rfl ?_
            rw [v84]
            refine x_iast dX6_readPair_137 (a10_10 hTo) ⟨by omega, by omega⟩ ?_
            have s138 := s84.pair (v := k 2 (i + 2)) hTo (by omega) (Or.inr (Or.inr rfl)) hx2
            have e138 : uI I119 (t + 7) x (k 2 (i + 2)) (t + 4) (S 0 1) = S 3 (S 0 1) := by rw [uI_ne (by omega)]; exact (s84.d (S 0 1) hsb.1 h61).2
            have s151 := s138.pairF hTo h61 (by omega) hx2 (u := k 2 i) (v := k 2 (i + 1)) (w := k 2 (i + 2)) (by rw [uI_ne (by omega)]; exact u84) (by rw [uI_ne (by omega)]; exact w84) (by rw [uI_eq, u1_eq])
            refine y_aln (i := 0) dX6_readPair_138 at41.ne0 rfl rfl ?_
            refine y_getp (z := 1) (v := t) dX6_readPair_139 frX6_15 cfX6 at41 rfl rfl hpt ?_
            refine y_getp (z := 7) (v := (t + 4)) dX6_readPair_142 frX6_124 cfX10 hTo.at rfl rfl (p10_7 wT hTo) ?_
            refine x_iload_n (i := 1) dX6_readPair_145 rfl rfl ?_
            refine x_dup2 dX6_readPair_146 rfl rfl ?_
            refine x_iald dX6_readPair_147 (a10_7 hTo) ⟨by omega, by omega⟩ ?_
            rw [e138]
            refine y_ic dX6_readPair_148 ⟨by decide, by decide⟩ ?_
            refine x_iadd dX6_readPair_149 ⟨by omega, by omega⟩ ?_
            refine x_iast dX6_readPair_150 (a10_7 hTo) ⟨by omega, by omega⟩ ?_
            refine x_vret dX6_readPair_151 rfl ?_
            first | (have z1 := s151; refine ⟨rfl, rfl, (g84.t ⟨by omega, by omega⟩).t ⟨by omega, by omega⟩, ?_⟩; unfold pairR; rw [ckR_0 (if_neg (by omega)), ckR_0 y28.2.1, ckR_0 y56.2.1, ckR_0 (if_neg (by omega)), ckR_0 y84.2.1]; have ee : ∀ f : Int, uI (uI I119 (t + 7) x (k 2 (i + 2))) (t + 4) (S 0 1) (S 3 (S 0 1) + 1) 41 f = I119 41 f := fun f => (by rw [r41 hTo ⟨by omega, by omega⟩, r41 hTo ⟨by omega, by omega⟩]); refine Or.inl ⟨rfl, by rw [ee]; exact z84, by rw [ee, a84.1]; show min (i + 2 + 1) m = min (i + 3) m; rw [show i + 2 + 1 = i + 3 by omega], s151, ?_, by rw [ee, j84 8 (by decide)]; exact hp8, by rw [ee, j84 9 (by decide)]; exact hp9, by rw [ee, j84 10 (by decide)]; exact hp10⟩; exact h61) | (have z1 := n84; refine ⟨rfl, rfl, g84, ?_⟩; unfold pairR; rw [ckR_0 (if_neg (by omega)), ckR_0 y28.2.1, ckR_0 y56.2.1, ckR_0 (if_neg (by omega))]; exact RSP.no n84.2.1 n84.2.2 a84.2.1) | fail "none"
        · refine y_aln (i := 0) dX6_readPair_95 at41.ne0 rfl rfl ?_
          refine y_ic dX6_readPair_96 ⟨by decide, by decide⟩ ?_
          refine x_callVI (c_X6_refuse hW) dX6_readPair_97 lkX6_77 mfX6_refuse cfX6 at41 rfl rfl rfl rfl (Nat.le_of_ble_eq_true rfl) (fun r97 I97 P97 hr97 hf97 => ?_)
          obtain ⟨rfl, rfl, rfl⟩ := hf97
          refine x_pop dX6_readPair_100 rfl ?_
          refine x_vret dX6_readPair_101 rfl ?_
          refine ⟨rfl, rfl, g56.r, ?_⟩
          unfold pairR
          rw [ckR_0 (if_neg (by omega)), ckR_0 y28.2.1, ckR_0 y56.2.1]
          exact RSP.n2 (v := 4) (if_pos (by omega)) (by decide) (by rw [uI_eq, u1_eq]) (by rw [uI_eq, u1_ne (by decide)]; exact a56.2.1)
      · have n56 := q56.resolve_left (fun q => by have := q.1; omega)
        refine x_vret dX6_readPair_78 rfl ?_
        refine ⟨rfl, rfl, g56, ?_⟩
        unfold pairR
        rw [ckR_0 (if_neg (by omega)), ckR_0 y28.2.1]
        exact RSP.no n56.2.1 n56.2.2 a56.2.1
    · have n28 := q28.resolve_left (fun q => by have := q.1; omega)
      refine x_vret dX6_readPair_50 rfl ?_
      refine ⟨rfl, rfl, f28.fc, ?_⟩
      unfold pairR
      rw [ckR_0 (if_neg (by omega))]
      exact RSP.no n28.2.1 n28.2.2 a28.2.1
  · refine y_aln (i := 0) dX6_readPair_14 at41.ne0 rfl rfl ?_
    refine y_ic dX6_readPair_15 ⟨by decide, by decide⟩ ?_
    refine x_callVI (c_X6_refuse hW) dX6_readPair_16 lkX6_77 mfX6_refuse cfX6 at41 rfl rfl rfl rfl (Nat.le_of_ble_eq_true rfl) (fun r16 I16 P16 hr16 hf16 => ?_)
    obtain ⟨rfl, rfl, rfl⟩ := hf16
    refine x_pop dX6_readPair_19 rfl ?_
    refine x_vret dX6_readPair_20 rfl ?_
    refine ⟨rfl, rfl, Fc.rf.r, ?_⟩
    unfold pairR
    exact RSP.n2 (v := 2) (if_pos (by omega)) (by decide) (by rw [uI_eq, u1_eq]) (by rw [uI_eq, u1_ne (by decide)]; exact ha.2.1)
theorem c_X6_readFalls (hW : WP P) (hTo : isT NO t) (hpt : P 41 1 = t) (hk : TKC I k m) (hi : 1 ≤ i) (ha : ATK I k m (i - 1)) (h6 : I 41 6 = 0) (hP : CP I t S) : Cv G mX6_readFalls (d + 2) 0 0 [.inr (.inl 41), .inl (S 0 1)] NO I P (qV (fun n' I' P' => n' = NO ∧ P' = P ∧ Fc (sR t) I I' ∧ RSP I' t k m (fallR k i S))) := by
  have wT := wp_T hW hTo
  have ht1 := hTo.1
  obtain ⟨hS, h61, hp8, hp9, hp10⟩ := hP
  have hsb := hS.sb.1
  refine x_enter mfX6_readFalls rfl (Nat.le_of_ble_eq_true rfl) (fun _ => ?_)
  refine y_aln (i := 0) dX6_readFalls_0 at41.ne0 rfl rfl ?_
  refine y_geti (z := 8) dX6_readFalls_1 frX6_101 cfX6 at41 rfl rfl ?_
  rw [hp8]
  refine x_if_eq (tgt := 14) dX6_readFalls_4 rfl (fun h4 => ?_) (fun h4 => ?_)
  · refine y_aln (i := 0) dX6_readFalls_14 at41.ne0 rfl rfl ?_
    refine y_ic dX6_readFalls_15 ⟨by decide, by decide⟩ ?_
    refine y_putz (z := 8) dX6_readFalls_16 frX6_101 cfX6 at41 rfl rfl rfl (by omega) ?_
    have s19 := hS.r (f := 8) (v := 1) hTo (by decide)
    refine y_aln (i := 0) dX6_readFalls_19 at41.ne0 rfl rfl ?_
    refine y_ic dX6_readFalls_20 ⟨by decide, by decide⟩ ?_
    refine y_bi dX6_readFalls_21 ⟨by decide, by decide⟩ ?_
    refine x_callVI (c_X6_isNumber (i := i) hW hk.r (by omega) (by rw [uI_eq, u1_ne (by decide)]; exact ha.b)) dX6_readFalls_23 lkX6_81 mfX6_isNumber cfX6 at41 rfl rfl rfl rfl (Nat.le_of_ble_eq_true rfl) (fun r23 I23 P23 hr23 hf23 => ?_)
    obtain ⟨rfl, f22, a22, q22⟩ := hf23
    have s22 := s19.fl hTo f22
    have g22 := (Fc.rf.r (I := I) (t := t) (i := 8) (v := 1)).tr f22.fc
    refine x_if_eq (tgt := 42) dX6_readFalls_26 rfl (fun h26 => ?_) (fun h26 => ?_)
    · have n22 := q22.resolve_left (fun q => by have := q.1; omega)
      refine x_vret dX6_readFalls_42 rfl ?_
      first | (have z1 := s42; refine ⟨rfl, rfl, g22.t ⟨by omega, by omega⟩, ?_⟩; unfold fallR; rw [ckR_0 (if_pos h4), ckR_0 y22.2.1]; have ee : ∀ f : Int, uI I23 (t + 3) (S 0 1) (k 2 i) 41 f = I23 41 f := fun f => (by rw [r41 hTo ⟨by omega, by omega⟩]); refine Or.inl ⟨rfl, by rw [ee]; exact z22, by rw [ee, a22.1]; rfl, s42, h61, ?_, ?_, ?_⟩; (rw [ee, f22.f7 8 (by decide), uI_eq, u1_eq]; rfl); (rw [ee, f22.f7 9 (by decide), uI_eq, u1_ne (by decide)]; exact hp9); (rw [ee, f22.f7 10 (by decide), uI_eq, u1_ne (by decide)]; exact hp10)) | (have z1 := n22; refine ⟨rfl, rfl, g22, ?_⟩; unfold fallR; rw [ckR_0 (if_pos h4)]; exact RSP.no n22.2.1 n22.2.2 a22.2.1) | fail "none"
    · have y22 := q22.resolve_right (fun q => h26 q.1)
      have v22 := a22.2.2.2 y22.2.2.1
      have z22 : I23 41 6 = 0 := by rw [y22.2.2.2.2, uI_eq, u1_ne (by decide)]; exact h6
      have s42 := s22.fall (v := k 2 i) hTo h61
      refine y_aln (i := 0) dX6_readFalls_29 at41.ne0 rfl rfl ?_
      refine y_getp (z := 1) (v := t) dX6_readFalls_30 frX6_15 cfX6 at41 rfl rfl hpt ?_
      refine y_getp (z := 6) (v := (t + 3)) dX6_readFalls_33 frX6_136 cfX10 hTo.at rfl rfl (p10_6 wT hTo) ?_
      refine x_iload_n (i := 1) dX6_readFalls_36 rfl rfl ?_
      refine y_aln (i := 0) dX6_readFalls_37 at41.ne0 rfl rfl ?_
      refine y_geti (z := 5) dX6_readFalls_38 frX6_85 cfX6 at41 rfl rfl ?_
      rw [v22]
      refine x_iast dX6_readFalls_41 (a10_6 hTo) ⟨by omega, by omega⟩ ?_
      refine x_vret dX6_readFalls_42 rfl ?_
      first | (have z1 := s42; refine ⟨rfl, rfl, g22.t ⟨by omega, by omega⟩, ?_⟩; unfold fallR; rw [ckR_0 (if_pos h4), ckR_0 y22.2.1]; have ee : ∀ f : Int, uI I23 (t + 3) (S 0 1) (k 2 i) 41 f = I23 41 f := fun f => (by rw [r41 hTo ⟨by omega, by omega⟩]); refine Or.inl ⟨rfl, by rw [ee]; exact z22, by rw [ee, a22.1]; rfl, s42, h61, ?_, ?_, ?_⟩; (rw [ee, f22.f7 8 (by decide), uI_eq, u1_eq]; rfl); (rw [ee, f22.f7 9 (by decide), uI_eq, u1_ne (by decide)]; exact hp9); (rw [ee, f22.f7 10 (by decide), uI_eq, u1_ne (by decide)]; exact hp10)) | (have z1 := n22; refine ⟨rfl, rfl, g22, ?_⟩; unfold fallR; rw [ckR_0 (if_pos h4)]; exact RSP.no n22.2.1 n22.2.2 a22.2.1) | fail "none"
  · refine y_aln (i := 0) dX6_readFalls_7 at41.ne0 rfl rfl ?_
    refine y_ic dX6_readFalls_8 ⟨by decide, by decide⟩ ?_
    refine x_callVI (c_X6_refuse hW) dX6_readFalls_9 lkX6_77 mfX6_refuse cfX6 at41 rfl rfl rfl rfl (Nat.le_of_ble_eq_true rfl) (fun r9 I9 P9 hr9 hf9 => ?_)
    obtain ⟨rfl, rfl, rfl⟩ := hf9
    refine x_pop dX6_readFalls_12 rfl ?_
    refine x_vret dX6_readFalls_13 rfl ?_
    refine ⟨rfl, rfl, Fc.rf.r, ?_⟩
    unfold fallR
    exact RSP.n2 (v := 5) (if_neg h4) (by decide) (by rw [uI_eq, u1_eq]) (by rw [uI_eq, u1_ne (by decide)]; exact ha.2.1)
end

