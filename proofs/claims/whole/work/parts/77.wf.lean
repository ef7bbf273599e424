/-! ===== a town that is read is well formed ===== -/
def w0 (z : Rw) : Prop := (0 ≤ z 1 ∧ z 1 ≤ 6) ∧ (1 ≤ z 2 ∧ z 2 ≤ 8) ∧ (1 ≤ z 3 ∧ z 3 ≤ 3) ∧ (z 4 = -1 ∨ (0 ≤ z 4 ∧ z 4 < z 2)) ∧ (0 ≤ z 5 ∧ z 5 ≤ 4) ∧ (0 ≤ z 6 ∧ z 6 ≤ 8) ∧ (z 7 = 0 ∨ z 7 = 1)
def w1 (m : Int) (f : Rw) (q : Int) : Prop := ∀ c, 0 ≤ c → c < 8 * q → 0 ≤ f c ∧ f c ≤ m
def w2 (m : Int) (f : Rw) (q : Int) : Prop := ∀ p, 0 ≤ p → p < q → 0 ≤ f p ∧ f p ≤ m
def w4 (f g : Rw) (q so : Int) : Prop := ∀ p k, 0 ≤ p → p < q → 0 ≤ k → k < f p → (0 ≤ g (18 * p + 3 * k) ∧ g (18 * p + 3 * k) < so) ∧ (0 ≤ g (18 * p + 3 * k + 1) ∧ g (18 * p + 3 * k + 1) < so) ∧ (0 ≤ g (18 * p + 3 * k + 2) ∧ g (18 * p + 3 * k + 2) ≤ 99)
def w5 (f : Rw) (n so : Int) : Prop := ∀ t, 0 ≤ t → t < n → (0 ≤ f (3 * t) ∧ f (3 * t) < so) ∧ (0 ≤ f (3 * t + 1) ∧ f (3 * t + 1) < so) ∧ (0 ≤ f (3 * t + 2) ∧ f (3 * t + 2) < so) ∧ f (3 * t) ≠ f (3 * t + 2) ∧ f (3 * t + 1) ≠ f (3 * t + 2)
def w6 (f : Rw) (n q : Int) : Prop := ∀ t, 0 ≤ t → t < n → (0 ≤ f (2 * t) ∧ f (2 * t) < q) ∧ (0 ≤ f (2 * t + 1) ∧ f (2 * t + 1) < q) ∧ f (2 * t) ≠ f (2 * t + 1)
def WG (e : Int) (S : Tn) : Prop := w0 (S 0) ∧ S 0 1 + e ≤ 6 ∧ w1 99 (S 1) (S 0 1 + e) ∧ w1 20 (S 7) (S 0 1 + e) ∧ w2 100 (S 2) (S 0 1 + e) ∧ w2 6 (S 3) (S 0 1 + e) ∧ w4 (S 3) (S 4) (S 0 1 + e) (S 0 2) ∧ w5 (S 5) (S 0 5) (S 0 2) ∧ w6 (S 6) (S 0 6) (S 0 1)
theorem WG.wf {S : Tn} (h : WG 0 S) : WF S := by
  obtain ⟨⟨a1, a2, a3, a4, a5, a6, a7⟩, -, b1, -, b2, b3, b4, b5, b6⟩ := h
  rw [Int.add_zero] at b1 b2 b3 b4
  refine ⟨a1, a2, a3, a4, a5, a6, a7, fun p s p0 p1 s0 s1 => b1 _ (by omega) (by omega), b2, b3, b4, fun t j t0 t1 j0 j1 => ?_, fun t t0 t1 => (b5 t t0 t1).2.2.2, fun m j m0 m1 j0 j1 => ?_, fun m m0 m1 => (b6 m m0 m1).2.2⟩
  · have h1 := b5 t t0 t1
    have : j = 0 ∨ j = 1 ∨ j = 2 := by omega
    rcases this with rfl | rfl | rfl
    · rw [Int.add_zero]; exact h1.1
    · exact h1.2.1
    · exact h1.2.2.1
  · have h1 := b6 m m0 m1
    have : j = 0 ∨ j = 1 := by omega
    rcases this with rfl | rfl
    · rw [Int.add_zero]; exact h1.1
    · exact h1.2.1
theorem WG.ini : WG 0 iniR := by
  have e0 : ∀ k, iniR 0 k = if k = 2 then 1 else if k = 3 then 2 else if k = 4 then -1 else 0 := fun k => rfl
  refine ⟨?_, ?_, fun c c0 c1 => ?_, fun c c0 c1 => ?_, fun c c0 c1 => ?_, fun c c0 c1 => ?_, fun p k p0 p1 => ?_, fun t t0 t1 => ?_, fun t t0 t1 => ?_⟩
  · unfold w0
    simp only [e0]
    decide
  · rw [e0]; decide
  · rw [e0] at c1; simp at c1; omega
  · rw [e0] at c1; simp at c1; omega
  · rw [e0] at c1; simp at c1; omega
  · rw [e0] at c1; simp at c1; omega
  · rw [e0] at p1; simp at p1; omega
  · rw [e0] at t1; simp at t1; omega
  · rw [e0] at t1; simp at t1; omega
theorem w1.set {m : Int} {f : Rw} {q x v : Int} (h : w1 m f q) (hv : 0 ≤ v ∧ v ≤ m) : w1 m (u1 f x v) q := fun c c0 c1 => by
  unfold u1
  split
  · exact hv
  · exact h c c0 c1
theorem w2.set {m : Int} {f : Rw} {q x v : Int} (h : w2 m f q) (hv : 0 ≤ v ∧ v ≤ m) : w2 m (u1 f x v) q := fun c c0 c1 => by
  unfold u1
  split
  · exact hv
  · exact h c c0 c1
theorem toldR_w {k : Tn} {a b : Nat} {hi i : Int} {S : Tn} (h : WG 1 S) (hab : (a = 7 ∧ b = 8 ∧ hi = 20) ∨ (a = 1 ∧ b = 9 ∧ hi = 99)) (hz : (toldR k a b hi i S).1 = 0) : WG 1 (toldR k a b hi i S).2.2.2 := by
  unfold toldR at hz ⊢
  have h1 := ck_z hz
  rw [h1.2] at hz ⊢
  have h2 := ck_z hz
  rw [h2.2] at hz ⊢
  have h3 := ck_z hz
  rw [h3.2]
  have hv := (numC_z h3.1).2
  show WG 1 (uI (uI S b (k 2 i) 1) a (8 * S 0 1 + k 2 i) (k 2 (i + 1)))
  obtain ⟨b0, b9, b1, b7, b2, b3, b4, b5, b6⟩ := h
  have eo : ∀ c, c ≠ a → c ≠ b → uI (uI S b (k 2 i) 1) a (8 * S 0 1 + k 2 i) (k 2 (i + 1)) c = S c := fun c c0 c1 => by rw [uI_ne c0, uI_ne c1]
  have ea : uI (uI S b (k 2 i) 1) a (8 * S 0 1 + k 2 i) (k 2 (i + 1)) a = u1 (S a) (8 * S 0 1 + k 2 i) (k 2 (i + 1)) := by rw [uI_eq, uI_ne (by omega)]
  unfold WG
  rw [eo 0 (by omega) (by omega), eo 2 (by omega) (by omega), eo 3 (by omega) (by omega), eo 4 (by omega) (by omega), eo 5 (by omega) (by omega), eo 6 (by omega) (by omega)]
  rcases hab with ⟨rfl, rfl, rfl⟩ | ⟨rfl, rfl, rfl⟩
  · rw [eo 1 (by decide) (by decide), ea]
    exact ⟨b0, b9, b1, b7.set hv, b2, b3, b4, b5, b6⟩
  · rw [eo 7 (by decide) (by decide), ea]
    exact ⟨b0, b9, b1.set hv, b7, b2, b3, b4, b5, b6⟩
theorem pairR_w {k : Tn} {i : Int} {S : Tn} (h : WG 1 S) (hz : (pairR k i S).1 = 0) : WG 1 (pairR k i S).2.2.2 := by
  unfold pairR at hz ⊢
  have h1 := ck_z hz
  rw [h1.2] at hz ⊢
  have h2 := ck_z hz
  rw [h2.2] at hz ⊢
  have h3 := ck_z hz
  rw [h3.2] at hz ⊢
  have h4 := ck_z hz
  rw [h4.2] at hz ⊢
  have h5 := ck_z hz
  rw [h5.2]
  have u2 := (belC_z h2.1).2
  have u3 := (belC_z h3.1).2
  have u5 := (numC_z h5.1).2
  show WG 1 (pairW S (k 2 i) (k 2 (i + 1)) (k 2 (i + 2)))
  obtain ⟨b0, b9, b1, b7, b2, b3, b4, b5, b6⟩ := h
  have eo : ∀ a, a ≠ 3 → a ≠ 4 → pairW S (k 2 i) (k 2 (i + 1)) (k 2 (i + 2)) a = S a := fun a a0 a5 => by unfold pairW; rw [uI_ne a0, uI_ne a5, uI_ne a5, uI_ne a5]
  have e3 : pairW S (k 2 i) (k 2 (i + 1)) (k 2 (i + 2)) 3 = u1 (S 3) (S 0 1) (S 3 (S 0 1) + 1) := by
    unfold pairW; rw [uI_eq, uI_ne (by decide), uI_ne (by decide), uI_ne (by decide)]
  have e4 : ∀ y, pairW S (k 2 i) (k 2 (i + 1)) (k 2 (i + 2)) 4 y = if y = 18 * S 0 1 + 3 * S 3 (S 0 1) + 2 then k 2 (i + 2) else if y = 18 * S 0 1 + 3 * S 3 (S 0 1) + 1 then k 2 (i + 1) else if y = 18 * S 0 1 + 3 * S 3 (S 0 1) then k 2 i else S 4 y := fun y => by
    unfold pairW; rw [uI_ne (by decide), uI_eq, uI_eq, uI_eq]; rfl
  have f3 := b3 (S 0 1) b0.1.1 (by omega)
  have n6 : S 3 (S 0 1) ≠ 6 := fun q => by rw [if_pos q] at h1; exact absurd h1.1 (by decide)
  unfold WG
  rw [eo 0 (by decide) (by decide), eo 1 (by decide) (by decide), eo 2 (by decide) (by decide), eo 5 (by decide) (by decide), eo 6 (by decide) (by decide), eo 7 (by decide) (by decide), e3]
  refine ⟨b0, b9, b1, b7, b2, b3.set ⟨by omega, by omega⟩, fun p q p0 p1 q0 q1 => ?_, b5, b6⟩
  rw [e4, e4, e4]
  have fp := b3 p p0 p1
  by_cases z : p = S 0 1 ∧ q = S 3 (S 0 1)
  · obtain ⟨rfl, rfl⟩ := z
    rw [if_neg (by omega), if_neg (by omega), if_pos rfl, if_neg (by omega), if_pos rfl, if_pos rfl]
    exact ⟨u2, u3, u5⟩
  · have h2 : q < S 3 p := by
      unfold u1 at q1
      split at q1
      · next e => rw [e] at z ⊢; omega
      · exact q1
    have h4 : ¬ (18 * p + 3 * q = 18 * S 0 1 + 3 * S 3 (S 0 1)) := fun e => by
      have e2 : p = S 0 1 := by omega
      exact z ⟨e2, by rw [e2] at e; omega⟩
    rw [if_neg (by omega), if_neg (by omega), if_neg (by omega), if_neg (by omega), if_neg (by omega), if_neg (by omega), if_neg (by omega), if_neg (by omega), if_neg (by omega)]
    exact b4 p q p0 p1 q0 h2
theorem fallR_w {k : Tn} {i : Int} {S : Tn} (h : WG 1 S) (hz : (fallR k i S).1 = 0) : WG 1 (fallR k i S).2.2.2 := by
  unfold fallR at hz ⊢
  have h1 := ck_z hz
  rw [h1.2] at hz ⊢
  have h2 := ck_z hz
  rw [h2.2]
  have u2 := (numC_z h2.1).2
  show WG 1 (uI (uI S 10 0 1) 2 (S 0 1) (k 2 i))
  obtain ⟨b0, b9, b1, b7, b2, b3, b4, b5, b6⟩ := h
  have eo : ∀ a, a ≠ 2 → a ≠ 10 → uI (uI S 10 0 1) 2 (S 0 1) (k 2 i) a = S a := fun a a0 a5 => by rw [uI_ne a0, uI_ne a5]
  have e2 : uI (uI S 10 0 1) 2 (S 0 1) (k 2 i) 2 = u1 (S 2) (S 0 1) (k 2 i) := by rw [uI_eq, uI_ne (by decide)]
  unfold WG
  rw [eo 0 (by decide) (by decide), eo 1 (by decide) (by decide), eo 3 (by decide) (by decide), eo 4 (by decide) (by decide), eo 5 (by decide) (by decide), eo 6 (by decide) (by decide), eo 7 (by decide) (by decide), e2]
  exact ⟨b0, b9, b1, b7, b2.set u2, b3, b4, b5, b6⟩
theorem sgnR_w {k : Tn} {i : Int} {S : Tn} (hz : (sgnR k i S).1 = 0) : (sgnR k i S).2.2.2 = S := by
  unfold sgnR at hz ⊢
  have h1 := ck_z hz
  rw [h1.2]
  rfl
theorem WG.done {S : Tn} (h : WG 1 S) : WG 0 (uI S 0 1 (S 0 1 + 1)) := by
  obtain ⟨⟨a1, a2, a3, a4, a5, a6, a7⟩, b9, b1, b7, b2, b3, b4, b5, b6⟩ := h
  have eo : ∀ a, a ≠ 0 → uI S 0 1 (S 0 1 + 1) a = S a := fun a a0 => uI_ne a0
  have e1 : uI S 0 1 (S 0 1 + 1) 0 1 = S 0 1 + 1 := by rw [uI_eq, u1_eq]
  have e0 : ∀ k, k ≠ 1 → uI S 0 1 (S 0 1 + 1) 0 k = S 0 k := fun k hk => by rw [uI_eq, u1_ne hk]
  unfold WG w0
  rw [eo 1 (by decide), eo 2 (by decide), eo 3 (by decide), eo 4 (by decide), eo 5 (by decide), eo 6 (by decide), eo 7 (by decide), e1, e0 2 (by decide), e0 3 (by decide), e0 4 (by decide), e0 5 (by decide), e0 6 (by decide), e0 7 (by decide), Int.add_zero]
  exact ⟨⟨⟨by omega, by omega⟩, a2, a3, a4, a5, a6, a7⟩, b9, b1, b7, b2, b3, b4, b5, fun t t0 t1 => by have := b6 t t0 t1; exact ⟨⟨this.1.1, by omega⟩, ⟨this.2.1.1, by omega⟩, this.2.2⟩⟩
theorem WG.newp {S : Tn} (h : WG 0 S) (h6 : S 0 1 ≠ 6) : WG 1 (newP S) := by
  obtain ⟨b0, b9, b1, b7, b2, b3, b4, b5, b6⟩ := h
  rw [Int.add_zero] at b1 b7 b2 b3 b4
  have a1 := b0.1
  have n0 : newP S 0 = S 0 := by
    funext c
    unfold newP
    rw [if_neg (by omega), if_neg (by omega), if_neg (by omega)]
  have nn : ∀ a, a ≠ 7 → a ≠ 1 → a ≠ 8 → a ≠ 9 → a ≠ 10 → a ≠ 2 → a ≠ 3 → newP S a = S a := fun a a7 a1 a8 a9 a10 a2 a3 => by
    funext c
    unfold newP
    rw [if_neg (by omega), if_neg (by omega), if_neg (by omega)]
  have n17 : ∀ a c, (a = 1 ∨ a = 7) → 0 ≤ c → c < 8 * (S 0 1 + 1) → newP S a c = if c < 8 * S 0 1 then S a c else 0 := fun a c ha c0 c1 => by
    unfold newP
    by_cases q : c < 8 * S 0 1
    · rw [if_neg (by omega), if_neg (by omega), if_neg (by omega), if_pos q]
    · rw [if_pos ⟨by omega, by omega, by omega⟩, if_neg q]
  have n23 : ∀ a p, (a = 2 ∨ a = 3) → newP S a p = if p = S 0 1 then 0 else S a p := fun a p ha => by
    unfold newP
    by_cases q : p = S 0 1
    · rw [if_neg (by omega), if_neg (by omega), if_pos ⟨by omega, q⟩, if_pos q]
    · rw [if_neg (by omega), if_neg (by omega), if_neg (fun z => q z.2), if_neg q]
  unfold WG
  rw [n0, nn 4 (by decide) (by decide) (by decide) (by decide) (by decide) (by decide) (by decide), nn 5 (by decide) (by decide) (by decide) (by decide) (by decide) (by decide) (by decide), nn 6 (by decide) (by decide) (by decide) (by decide) (by decide) (by decide) (by decide)]
  refine ⟨b0, by omega, fun c c0 c1 => ?_, fun c c0 c1 => ?_, fun p p0 p1 => ?_, fun p p0 p1 => ?_, fun p k p0 p1 k0 k1 => ?_, b5, b6⟩
  · rw [n17 1 c (Or.inl rfl) c0 c1]
    split
    · next q => exact b1 c c0 q
    · decide
  · rw [n17 7 c (Or.inr rfl) c0 c1]
    split
    · next q => exact b7 c c0 q
    · decide
  · rw [n23 2 p (Or.inl rfl)]
    split
    · decide
    · exact b2 p p0 (by omega)
  · rw [n23 3 p (Or.inr rfl)]
    split
    · decide
    · exact b3 p p0 (by omega)
  · rw [n23 3 p (Or.inr rfl)] at k1
    split at k1
    · omega
    · exact b4 p k p0 (by omega) k0 k1
theorem perR_w {k : Tn} : ∀ (f : Nat) (i : Int) (S : Tn), WG 1 S → (perR k f i S).1 = 0 → WG 0 (perR k f i S).2.2.2
  | 0, i, S, _, h => absurd h (by show ¬ (9 : Int) = 0; decide)
  | f + 1, i, S, hS, h => by
    unfold perR at h ⊢
    by_cases h6 : k 0 i = 6
    · rw [if_pos h6] at h ⊢
      have h1 := bn_z h
      rw [h1.2] at h ⊢
      exact perR_w f _ _ (toldR_w hS (Or.inl ⟨rfl, rfl, rfl⟩) h1.1) h
    rw [if_neg h6] at h ⊢
    by_cases h7 : k 0 i = 7
    · rw [if_pos h7] at h ⊢
      have h1 := bn_z h
      rw [h1.2] at h ⊢
      exact perR_w f _ _ (toldR_w hS (Or.inr ⟨rfl, rfl, rfl⟩) h1.1) h
    rw [if_neg h7] at h ⊢
    by_cases h8 : k 0 i = 8
    · rw [if_pos h8] at h ⊢
      have h1 := bn_z h
      rw [h1.2] at h ⊢
      exact perR_w f _ _ (pairR_w hS h1.1) h
    rw [if_neg h8] at h ⊢
    by_cases h9 : k 0 i = 9
    · rw [if_pos h9] at h ⊢
      have h1 := bn_z h
      rw [h1.2] at h ⊢
      exact perR_w f _ _ (fallR_w hS h1.1) h
    rw [if_neg h9] at h ⊢
    rw [sgnR_w h]
    exact hS.done
theorem persR_w {k : Tn} {i : Int} {S : Tn} (hS : WG 0 S) (h : (persR k i S).1 = 0) : WG 0 (persR k i S).2.2.2 := by
  unfold persR at h ⊢
  have h1 := ck_z h
  rw [h1.2] at h ⊢
  have n6 : S 0 1 ≠ 6 := fun q => by rw [if_pos q] at h1; exact absurd h1.1 (by decide)
  exact perR_w _ _ _ (hS.newp n6) h
/-- a field of the first row that no one else rests on -/
theorem WG.f0 {S S' : Tn} (h : WG 0 S) (ho : ∀ a, a ≠ 0 → a ≠ 11 → S' a = S a) (h1 : S' 0 1 = S 0 1) (h2 : S' 0 2 = S 0 2) (h5 : S' 0 5 = S 0 5) (h6 : S' 0 6 = S 0 6) (hw : w0 (S' 0)) : WG 0 S' := by
  obtain ⟨b0, b9, b1, b7, b2, b3, b4, b5, b6⟩ := h
  unfold WG
  rw [ho 1 (by decide) (by decide), ho 2 (by decide) (by decide), ho 3 (by decide) (by decide), ho 4 (by decide) (by decide), ho 5 (by decide) (by decide), ho 6 (by decide) (by decide), ho 7 (by decide) (by decide), h1, h2, h5, h6]
  exact ⟨hw, b9, b1, b7, b2, b3, b4, b5, b6⟩
theorem burR_w {k : Tn} {i : Int} {S : Tn} (hS : WG 0 S) (h : (burR k i S).1 = 0) : WG 0 (burR k i S).2.2.2 := by
  unfold burR at h ⊢
  split at h
  · next q =>
    rw [if_pos q, sgnR_w h]
    have a := hS.1
    refine hS.f0 (fun a a0 _ => uI_ne a0) rfl rfl rfl rfl ?_
    rw [uI_eq]
    exact ⟨a.1, a.2.1, a.2.2.1, a.2.2.2.1, a.2.2.2.2.1, a.2.2.2.2.2.1, Or.inr u1_eq⟩
  · next q =>
    rw [if_neg q, sgnR_w h]
    exact hS
theorem spoR_w {k : Tn} {i : Int} {S : Tn} (hS : WG 0 S) (h : (spoR k i S).1 = 0) : WG 0 (spoR k i S).2.2.2 := by
  unfold spoR at h ⊢
  split at h
  · next q =>
    rw [if_pos q]
    have h1 := ck_z h
    rw [h1.2] at h ⊢
    have u := (belC_z h1.1).2
    have a := hS.1
    refine burR_w (hS.f0 (fun a a0 _ => uI_ne a0) rfl rfl rfl rfl ?_) h
    rw [uI_eq]
    exact ⟨a.1, a.2.1, a.2.2.1, Or.inr ⟨u.1, u.2⟩, a.2.2.2.2⟩
  · next q =>
    rw [if_neg q]
    exact burR_w hS h
theorem lawR_w {k : Tn} {i : Int} {S : Tn} (hS : WG 0 S) (h : (lawR k i S).1 = 0) : WG 0 (lawR k i S).2.2.2 := by
  unfold lawR at h ⊢
  have h1 := ck_z h
  rw [h1.2] at h ⊢
  have h2 := ck_z h
  rw [h2.2] at h ⊢
  have u := (numC_z h2.1).2
  have a := hS.1
  refine spoR_w (hS.f0 (fun a a0 a1 => by rw [uI_ne a0, uI_ne a1]) rfl rfl rfl rfl ?_) h
  rw [uI_eq, uI_ne (by decide)]
  exact ⟨a.1, a.2.1, u, a.2.2.2⟩
theorem tieR_w {k : Tn} {i : Int} {S : Tn} (hS : WG 0 S) (hz : (tieR k i S).1 = 0) : WG 0 (tieR k i S).2.2.2 := by
  unfold tieR at hz ⊢
  have h1 := ck_z hz
  rw [h1.2] at hz ⊢
  have h2 := ck_z hz
  rw [h2.2] at hz ⊢
  have h3 := ck_z hz
  rw [h3.2] at hz ⊢
  have h4 := ck_z hz
  rw [h4.2] at hz ⊢
  have h5 := ck_z hz
  rw [h5.2] at hz ⊢
  rw [sgnR_w hz]
  have u2 := (belC_z h2.1).2
  have u3 := (belC_z h3.1).2
  have u4 := (belC_z h4.1).2
  have n5 : ¬ (k 2 (i + 2) = k 2 i ∨ k 2 (i + 2) = k 2 (i + 1)) := fun q => by rw [if_pos q] at h5; exact absurd h5.1 (by decide)
  have n4 : S 0 5 ≠ 4 := fun q => by rw [if_pos q] at h1; exact absurd h1.1 (by decide)
  obtain ⟨⟨a1, a2, a3, a4, a5, a6, a7⟩, b9, b1, b7, b2, b3, b4, b5, b6⟩ := hS
  have e0 : ∀ j, j ≠ 5 → tieW S (k 2 i) (k 2 (i + 1)) (k 2 (i + 2)) 0 j = S 0 j := fun j hj => by unfold tieW; rw [uI_eq, u1_ne hj, uI_ne (by decide), uI_ne (by decide), uI_ne (by decide)]
  have e05 : tieW S (k 2 i) (k 2 (i + 1)) (k 2 (i + 2)) 0 5 = S 0 5 + 1 := by unfold tieW; rw [uI_eq, u1_eq]
  have eo : ∀ a, a ≠ 0 → a ≠ 5 → tieW S (k 2 i) (k 2 (i + 1)) (k 2 (i + 2)) a = S a := fun a a0 a5 => by unfold tieW; rw [uI_ne a0, uI_ne a5, uI_ne a5, uI_ne a5]
  have e5 : ∀ x, tieW S (k 2 i) (k 2 (i + 1)) (k 2 (i + 2)) 5 x = if x = 3 * S 0 5 + 2 then k 2 (i + 2) else if x = 3 * S 0 5 + 1 then k 2 (i + 1) else if x = 3 * S 0 5 then k 2 i else S 5 x := fun x => by
    unfold tieW; rw [uI_ne (by decide), uI_eq, uI_eq, uI_eq]; rfl
  unfold WG w0
  rw [eo 1 (by decide) (by decide), eo 2 (by decide) (by decide), eo 3 (by decide) (by decide), eo 4 (by decide) (by decide), eo 6 (by decide) (by decide), eo 7 (by decide) (by decide), e05, e0 1 (by decide), e0 2 (by decide), e0 3 (by decide), e0 4 (by decide), e0 6 (by decide), e0 7 (by decide)]
  refine ⟨⟨a1, a2, a3, a4, ⟨by omega, by omega⟩, a6, a7⟩, b9, b1, b7, b2, b3, b4, fun t t0 t1 => ?_, b6⟩
  rw [e5, e5, e5]
  by_cases q : t = S 0 5
  · subst q
    rw [if_neg (by omega), if_neg (by omega), if_pos rfl, if_neg (by omega), if_pos rfl, if_pos rfl]
    exact ⟨u2, u3, u4, fun z => n5 (Or.inl z.symm), fun z => n5 (Or.inr z.symm)⟩
  · rw [if_neg (by omega), if_neg (by omega), if_neg (by omega), if_neg (by omega), if_neg (by omega), if_neg (by omega), if_neg (by omega), if_neg (by omega), if_neg (by omega)]
    exact b5 t t0 (by omega)
theorem meetR_w {k : Tn} {i : Int} {S : Tn} (hS : WG 0 S) (hz : (meetR k i S).1 = 0) : WG 0 (meetR k i S).2.2.2 := by
  unfold meetR at hz ⊢
  have h1 := ck_z hz
  rw [h1.2] at hz ⊢
  have h2 := ck_z hz
  rw [h2.2] at hz ⊢
  have h3 := ck_z hz
  rw [h3.2] at hz ⊢
  have h4 := ck_z hz
  rw [h4.2] at hz ⊢
  rw [sgnR_w hz]
  have u2 := (belC_z h2.1).2
  have u3 := (belC_z h3.1).2
  have n5 : ¬ (k 2 (i + 1) = k 2 i) := fun q => by rw [if_pos q] at h4; exact absurd h4.1 (by decide)
  have n4 : S 0 6 ≠ 8 := fun q => by rw [if_pos q] at h1; exact absurd h1.1 (by decide)
  obtain ⟨⟨a1, a2, a3, a4, a5, a6, a7⟩, b9, b1, b7, b2, b3, b4, b5, b6⟩ := hS
  have e0 : ∀ j, j ≠ 6 → meetW S (k 2 i) (k 2 (i + 1)) 0 j = S 0 j := fun j hj => by unfold meetW; rw [uI_eq, u1_ne hj, uI_ne (by decide), uI_ne (by decide)]
  have e06 : meetW S (k 2 i) (k 2 (i + 1)) 0 6 = S 0 6 + 1 := by unfold meetW; rw [uI_eq, u1_eq]
  have eo : ∀ a, a ≠ 0 → a ≠ 6 → meetW S (k 2 i) (k 2 (i + 1)) a = S a := fun a a0 a5 => by unfold meetW; rw [uI_ne a0, uI_ne a5, uI_ne a5]
  have e6 : ∀ x, meetW S (k 2 i) (k 2 (i + 1)) 6 x = if x = 2 * S 0 6 + 1 then k 2 (i + 1) else if x = 2 * S 0 6 then k 2 i else S 6 x := fun x => by
    unfold meetW; rw [uI_ne (by decide), uI_eq, uI_eq]; rfl
  unfold WG w0
  rw [eo 1 (by decide) (by decide), eo 2 (by decide) (by decide), eo 3 (by decide) (by decide), eo 4 (by decide) (by decide), eo 5 (by decide) (by decide), eo 7 (by decide) (by decide), e06, e0 1 (by decide), e0 2 (by decide), e0 3 (by decide), e0 4 (by decide), e0 5 (by decide), e0 7 (by decide)]
  refine ⟨⟨a1, a2, a3, a4, a5, ⟨by omega, by omega⟩, a7⟩, b9, b1, b7, b2, b3, b4, b5, fun t t0 t1 => ?_⟩
  rw [e6, e6]
  by_cases q : t = S 0 6
  · subst q
    rw [if_neg (by omega), if_pos rfl, if_pos rfl]
    exact ⟨u2, u3, fun z => n5 z.symm⟩
  · rw [if_neg (by omega), if_neg (by omega), if_neg (by omega), if_neg (by omega)]
    exact b6 t t0 (by omega)
theorem sortR_w {k : Tn} {l i : Int} {S : Tn} (hS : l = 0 → S = iniR) (hz : (sortR k l i S).1 = 0) : WG 0 (sortR k l i S).2.2.2 := by
  unfold sortR at hz ⊢
  have h1 := ck_z hz
  rw [h1.2] at hz ⊢
  have h2 := ck_z hz
  rw [h2.2] at hz ⊢
  rw [sgnR_w hz]
  have u2 := (numC_z h2.1).2
  have l0 : l = 0 := Classical.byContradiction (fun q => by rw [if_neg q] at h1; exact absurd h1.1 (by decide))
  rw [hS l0]
  have eo : ∀ a, a ≠ 0 → uI iniR 0 2 (k 2 i) a = iniR a := fun a a0 => uI_ne a0
  have e2 : uI iniR 0 2 (k 2 i) 0 2 = k 2 i := by rw [uI_eq, u1_eq]
  have e0 : ∀ j, j ≠ 2 → uI iniR 0 2 (k 2 i) 0 j = iniR 0 j := fun j hj => by rw [uI_eq, u1_ne hj]
  obtain ⟨⟨a1, a2, a3, a4, a5, a6, a7⟩, b9, b1, b7, b2, b3, b4, b5, b6⟩ := WG.ini
  unfold WG w0
  rw [eo 1 (by decide), eo 2 (by decide), eo 3 (by decide), eo 4 (by decide), eo 5 (by decide), eo 6 (by decide), eo 7 (by decide), e2, e0 1 (by decide), e0 3 (by decide), e0 4 (by decide), e0 5 (by decide), e0 6 (by decide), e0 7 (by decide)]
  refine ⟨⟨a1, u2, a3, Or.inl rfl, a5, a6, a7⟩, b9, b1, b7, b2, b3, fun p q p0 p1 => ?_, fun t t0 t1 => ?_, b6⟩
  · have : p < 0 := p1
    omega
  · have : t < 0 := t1
    omega
theorem lineR_w {k : Tn} {l i : Int} {S : Tn} (hS : WG 0 S) (hl : l = 0 → S = iniR) (h : (lineR k l i S).1 = 0) : WG 0 (lineR k l i S).2.2.2 := by
  unfold lineR at h ⊢
  by_cases h4 : k 0 i = 4
  · rw [if_pos h4] at h ⊢; exact sortR_w hl h
  rw [if_neg h4] at h ⊢
  by_cases h5 : k 0 i = 5
  · rw [if_pos h5] at h ⊢; exact persR_w hS h
  rw [if_neg h5] at h ⊢
  by_cases h10 : k 0 i = 10
  · rw [if_pos h10] at h ⊢; exact lawR_w hS h
  rw [if_neg h10] at h ⊢
  by_cases h13 : k 0 i = 13
  · rw [if_pos h13] at h ⊢; exact tieR_w hS h
  rw [if_neg h13] at h ⊢
  by_cases h14 : k 0 i = 14
  · rw [if_pos h14] at h ⊢; exact meetR_w hS h
  rw [if_neg h14] at h
  exact absurd h (by show ¬ (1 : Int) = 0; decide)
theorem townR_w {k : Tn} : ∀ (f : Nat) (l i : Int) (S : Tn), 0 ≤ l → WG 0 S → (l = 0 → S = iniR) → (townR k f l i S).1 = 0 → WG 0 (townR k f l i S).2.2.2
  | 0, _, _, _, _, _, _, h => absurd h (by show ¬ (9 : Int) = 0; decide)
  | f + 1, l, i, S, hl0, hS, hl, h => by
    unfold townR at h ⊢
    by_cases h0 : k 0 i = 0
    · rw [if_pos h0]; exact hS
    rw [if_neg h0] at h ⊢
    have h1 := bn_z h
    rw [h1.2] at h ⊢
    exact townR_w f (l + 1) _ _ (by omega) (lineR_w hS hl h1.1) (fun q => by omega) h
theorem parR_w {k : Tn} (h : (parR k).1 = 0) : WG 0 (parR k).2.2.2 := townR_w _ _ _ _ (Int.le_refl 0) WG.ini (fun _ => rfl) h
