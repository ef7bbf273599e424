/-! ===== class and reference in one memory ===== -/
def RSa (I : Mem) (P : Ptr) (t g : Nat) (T : Tn) : Prop := WP P ∧ P 1 2 = t ∧ P 1 3 = g ∧ isT NO t ∧ isT NO g ∧ t ≠ g ∧ MK I P 46 t (t + 13) T ∧ MT I T ∧ WF T
def RSb (I : Mem) (T : Tn) : Prop := RW T (I 98) ∧ RE (I 98) (I 47)
def RSc (I : Mem) : Prop := ((0 ≤ I 1 1 ∧ I 1 1 ≤ 700) ∧ I 91 17 = I 1 1) ∧ ∀ c, 0 ≤ c → c < I 1 1 → (0 ≤ I 100 c ∧ I 100 c ≤ 255) ∧ (I 100 c = I 2 c ∨ I 100 c = I 2 c + 256) ∧ -128 ≤ I 2 c ∧ I 2 c ≤ 127
def RSd (c : Int) (I : Mem) : Prop := I 1 4 = I 91 19 ∧ I 1 5 = I 99 0 ∧ I 1 6 = I 99 1 ∧ I 1 7 = I 99 2 ∧ 0 ≤ I 99 0 ∧ I 99 0 ≤ c
def RSe (I : Mem) (T : Tn) : Prop := I 85 1 = I 91 61 ∧ I 91 61 ≤ 1000 ∧ ∀ i, 0 ≤ i → i < I 91 61 → ∃ h, okH T h ∧ I 86 i = codeX h ∧ I 121 i = h.2.1 ∧ I 122 i = h.2.2.1 ∧ I 123 i = numX T h ∧ I 124 i = h.2.2.2.2
def RSf (I : Mem) (T : Tn) : Prop := I 85 3 = I 91 66 ∧ (I 91 66 = 0 ∨ I 91 66 = 1) ∧ (I 91 66 = 1 → ∀ s, 0 ≤ s → s < T 0 2 → I 87 s = I 125 s)
def RSg (I : Mem) : Prop := I 85 5 = I 91 76 ∧ I 91 76 ≤ 5 ∧ ∀ i, 0 ≤ i → i < I 91 76 → I 88 i = I 130 i
def RSh (I : Mem) : Prop := I 85 7 = I 91 89 ∧ (I 91 89 = 0 ∨ I 91 89 = 1) ∧ (I 91 89 = 1 → RE (I 89) (I 142))
def RSi (I : Mem) (T : Tn) : Prop := I 85 9 = I 91 92 ∧ (I 91 92 = 0 ∨ I 91 92 = 1) ∧ (I 91 92 = 1 → RE (I 90) (I 144) ∧ RW T (I 144))
def REL (c : Int) (I : Mem) (P : Ptr) : Prop := ∃ t g T, RSa I P t g T ∧ RSb I T ∧ RSc I ∧ RSd c I ∧ RSe I T ∧ RSf I T ∧ RSg I ∧ RSh I ∧ RSi I T
section
variable {c c' : Int} {I K : Mem} {P R : Ptr} {t g : Nat} {T : Tn}
theorem RSa.eq (h : RSa I P t g T) (hP : PK P R) (h1 : ∀ a, 3 ≤ a → a ≤ 40 → K a = I a) (h2 : ∀ k, 1 ≤ k → k ≤ 7 → K 91 k = I 91 k) (h3 : ∀ a, 92 ≤ a → a ≤ 97 → K a = I a) : RSa K R t g T := by
  obtain ⟨hW, h1t, h1g, hTo, hGo, hne, hM, hT, hF⟩ := h
  refine ⟨hP.1, by rw [hP.2.1]; exact h1t, by rw [hP.2.1]; exact h1g, hTo, hGo, hne, hM.f50 hP.2.2 h1, ?_, hF⟩
  exact ⟨fun k k0 k1 => (h2 k k0 k1).trans (hT.1 k k0 k1), (h3 92 (by decide) (by decide)).trans hT.2.1, (h3 93 (by decide) (by decide)).trans hT.2.2.1, (h3 94 (by decide) (by decide)).trans hT.2.2.2.1, (h3 95 (by decide) (by decide)).trans hT.2.2.2.2.1, (h3 96 (by decide) (by decide)).trans hT.2.2.2.2.2.1, (h3 97 (by decide) (by decide)).trans hT.2.2.2.2.2.2⟩
theorem RSb.eq (h : RSb I T) (h1 : K 98 = I 98) (h2 : K 47 = I 47) : RSb K T := by unfold RSb; rw [h1, h2]; exact h
theorem RSc.eq (h : RSc I) (h1 : K 1 1 = I 1 1) (h2 : K 2 = I 2) (h3 : K 100 = I 100) (h4 : K 91 17 = I 91 17) : RSc K := by unfold RSc; rw [h1, h2, h3, h4]; exact h
theorem RSd.eq (h : RSd c I) (h1 : ∀ k, 4 ≤ k → k ≤ 7 → K 1 k = I 1 k) (h2 : K 99 = I 99) (h3 : K 91 19 = I 91 19) (hc : c ≤ c') : RSd c' K := by
  obtain ⟨a, b, d, e, f, g⟩ := h
  unfold RSd
  rw [h1 4 (by decide) (by decide), h1 5 (by decide) (by decide), h1 6 (by decide) (by decide), h1 7 (by decide) (by decide), h2, h3]
  exact ⟨a, b, d, e, f, by omega⟩
theorem RSe.eq (h : RSe I T) (h1 : K 85 1 = I 85 1) (h2 : K 91 61 = I 91 61) (h3 : K 86 = I 86) (h4 : ∀ a, 121 ≤ a → a ≤ 124 → K a = I a) : RSe K T := by
  unfold RSe
  rw [h1, h2, h3, h4 121 (by decide) (by decide), h4 122 (by decide) (by decide), h4 123 (by decide) (by decide), h4 124 (by decide) (by decide)]
  exact h
theorem RSf.eq (h : RSf I T) (h1 : K 85 3 = I 85 3) (h2 : K 91 66 = I 91 66) (h3 : K 87 = I 87) (h4 : K 125 = I 125) : RSf K T := by unfold RSf; rw [h1, h2, h3, h4]; exact h
theorem RSg.eq (h : RSg I) (h1 : K 85 5 = I 85 5) (h2 : K 91 76 = I 91 76) (h3 : K 88 = I 88) (h4 : K 130 = I 130) : RSg K := by unfold RSg; rw [h1, h2, h3, h4]; exact h
theorem RSh.eq (h : RSh I) (h1 : K 85 7 = I 85 7) (h2 : K 91 89 = I 91 89) (h3 : K 89 = I 89) (h4 : K 142 = I 142) : RSh K := by unfold RSh; rw [h1, h2, h3, h4]; exact h
theorem RSi.eq (h : RSi I T) (h1 : K 85 9 = I 85 9) (h2 : K 91 92 = I 91 92) (h3 : K 90 = I 90) (h4 : K 144 = I 144) : RSi K T := by unfold RSi; rw [h1, h2, h3, h4]; exact h
/-- the objects and fields that matter from call to call -/
def KO (a : Nat) : Prop := (1 ≤ a ∧ a ≤ 40) ∨ a = 47 ∨ (85 ≤ a ∧ a ≤ 90) ∨ (92 ≤ a ∧ a ≤ 100) ∨ (121 ≤ a ∧ a ≤ 125) ∨ a = 130 ∨ a = 142 ∨ a = 144
def KF (k : Int) : Prop := (1 ≤ k ∧ k ≤ 7) ∨ k = 17 ∨ k = 19 ∨ k = 61 ∨ k = 66 ∨ k = 76 ∨ k = 89 ∨ k = 92
/-- all but some as it was -/
def SMx (X : Nat → Prop) (F : Int → Prop) (I K : Mem) : Prop := (∀ a, KO a → ¬ X a → K a = I a) ∧ ∀ k, KF k → ¬ F k → K 91 k = I 91 k
abbrev nX : Nat → Prop := fun _ => False
abbrev nF : Int → Prop := fun _ => False
theorem SMx.tr {X : Nat → Prop} {F : Int → Prop} {I J K : Mem} (h : SMx X F I J) (h2 : SMx X F J K) : SMx X F I K := ⟨fun a h1 hx => (h2.1 a h1 hx).trans (h.1 a h1 hx), fun k h1 hx => (h2.2 k h1 hx).trans (h.2 k h1 hx)⟩
theorem SMx.fc {X S : Nat → Prop} {F : Int → Prop} {I J : Mem} (h : Fc S I J) (hs : ∀ a, KO a → ¬ X a → ¬ S a) (h9 : ¬ S 91) : SMx X F I J := ⟨fun a h1 hx => h a (hs a h1 hx), fun k _ _ => congrFun (h 91 h9) k⟩
theorem SMx.fr {X : Nat → Prop} {F : Int → Prop} {L : List Nat} {D : List Int} {I J : Mem} (h : Fr L D I J) (hs : ∀ a, KO a → ¬ X a → a ∉ L) (hd : ∀ k, KF k → ¬ F k → k ∉ D) : SMx X F I J := ⟨fun a h1 hx => h.1 a (by unfold KO at h1; omega) (hs a h1 hx), fun k h1 hx => h.2 k (hd k h1 hx)⟩
theorem SMx.out {X : Nat → Prop} {F : Int → Prop} {I : Mem} {v : Int} : SMx X F I (uI I 145 0 v) := ⟨fun a h1 _ => uI_ne (by unfold KO at h1; omega), fun k _ _ => by rw [uI_ne (by decide)]⟩
theorem SMx.f0 {X : Nat → Prop} {F : Int → Prop} {I : Mem} {v : Int} : SMx X F I (uI I 91 0 v) := ⟨fun a h1 _ => uI_ne (by unfold KO at h1; omega), fun k h1 _ => by rw [uI_eq, u1_ne (by unfold KF at h1; omega)]⟩
theorem SMx.rf {X : Nat → Prop} {F : Int → Prop} {I : Mem} : SMx X F I I := ⟨fun _ _ _ => rfl, fun _ _ _ => rfl⟩
theorem SMx.mo {X Y : Nat → Prop} {F E : Int → Prop} {I J : Mem} (h : SMx X F I J) (h1 : ∀ a, KO a → X a → Y a) (h2 : ∀ k, KF k → F k → E k) : SMx Y E I J := ⟨fun a ha hx => h.1 a ha (fun z => hx (h1 a ha z)), fun k hk hx => h.2 k hk (fun z => hx (h2 k hk z))⟩
theorem SMx.qa {I K : Mem} {P R : Ptr} {t g : Nat} {T : Tn} {X : Nat → Prop} {F : Int → Prop} (h : SMx X F I K) (hr : RSa I P t g T) (hP : PK P R) (hx : ∀ a, X a → ¬ ((3 ≤ a ∧ a ≤ 40) ∨ (92 ≤ a ∧ a ≤ 97))) (hf : ∀ k, F k → ¬ (1 ≤ k ∧ k ≤ 7)) : RSa K R t g T := hr.eq hP (fun a a0 a1 => h.1 a (by unfold KO; omega) (fun z => hx a z (by omega))) (fun k k0 k1 => h.2 k (by unfold KF; omega) (fun z => hf k z ⟨k0, k1⟩)) (fun a a0 a1 => h.1 a (by unfold KO; omega) (fun z => hx a z (by omega)))
theorem SMx.qb {X : Nat → Prop} {F : Int → Prop} (h : SMx X F I K) (hr : RSb I T) (h1 : ¬ X 98) (h2 : ¬ X 47) : RSb K T := hr.eq (h.1 98 (by unfold KO; omega) h1) (h.1 47 (by unfold KO; omega) h2)
theorem SMx.qc {X : Nat → Prop} {F : Int → Prop} (h : SMx X F I K) (hr : RSc I) (h1 : ¬ X 1) (h2 : ¬ X 2) (h3 : ¬ X 100) (h4 : ¬ F 17) : RSc K := hr.eq (by rw [h.1 1 (by unfold KO; omega) h1]) (h.1 2 (by unfold KO; omega) h2) (h.1 100 (by unfold KO; omega) h3) (h.2 17 (by unfold KF; omega) h4)
theorem SMx.qd {X : Nat → Prop} {F : Int → Prop} (h : SMx X F I K) (hr : RSd c I) (h1 : ¬ X 1) (h2 : ¬ X 99) (h3 : ¬ F 19) (hc : c ≤ c') : RSd c' K := hr.eq (fun k _ _ => by rw [h.1 1 (by unfold KO; omega) h1]) (h.1 99 (by unfold KO; omega) h2) (h.2 19 (by unfold KF; omega) h3) hc
theorem SMx.qe {X : Nat → Prop} {F : Int → Prop} (h : SMx X F I K) (hr : RSe I T) (h1 : ¬ X 85) (h2 : ¬ F 61) (h3 : ¬ X 86) (h4 : ∀ a, 121 ≤ a → a ≤ 124 → ¬ X a) : RSe K T := hr.eq (by rw [h.1 85 (by unfold KO; omega) h1]) (h.2 61 (by unfold KF; omega) h2) (h.1 86 (by unfold KO; omega) h3) (fun a a0 a1 => h.1 a (by unfold KO; omega) (h4 a a0 a1))
theorem SMx.qf {X : Nat → Prop} {F : Int → Prop} (h : SMx X F I K) (hr : RSf I T) (h1 : ¬ X 85) (h2 : ¬ F 66) (h3 : ¬ X 87) (h4 : ¬ X 125) : RSf K T := hr.eq (by rw [h.1 85 (by unfold KO; omega) h1]) (h.2 66 (by unfold KF; omega) h2) (h.1 87 (by unfold KO; omega) h3) (h.1 125 (by unfold KO; omega) h4)
theorem SMx.qg {X : Nat → Prop} {F : Int → Prop} (h : SMx X F I K) (hr : RSg I) (h1 : ¬ X 85) (h2 : ¬ F 76) (h3 : ¬ X 88) (h4 : ¬ X 130) : RSg K := hr.eq (by rw [h.1 85 (by unfold KO; omega) h1]) (h.2 76 (by unfold KF; omega) h2) (h.1 88 (by unfold KO; omega) h3) (h.1 130 (by unfold KO; omega) h4)
theorem SMx.qh {X : Nat → Prop} {F : Int → Prop} (h : SMx X F I K) (hr : RSh I) (h1 : ¬ X 85) (h2 : ¬ F 89) (h3 : ¬ X 89) (h4 : ¬ X 142) : RSh K := hr.eq (by rw [h.1 85 (by unfold KO; omega) h1]) (h.2 89 (by unfold KF; omega) h2) (h.1 89 (by unfold KO; omega) h3) (h.1 142 (by unfold KO; omega) h4)
theorem SMx.qi {X : Nat → Prop} {F : Int → Prop} (h : SMx X F I K) (hr : RSi I T) (h1 : ¬ X 85) (h2 : ¬ F 92) (h3 : ¬ X 90) (h4 : ¬ X 144) : RSi K T := hr.eq (by rw [h.1 85 (by unfold KO; omega) h1]) (h.2 92 (by unfold KF; omega) h2) (h.1 90 (by unfold KO; omega) h3) (h.1 144 (by unfold KO; omega) h4)
theorem REL.same (h : REL c I P) (hP : PK P R) (hs : SMx nX nF I K) (hc : c ≤ c') : REL c' K R := by
  obtain ⟨t, g, T, ha, hb, hcc, hd, he, hf, hg, hh, hi⟩ := h
  have n : ¬ False := fun z => z
  exact ⟨t, g, T, hs.qa ha hP (fun _ z => z.elim) (fun _ z => z.elim), hs.qb hb n n, hs.qc hcc n n n n, hs.qd hd n n n hc, hs.qe he n n n (fun _ _ _ => n), hs.qf hf n n n n, hs.qg hg n n n n, hs.qh hh n n n n, hs.qi hi n n n n⟩
end
/-- one call of both, with its comparison -/
def OPX (G : HX) (Lw M : MI) (ca : List AV) (fb : Int → Int) (c : Int) (I : Mem) (P : Ptr) : Prop :=
  ∃ A : Int → Mem → Ptr → Prop, Cv G Lw 31 1 6 (.inr (.inl 1) :: (ca ++ [.inr (.inl 145)])) NO I P (qI NO A) ∧
    ∀ k I1 P1, A k I1 P1 → ∃ B : Int → Mem → Ptr → Prop, Cv G M 31 0 0 (.inr (.inl 91) :: ca) NO I1 P1 (qI NO B) ∧ ∀ b I2 P2, B b I2 P2 → I2 91 0 = k ∧ (k = 0 → I2 145 0 = fb b) ∧ REL (c + 1) I2 P2
def OPD (G : HX) (Lw M : MI) (ca : List AV) (c : Int) (I : Mem) (P : Ptr) : Prop :=
  ∃ A : Int → Mem → Ptr → Prop, Cv G Lw 31 0 0 (.inr (.inl 1) :: ca) NO I P (qI NO A) ∧
    ∀ k I1 P1, A k I1 P1 → ∃ B : Int → Mem → Ptr → Prop, Cv G M 31 0 0 (.inr (.inl 91) :: ca) NO I1 P1 (qI NO B) ∧ ∀ b I2 P2, B b I2 P2 → b = k ∧ REL (c + 1) I2 P2
theorem opx_get {G : HX} {Lw M : MI} {ca : List AV} {c : Int} {I : Mem} {P : Ptr} {C : Prop} {va vb : Int} {E0 : String} (hR : REL c I P)
    (hA : Cv G Lw 31 1 6 (.inr (.inl 1) :: (ca ++ [.inr (.inl 145)])) NO I P (qI NO (fun r I' P' => (r = 0 ∧ ∃ v J, ((J = I ∧ P' = P) ∧ C ∧ v = va) ∧ I' = uI J 145 0 v) ∨ (r = 1 ∧ ∃ E, (I' = I ∧ P' = P) ∧ ¬ C ∧ E = E0))))
    (hB : ∀ I1 : Mem, (∀ a, a ≠ 145 → I1 a = I a) → Cv G M 31 0 0 (.inr (.inl 91) :: ca) NO I1 P (qI NO (fun r I' P' => P' = P ∧ I' = uI I1 91 0 (aif C vb).1 ∧ r = (aif C vb).2))) (hv : C → va = vb) : OPX G Lw M ca (fun b => b) c I P := by
  have hWP : PK P P := by obtain ⟨t, g, T, ha, -⟩ := hR; exact PK.rf ha.1
  refine ⟨_, hA, fun k I1 P1 h => ?_⟩
  rcases h with ⟨rfl, v, J, ⟨⟨rfl, rfl⟩, hC, rfl⟩, rfl⟩ | ⟨rfl, E, ⟨rfl, rfl⟩, hC, -⟩
  · refine ⟨_, hB _ (fun a ha => uI_ne ha), fun b I2 P2 h2 => ?_⟩
    obtain ⟨rfl, rfl, rfl⟩ := h2
    rw [aif_1 hC]
    refine ⟨by rw [uI_eq, u1_eq], fun _ => ?_, hR.same hWP (SMx.out.tr SMx.f0) (by omega)⟩
    rw [uI_ne (by decide), uI_eq, u1_eq]
    exact hv hC
  · refine ⟨_, hB _ (fun a ha => rfl), fun b I2 P2 h2 => ?_⟩
    obtain ⟨rfl, rfl, rfl⟩ := h2
    rw [aif_0 hC]
    exact ⟨by rw [uI_eq, u1_eq], fun z => absurd z (by decide), hR.same hWP SMx.f0 (by omega)⟩
theorem MT.o {I K : Mem} {T : Tn} (h : MT I T) (hk : ∀ a, a ≠ 145 → K a = I a) : MT K T := by
  obtain ⟨h0, h1, h2, h3, h4, h5, h6⟩ := h
  exact ⟨fun k k0 k1 => by rw [hk 91 (by decide)]; exact h0 k k0 k1, (hk 92 (by decide)).trans h1, (hk 93 (by decide)).trans h2, (hk 94 (by decide)).trans h3, (hk 95 (by decide)).trans h4, (hk 96 (by decide)).trans h5, (hk 97 (by decide)).trans h6⟩
