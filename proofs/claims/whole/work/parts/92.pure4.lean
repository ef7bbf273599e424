/-! ===== bytes with and without sign; what a town read off a text leaves in a row ===== -/
def SBy (n : Int) (b B : Rw) : Prop := ∀ c, 0 ≤ c → c < n → B c = b c ∨ (b c < 0 ∧ 128 ≤ B c)
theorem scN_c {p p' : Int → Prop} [DecidablePred p] [DecidablePred p'] {n : Int} : ∀ (f : Nat) {q : Int}, f = (n - q).toNat → (∀ i, q ≤ i → i < n → (p i ↔ p' i)) → scN p f q = scN p' f q
  | 0, q, _, _ => rfl
  | f + 1, q, hf, h => by
    have hq := h q (Int.le_refl _) (by omega)
    unfold scN
    by_cases e : p q
    · rw [if_pos e, if_pos (hq.mp e)]
      exact scN_c f (by omega) (fun i i0 i1 => h i (by omega) i1)
    · rw [if_neg e, if_neg (fun z => e (hq.mpr z))]
theorem scS_c {p p' : Int → Prop} [DecidablePred p] [DecidablePred p'] {n q : Int} (h : ∀ i, q ≤ i → i < n → (p i ↔ p' i)) : scS p n q = scS p' n q := scN_c _ rfl h
section
variable {n : Int} {b B : Rw}
theorem SBy.bl (h : SBy n b B) {c : Int} (c0 : 0 ≤ c) (c1 : c < n) : isBl b c ↔ isBl B c := by have := h c c0 c1; unfold isBl; omega
theorem SBy.lt (h : SBy n b B) {c : Int} (c0 : 0 ≤ c) (c1 : c < n) : isLt b c ↔ isLt B c := by have := h c c0 c1; unfold isLt; omega
theorem SBy.dg (h : SBy n b B) {c : Int} (c0 : 0 ≤ c) (c1 : c < n) : isDg b c ↔ isDg B c := by have := h c c0 c1; unfold isDg; omega
theorem SBy.pl (h : SBy n b B) {q : Int} (q0 : 0 ≤ q) : plS b n q = plS B n q := scS_c (fun i i0 i1 => h.bl (by omega) i1)
theorem SBy.lE (h : SBy n b B) {q : Int} (q0 : 0 ≤ q) : ltE b n q = ltE B n q := scS_c (fun i i0 i1 => h.lt (by omega) i1)
theorem SBy.dE (h : SBy n b B) {q : Int} (q0 : 0 ≤ q) : dgE b n q = dgE B n q := scS_c (fun i i0 i1 => h.dg (by omega) i1)
theorem SBy.nx (h : SBy n b B) {p : Int} (p0 : 0 ≤ p) : nxP b n p = nxP B n p := by
  unfold nxP
  by_cases e : n ≤ p
  · rw [if_pos e, if_pos e]
  · rw [if_neg e, if_neg e]
    have h1 := h.lt p0 (by omega)
    have h2 := h.dg p0 (by omega)
    by_cases e1 : isLt b p
    · rw [if_pos e1, if_pos (h1.mp e1), h.lE p0]
    · rw [if_neg e1, if_neg (fun z => e1 (h1.mpr z))]
      by_cases e2 : isDg b p
      · rw [if_pos e2, if_pos (h2.mp e2), h.dE p0]
      · rw [if_neg e2, if_neg (fun z => e2 (h2.mpr z))]
theorem SBy.wd (h : SBy n b B) {p e k : Int} (p0 : 0 ≤ p) (he : e ≤ n) (hk : 0 ≤ k ∧ k < 11) : isWd b p e k ↔ isWd B p e k := by
  have hw := wc_bd hk
  unfold isWd
  refine ⟨fun z => ⟨z.1, fun i i0 i1 => ?_⟩, fun z => ⟨z.1, fun i i0 i1 => ?_⟩⟩
  · have a := z.2 i i0 i1
    have c := hw.2 i i0 i1
    have d := h (p + i) (by omega) (by omega)
    omega
  · have a := z.2 i i0 i1
    have c := hw.2 i i0 i1
    have d := h (p + i) (by omega) (by omega)
    omega
theorem SBy.wi (h : SBy n b B) {p e : Int} (p0 : 0 ≤ p) (he : e ≤ n) : wdI b p e = wdI B p e := by
  rcases wdI_in (tp := b) (p := p) (e := e) with ⟨q1, q2⟩ | ⟨q1, q2⟩
  · rw [q1]
    exact (wdI_no (fun k k0 k1 z => q2 k k0 k1 ((h.wd p0 he ⟨k0, k1⟩).mpr z))).symm
  · exact (wdI_is q1 ((h.wd p0 he q1).mp q2)).symm
theorem SBy.kd (h : SBy n b B) {p : Int} (p0 : 0 ≤ p) : kdP b n p = kdP B n p := by
  unfold kdP
  by_cases e : n ≤ p
  · rw [if_pos e, if_pos e]
  · rw [if_neg e, if_neg e]
    have h0 := h p p0 (by omega)
    have h1 := h.lt p0 (by omega)
    have h2 := h.dg p0 (by omega)
    by_cases e1 : isLt b p
    · have hb := scS_bd (p := isLt b) (n := n) (q := p)
      have hl : ltE b n p ≤ n := by unfold ltE; omega
      rw [if_pos e1, if_pos (h1.mp e1), h.wi p0 hl, h.lE p0]
    · rw [if_neg e1, if_neg (fun z => e1 (h1.mpr z))]
      by_cases e2 : isDg b p
      · rw [if_pos e2, if_pos (h2.mp e2)]
      · rw [if_neg e2, if_neg (fun z => e2 (h2.mpr z))]
        by_cases e3 : b p = 59
        · rw [if_pos e3, if_pos (by omega)]
        · rw [if_neg e3, if_neg (by omega)]
theorem SBy.vl (h : SBy n b B) {p : Int} (p0 : 0 ≤ p) (hp : p ≤ n) : vlP b n p = vlP B n p := by
  have hb := scS_bd (p := isDg b) (n := n) (q := p)
  unfold vlP
  rw [← h.dE p0]
  have e : dgN b p (dgE b n p - p) = dgN B p (dgE b n p - p) := itN_congr (fun i v i0 i1 => by
    unfold dgE at i1
    have hd : isDg b (p + i) := hb.2.2.1 (p + i) (by omega) (by omega)
    have h1 := h (p + i) (by omega) (by omega)
    have : B (p + i) = b (p + i) := by unfold isDg at hd; omega
    rw [this])
  rw [e]
theorem SBy.tk (h : SBy n b B) (hn : 0 ≤ n) : tkS b n = tkS B n := by
  have hps : ∀ i, 0 ≤ i → psS b n i = psS B n i := fun i hi => int_ind (p := fun i => psS b n i = psS B n i) rfl (fun k hk ih => by
    have hb := ps_bd (tp := b) hn hk
    have hb2 := plS_bd (tp := b) (n := n) hb.2
    rw [ps_s hk, ps_s hk, ← ih, ← h.pl hb.1, h.nx (by omega)]) i hi
  have hps2 : ∀ i, psS b n i = psS B n i ∧ 0 ≤ psS b n i ∧ psS b n i ≤ n := fun i => by
    by_cases e : 0 ≤ i
    · exact ⟨hps i e, ps_bd hn e⟩
    · have e1 : ∀ tp, psS tp n i = 0 := fun tp => by
        unfold psS itN
        rw [Int.toNat_of_nonpos (by omega)]
        rfl
      rw [e1, e1]
      exact ⟨rfl, Int.le_refl _, hn⟩
  funext a i
  obtain ⟨h1, h2, h3⟩ := hps2 i
  have hb2 := plS_bd (tp := b) (n := n) h3
  unfold tkS
  rw [← h1, ← h.pl h2, h.kd (p := plS b n (psS b n i)) (by omega), h.vl (p := plS b n (psS b n i)) (by omega) hb2.2]
end
-- nobody has a sort that isn't there
def Z7 (e : Int) (S : Tn) : Prop := 0 ≤ S 0 1 ∧ 1 ≤ S 0 2 ∧ ∀ p s, 0 ≤ p → p < S 0 1 + e → S 0 2 ≤ s → s < 8 → S 7 (8 * p + s) = 0
theorem Z7.eq {e : Int} {S S' : Tn} (h : Z7 e S) (h1 : S' 0 1 = S 0 1) (h2 : S' 0 2 = S 0 2) (h7 : S' 7 = S 7) : Z7 e S' := by
  unfold Z7
  rw [h1, h2, h7]
  exact h
theorem told_z {k : Tn} {a b : Nat} {hi i : Int} {S : Tn} (h : Z7 1 S) (hab : (a = 7 ∧ b = 8) ∨ (a = 1 ∧ b = 9)) (hz : (toldR k a b hi i S).1 = 0) : Z7 1 (toldR k a b hi i S).2.2.2 := by
  unfold toldR at hz ⊢
  have h1 := ck_z hz
  rw [h1.2] at hz ⊢
  have h2 := ck_z hz
  rw [h2.2] at hz ⊢
  have h3 := ck_z hz
  rw [h3.2]
  have u := (belC_z h1.1).2
  show Z7 1 (uI (uI S b (k 2 i) 1) a (8 * S 0 1 + k 2 i) (k 2 (i + 1)))
  rcases hab with ⟨rfl, rfl⟩ | ⟨rfl, rfl⟩
  · refine ⟨h.1, h.2.1, fun p s p0 p1 s0 s1 => ?_⟩
    have e : uI (uI S 8 (k 2 i) 1) 7 (8 * S 0 1 + k 2 i) (k 2 (i + 1)) 7 = u1 (S 7) (8 * S 0 1 + k 2 i) (k 2 (i + 1)) := by rw [uI_eq, uI_ne (by decide)]
    have s0' : S 0 2 ≤ s := s0
    rw [e, u1_ne (by omega)]
    exact h.2.2 p s p0 p1 s0 s1
  · exact h.eq rfl rfl rfl
theorem pair_z {k : Tn} {i : Int} {S : Tn} (h : Z7 1 S) (hz : (pairR k i S).1 = 0) : Z7 1 (pairR k i S).2.2.2 := by
  unfold pairR at hz ⊢
  have h1 := ck_z hz
  rw [h1.2] at hz ⊢
  have h2 := ck_z hz
  rw [h2.2] at hz ⊢
  have h3 := ck_z hz
  rw [h3.2] at hz ⊢
  have h4 := ck_z hz
  rw [h4.2] at hz ⊢
  have h5 := ck_z hz
  rw [h5.2]
  exact h.eq rfl rfl rfl
theorem fall_z {k : Tn} {i : Int} {S : Tn} (h : Z7 1 S) (hz : (fallR k i S).1 = 0) : Z7 1 (fallR k i S).2.2.2 := by
  unfold fallR at hz ⊢
  have h1 := ck_z hz
  rw [h1.2] at hz ⊢
  have h2 := ck_z hz
  rw [h2.2]
  exact h.eq rfl rfl rfl
theorem per_z {k : Tn} : ∀ (f : Nat) (i : Int) (S : Tn), Z7 1 S → (perR k f i S).1 = 0 → Z7 0 (perR k f i S).2.2.2
  | 0, i, S, _, h => absurd h (by show ¬ (9 : Int) = 0; decide)
  | f + 1, i, S, hS, h => by
    unfold perR at h ⊢
    by_cases h6 : k 0 i = 6
    · rw [if_pos h6] at h ⊢
      have h1 := bn_z h
      rw [h1.2] at h ⊢
      exact per_z f _ _ (told_z hS (Or.inl ⟨rfl, rfl⟩) h1.1) h
    rw [if_neg h6] at h ⊢
    by_cases h7 : k 0 i = 7
    · rw [if_pos h7] at h ⊢
      have h1 := bn_z h
      rw [h1.2] at h ⊢
      exact per_z f _ _ (told_z hS (Or.inr ⟨rfl, rfl⟩) h1.1) h
    rw [if_neg h7] at h ⊢
    by_cases h8 : k 0 i = 8
    · rw [if_pos h8] at h ⊢
      have h1 := bn_z h
      rw [h1.2] at h ⊢
      exact per_z f _ _ (pair_z hS h1.1) h
    rw [if_neg h8] at h ⊢
    by_cases h9 : k 0 i = 9
    · rw [if_pos h9] at h ⊢
      have h1 := bn_z h
      rw [h1.2] at h ⊢
      exact per_z f _ _ (fall_z hS h1.1) h
    rw [if_neg h9] at h ⊢
    rw [sgnR_w h]
    have e1 : uI S 0 1 (S 0 1 + 1) 0 1 = S 0 1 + 1 := by rw [uI_eq, u1_eq]
    have e2 : uI S 0 1 (S 0 1 + 1) 0 2 = S 0 2 := by rw [uI_eq, u1_ne (by decide)]
    have e7 : uI S 0 1 (S 0 1 + 1) 7 = S 7 := uI_ne (by decide)
    unfold Z7
    rw [e1, e2, e7, Int.add_zero]
    exact ⟨by have := hS.1; omega, hS.2.1, hS.2.2⟩
theorem Z7.new {S : Tn} (h : Z7 0 S) : Z7 1 (newP S) := by
  have n0 : newP S 0 = S 0 := by
    funext c
    unfold newP
    rw [if_neg (by omega), if_neg (by omega), if_neg (by omega)]
  unfold Z7
  rw [n0]
  refine ⟨h.1, h.2.1, fun p s p0 p1 s0 s1 => ?_⟩
  have a := h.2.1
  unfold newP
  by_cases q : p = S 0 1
  · rw [if_pos ⟨Or.inl rfl, by omega, by omega⟩]
  · rw [if_neg (by omega), if_neg (by omega), if_neg (by omega)]
    exact h.2.2 p s p0 (by omega) s0 s1
theorem sgn_z {k : Tn} {i : Int} {S : Tn} (hS : Z7 0 S) (h : (sgnR k i S).1 = 0) : Z7 0 (sgnR k i S).2.2.2 := by
  rw [sgnR_w h]
  exact hS
theorem bur_z {k : Tn} {i : Int} {S : Tn} (hS : Z7 0 S) (h : (burR k i S).1 = 0) : Z7 0 (burR k i S).2.2.2 := by
  unfold burR at h ⊢
  split at h
  · next q =>
    rw [if_pos q]
    exact sgn_z (hS.eq rfl rfl rfl) h
  · next q =>
    rw [if_neg q]
    exact sgn_z hS h
theorem spo_z {k : Tn} {i : Int} {S : Tn} (hS : Z7 0 S) (h : (spoR k i S).1 = 0) : Z7 0 (spoR k i S).2.2.2 := by
  unfold spoR at h ⊢
  split at h
  · next q =>
    rw [if_pos q]
    have h1 := ck_z h
    rw [h1.2] at h ⊢
    exact bur_z (hS.eq rfl rfl rfl) h
  · next q =>
    rw [if_neg q]
    exact bur_z hS h
theorem law_z {k : Tn} {i : Int} {S : Tn} (hS : Z7 0 S) (h : (lawR k i S).1 = 0) : Z7 0 (lawR k i S).2.2.2 := by
  unfold lawR at h ⊢
  have h1 := ck_z h
  rw [h1.2] at h ⊢
  have h2 := ck_z h
  rw [h2.2] at h ⊢
  exact spo_z (hS.eq rfl rfl rfl) h
theorem tie_z {k : Tn} {i : Int} {S : Tn} (hS : Z7 0 S) (hz : (tieR k i S).1 = 0) : Z7 0 (tieR k i S).2.2.2 := by
  unfold tieR at hz ⊢
  have h1 := ck_z hz
  rw [h1.2] at hz ⊢
  have h2 := ck_z hz
  rw [h2.2] at hz ⊢
  have h3 := ck_z hz
  rw [h3.2] at hz ⊢
  have h4 := ck_z hz
  rw [h4.2] at hz ⊢
  have h5 := ck_z hz
  rw [h5.2] at hz ⊢
  exact sgn_z (hS.eq rfl rfl rfl) hz
theorem meet_z {k : Tn} {i : Int} {S : Tn} (hS : Z7 0 S) (hz : (meetR k i S).1 = 0) : Z7 0 (meetR k i S).2.2.2 := by
  unfold meetR at hz ⊢
  have h1 := ck_z hz
  rw [h1.2] at hz ⊢
  have h2 := ck_z hz
  rw [h2.2] at hz ⊢
  have h3 := ck_z hz
  rw [h3.2] at hz ⊢
  have h4 := ck_z hz
  rw [h4.2] at hz ⊢
  exact sgn_z (hS.eq rfl rfl rfl) hz
theorem sort_z {k : Tn} {l i : Int} {S : Tn} (hS : l = 0 → S = iniR) (hz : (sortR k l i S).1 = 0) : Z7 0 (sortR k l i S).2.2.2 := by
  unfold sortR at hz ⊢
  have h1 := ck_z hz
  rw [h1.2] at hz ⊢
  have h2 := ck_z hz
  rw [h2.2] at hz ⊢
  rw [sgnR_w hz]
  have u2 := (numC_z h2.1).2
  have l0 : l = 0 := Classical.byContradiction (fun q => by rw [if_neg q] at h1; exact absurd h1.1 (by decide))
  rw [hS l0]
  have e2 : uI iniR 0 2 (k 2 i) 0 2 = k 2 i := by rw [uI_eq, u1_eq]
  have e1 : uI iniR 0 2 (k 2 i) 0 1 = 0 := by rw [uI_eq, u1_ne (by decide)]; rfl
  unfold Z7
  rw [e1, e2]
  exact ⟨Int.le_refl _, u2.1, fun p s p0 p1 => by omega⟩
theorem line_z {k : Tn} {l i : Int} {S : Tn} (hS : Z7 0 S) (hl : l = 0 → S = iniR) (h : (lineR k l i S).1 = 0) : Z7 0 (lineR k l i S).2.2.2 := by
  unfold lineR at h ⊢
  by_cases h4 : k 0 i = 4
  · rw [if_pos h4] at h ⊢; exact sort_z hl h
  rw [if_neg h4] at h ⊢
  by_cases h5 : k 0 i = 5
  · rw [if_pos h5] at h ⊢
    unfold persR at h ⊢
    have h1 := ck_z h
    rw [h1.2] at h ⊢
    exact per_z _ _ _ hS.new h
  rw [if_neg h5] at h ⊢
  by_cases h10 : k 0 i = 10
  · rw [if_pos h10] at h ⊢; exact law_z hS h
  rw [if_neg h10] at h ⊢
  by_cases h13 : k 0 i = 13
  · rw [if_pos h13] at h ⊢; exact tie_z hS h
  rw [if_neg h13] at h ⊢
  by_cases h14 : k 0 i = 14
  · rw [if_pos h14] at h ⊢; exact meet_z hS h
  rw [if_neg h14] at h
  exact absurd h (by show ¬ (1 : Int) = 0; decide)
theorem town_z {k : Tn} : ∀ (f : Nat) (l i : Int) (S : Tn), 0 ≤ l → Z7 0 S → (l = 0 → S = iniR) → (townR k f l i S).1 = 0 → Z7 0 (townR k f l i S).2.2.2
  | 0, _, _, _, _, _, _, h => absurd h (by show ¬ (9 : Int) = 0; decide)
  | f + 1, l, i, S, hl0, hS, hl, h => by
    unfold townR at h ⊢
    by_cases h0 : k 0 i = 0
    · rw [if_pos h0]; exact hS
    rw [if_neg h0] at h ⊢
    have h1 := bn_z h
    rw [h1.2] at h ⊢
    exact town_z f (l + 1) _ _ (by omega) (line_z hS hl h1.1) (fun q => by omega) h
theorem par_z {k : Tn} (h : (parR k).1 = 0) : Z7 0 (parR k).2.2.2 := town_z _ _ _ _ (Int.le_refl 0) ⟨Int.le_refl _, by show (1 : Int) ≤ 1; decide, fun p s p0 p1 => by change p < 0 at p1; omega⟩ (fun _ => rfl) h
theorem row_of {S T : Tn} {r : Rw} (hG : WG 0 S) (hZ : Z7 0 S) (h1 : T 0 1 = S 0 1) (h2 : T 0 2 = S 0 2) (hr : ∀ c, 0 ≤ c → c < 48 → r c = if c < 8 * S 0 1 then S 7 c else 0) : RW T r := by
  obtain ⟨⟨a1, a2, -⟩, -, -, b7, -⟩ := hG
  rw [Int.add_zero] at b7
  have hb : ∀ c, 0 ≤ c → c < 48 → 0 ≤ r c ∧ r c ≤ 20 := fun c c0 c1 => by
    rw [hr c c0 c1]
    split
    · next q => exact b7 c c0 q
    · decide
  refine ⟨fun c c0 c1 => (hb c c0 c1).1, fun p s p0 p1 s0 s1 ho => ?_, ?_⟩
  · rw [hr _ (by omega) (by omega)]
    split
    · next q => exact hZ.2.2 p s p0 (by omega) (by omega) s1
    · rfl
  · have := sumN_bd (f := r) (n := 48) (lo := 0) (hi := 20) (by decide) hb
    omega
/-- the town that the reference holds -/
def rdT (K : Mem) : Tn := fun a k => if a = 0 then K 91 k else K (91 + a) k
theorem rd_MT (K : Mem) : MT K (rdT K) := ⟨fun _ _ _ => rfl, rfl, rfl, rfl, rfl, rfl, rfl⟩
section
variable {K : Mem} {S : Tn}
theorem MSt.k (h : MSt K S) {k : Int} (h1 : 1 ≤ k := by decide) (h7 : k ≤ 7 := by decide) : rdT K 0 k = S 0 k := h.1 k h1 h7
theorem MSt.wf (h : MSt K S) (hS : WF S) : WF (rdT K) := by
  obtain ⟨m0, m1, m2, m4, m5, m6, -⟩ := id h
  obtain ⟨a1, a2, a3, a4, a5, a6, a7, b1, b2, b3, b4, b5, b6, b7, b8⟩ := hS
  have e1 : ∀ c, rdT K 1 c = K 92 c := fun _ => rfl
  have e2 : ∀ c, rdT K 2 c = K 93 c := fun _ => rfl
  have e3 : ∀ c, rdT K 3 c = K 94 c := fun _ => rfl
  have e4 : ∀ c, rdT K 4 c = K 95 c := fun _ => rfl
  have e5 : ∀ c, rdT K 5 c = K 96 c := fun _ => rfl
  have e6 : ∀ c, rdT K 6 c = K 97 c := fun _ => rfl
  have f5 : ∀ t, 0 ≤ t → t < S 0 5 → K 96 (3 * t) = S 5 (3 * t) := fun t t0 t1 => by have := m5 t 0 t0 t1 (by decide) (by decide); rwa [Int.add_zero] at this
  have f6 : ∀ t, 0 ≤ t → t < S 0 6 → K 97 (2 * t) = S 6 (2 * t) := fun t t0 t1 => by have := m6 t 0 t0 t1 (by decide) (by decide); rwa [Int.add_zero] at this
  unfold WF
  simp only [e1, e2, e3, e4, e5, e6]
  rw [h.k, h.k, h.k, h.k, h.k, h.k, h.k]
  refine ⟨a1, a2, a3, a4, a5, a6, a7, fun p s p0 p1 s0 s1 => ?_, fun p p0 p1 => ?_, fun p p0 p1 => ?_, fun p k p0 p1 k0 k1 => ?_, fun t j t0 t1 j0 j1 => ?_, fun t t0 t1 => ?_, fun m j n0 n1 j0 j1 => ?_, fun m n0 n1 => ?_⟩
  · rw [m1 _ (by omega) (by omega)]; exact b1 p s p0 p1 s0 s1
  · rw [(m2 p p0 p1).1]; exact b2 p p0 p1
  · rw [(m2 p p0 p1).2]; exact b3 p p0 p1
  · rw [(m2 p p0 p1).2] at k1
    have q0 := m4 p k 0 p0 p1 k0 k1 (by decide) (by decide)
    rw [Int.add_zero] at q0
    rw [q0, m4 p k 1 p0 p1 k0 k1 (by decide) (by decide), m4 p k 2 p0 p1 k0 k1 (by decide) (by decide)]
    exact b4 p k p0 p1 k0 k1
  · rw [m5 t j t0 t1 j0 j1]; exact b5 t j t0 t1 j0 j1
  · rw [f5 t t0 t1, m5 t 1 t0 t1 (by decide) (by decide), m5 t 2 t0 t1 (by decide) (by decide)]; exact b6 t t0 t1
  · rw [m6 m j n0 n1 j0 j1]; exact b7 m j n0 n1 j0 j1
  · rw [f6 m n0 n1, m6 m 1 n0 n1 (by decide) (by decide)]; exact b8 m n0 n1
theorem MSt.ca (h : MSt K S) {J : Mem} {t : Nat} (hc : CR J t S 0) (hb : WG 0 S) : CA J t (rdT K) := by
  obtain ⟨m0, m1, m2, m4, m5, m6, -⟩ := id h
  obtain ⟨ca, -, cc, cd, ce, cf, cg, -, -⟩ := hc
  have n1 := hb.1.1
  have f5 : ∀ t, 0 ≤ t → t < S 0 5 → K 96 (3 * t) = S 5 (3 * t) := fun t t0 t1 => by have := m5 t 0 t0 t1 (by decide) (by decide); rwa [Int.add_zero] at this
  have f6 : ∀ t, 0 ≤ t → t < S 0 6 → K 97 (2 * t) = S 6 (2 * t) := fun t t0 t1 => by have := m6 t 0 t0 t1 (by decide) (by decide); rwa [Int.add_zero] at this
  have e1 : ∀ c, rdT K 1 c = K 92 c := fun _ => rfl
  have e2 : ∀ c, rdT K 2 c = K 93 c := fun _ => rfl
  have e3 : ∀ c, rdT K 3 c = K 94 c := fun _ => rfl
  have e4 : ∀ c, rdT K 4 c = K 95 c := fun _ => rfl
  have e5 : ∀ c, rdT K 5 c = K 96 c := fun _ => rfl
  have e6 : ∀ c, rdT K 6 c = K 97 c := fun _ => rfl
  unfold CA
  simp only [e1, e2, e3, e4, e5, e6]
  rw [h.k, h.k, h.k, h.k]
  refine ⟨by rw [ca.1, Int.add_zero], ca.2.1, ca.2.2.1, ca.2.2.2, fun c c0 c1 => ?_, fun p p0 p1 => ?_, fun p k p0 p1 k0 k1 => ?_, fun x x0 x1 => ?_, fun m n0 n1 => ?_⟩
  · rw [(cc c c0 (by omega)).1, m1 c c0 c1]
  · rw [(cd p p0 (by omega)).1, (cd p p0 (by omega)).2, (m2 p p0 p1).1, (m2 p p0 p1).2]; exact ⟨rfl, rfl⟩
  · rw [(m2 p p0 p1).2] at k1
    have q := ce p k p0 (by omega) k0 k1
    have q0 := m4 p k 0 p0 p1 k0 k1 (by decide) (by decide)
    rw [Int.add_zero] at q0
    rw [q0, m4 p k 1 p0 p1 k0 k1 (by decide) (by decide), m4 p k 2 p0 p1 k0 k1 (by decide) (by decide)]
    exact q
  · rw [f5 x x0 x1, m5 x 1 x0 x1 (by decide) (by decide), m5 x 2 x0 x1 (by decide) (by decide)]; exact cf x x0 x1
  · rw [f6 m n0 n1, m6 m 1 n0 n1 (by decide) (by decide)]; exact cg m n0 n1
theorem CL.cg {J : Mem} {l : Nat} {T : Tn} (h : CL J l S) (e2 : T 0 2 = S 0 2) (e3 : T 0 3 = S 0 3) (e4 : T 0 4 = S 0 4) (e7 : T 0 7 = S 0 7) : CL J l T := by
  have hN : OFN T = OFN S := by unfold OFN; rw [e2, e3]
  have hO : OF T = OF S := by funext o j; unfold OF; rw [e2, e3]
  unfold CL CLo askS keepS at h ⊢
  rw [hN, hO, e3, e4, e7]
  exact h
theorem MSt.cl (h : MSt K S) {J : Mem} {l : Nat} (hc : CL J l S) : CL J l (rdT K) := hc.cg h.k h.k h.k h.k
end
