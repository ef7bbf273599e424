/-! ===== the reference: a person's line, other lines ===== -/
theorem numC_z {k : Tn} {lo hi i : Int} (h : numC k lo hi i = 0) : k 0 i = 2 ∧ lo ≤ k 2 i ∧ k 2 i ≤ hi := by
  unfold numC at h
  split at h
  · exact absurd h (by decide)
  · next q =>
    split at h
    · next q2 => exact ⟨Decidable.not_not.mp q, q2⟩
    · exact absurd h (by decide)
theorem belC_z {k : Tn} {m i : Int} (h : belC k m i = 0) : k 0 i = 2 ∧ 0 ≤ k 2 i ∧ k 2 i < m := by
  unfold belC at h
  split at h
  · exact absurd h (by decide)
  · next q =>
    split at h
    · exact absurd h (by decide)
    · split at h
      · exact ⟨Decidable.not_not.mp q, by omega, by assumption⟩
      · exact absurd h (by decide)
theorem ck_z {c p : Int} {S : Tn} {r : Rs} (h : (ckR c p S r).1 = 0) : c = 0 ∧ ckR c p S r = r := by
  by_cases q : c = 0
  · exact ⟨q, ckR_0 q⟩
  · rw [ckR_1 q] at h; exact absurd h q
theorem tok_lt {tp : Rw} {n i : Int} (hn : 0 ≤ n) (hi : 0 ≤ i) (h : tkS tp n 0 i = 2) : i < n := (tk_lt hn hi (by rw [h]; decide)).2
theorem toldR_ok {tp : Rw} {n : Int} {a b : Nat} {m i : Int} {S : Tn} (hn : 0 ≤ n) (hi : 0 ≤ i) (h : (toldR (tkS tp n) a b m i S).1 = 0) : (toldR (tkS tp n) a b m i S).2.2.1 = i + 2 ∧ i + 1 < n := by
  unfold toldR at h ⊢
  have h1 := ck_z h
  rw [h1.2] at h ⊢
  have h2 := ck_z h
  rw [h2.2] at h ⊢
  have h3 := ck_z h
  rw [h3.2] at h ⊢
  exact ⟨rfl, tok_lt hn (by omega) (numC_z h3.1).1⟩
theorem pairR_ok {tp : Rw} {n : Int} {i : Int} {S : Tn} (hn : 0 ≤ n) (hi : 0 ≤ i) (h : (pairR (tkS tp n) i S).1 = 0) : (pairR (tkS tp n) i S).2.2.1 = i + 3 ∧ i + 2 < n := by
  unfold pairR at h ⊢
  have h1 := ck_z h
  rw [h1.2] at h ⊢
  have h2 := ck_z h
  rw [h2.2] at h ⊢
  have h3 := ck_z h
  rw [h3.2] at h ⊢
  have h4 := ck_z h
  rw [h4.2] at h ⊢
  have h5 := ck_z h
  rw [h5.2] at h ⊢
  exact ⟨rfl, tok_lt hn (by omega) (numC_z h5.1).1⟩
theorem fallR_ok {tp : Rw} {n : Int} {i : Int} {S : Tn} (hn : 0 ≤ n) (hi : 0 ≤ i) (h : (fallR (tkS tp n) i S).1 = 0) : (fallR (tkS tp n) i S).2.2.1 = i + 1 ∧ i < n := by
  unfold fallR at h ⊢
  have h1 := ck_z h
  rw [h1.2] at h ⊢
  have h2 := ck_z h
  rw [h2.2] at h ⊢
  exact ⟨rfl, tok_lt hn hi (numC_z h2.1).1⟩
/-- a line up to its sign -/
def PSG (K : Mem) (tp : Rw) (n : Int) (R : Rs) : Prop := (∃ j S', R = sgnR (tkS tp n) j S' ∧ 0 ≤ j ∧ GD K tp n j ∧ RLn K S') ∨ (R.1 ≠ 0 ∧ K 91 18 = R.1 ∧ K 91 19 = R.2.1)
theorem PSG.bad {K : Mem} {tp : Rw} {n i : Int} {R : Rs} {x : Int × Int} (h : RSt K tp n x i) (hx : x.1 ≠ 0) (hR : cpR R = x) : PSG K tp n R := by
  have h1 := cp_1 hR
  have h2 := (h.resolve_left (fun q => hx q.1)).2
  exact Or.inr ⟨by rw [h1.1]; exact hx, by rw [h1.1]; exact h2.1, by rw [h1.2]; exact h2.2⟩
abbrev paS : List Nat := [101, 102, 103, 104, 105, 106, 107, 108, 109, 110]
abbrev paF : List Int := [27, 28, 29, 30, 31, 32, 33, 34, 18, 19, 21, 22, 23, 24, 25, 26]
theorem newP_RP {K J : Mem} {S : Tn} (h : RLn K S) (h6 : S 0 1 < 6) (hf : Fr [101, 102, 103, 107, 108, 109, 110] pF K J) (h1 : ∀ s, 0 ≤ s → s < 8 → J 101 (8 * S 0 1 + s) = 0 ∧ J 107 (8 * S 0 1 + s) = 0 ∧ J 108 (8 * S 0 1 + s) = 0 ∧ J 109 (8 * S 0 1 + s) = 0) (h2 : ∀ c, c < 8 * S 0 1 → J 101 c = K 101 c ∧ J 107 c = K 107 c) (h3 : J 102 (S 0 1) = 0 ∧ J 103 (S 0 1) = 0 ∧ J 110 (S 0 1) = 0) (h4 : ∀ p, p < S 0 1 → J 102 p = K 102 p ∧ J 103 p = K 103 p) : RP J (newP S) := by
  obtain ⟨⟨m0, m1, m2, m3, m4, m5⟩, sb⟩ := h
  have kf : ∀ k : Int, 27 ≤ k → J 91 k = K 91 k := fun k k0 => hf.2 k (fun q => by
    have : ∀ x ∈ pF, x < 27 := by decide
    have := this k q
    omega)
  have ka : ∀ x, 104 ≤ x → x ≤ 106 → J x = K x := fun x x0 x1 => hf.1 x (by omega) (fun q => by simp at q; omega)
  have s0 : ∀ x, x ≠ 7 → x ≠ 1 → x ≠ 8 → x ≠ 9 → x ≠ 10 → x ≠ 2 → x ≠ 3 → newP S x = S x := fun x a1 a2 a3 a4 a5 a6 a7 => by
    funext c
    unfold newP
    rw [if_neg (by omega), if_neg (by omega), if_neg (by omega)]
  have s00 : newP S 0 = S 0 := s0 0 (by decide) (by decide) (by decide) (by decide) (by decide) (by decide) (by decide)
  have s11 : newP S 11 = S 11 := s0 11 (by decide) (by decide) (by decide) (by decide) (by decide) (by decide) (by decide)
  have s4 : newP S 4 = S 4 := s0 4 (by decide) (by decide) (by decide) (by decide) (by decide) (by decide) (by decide)
  have s5 : newP S 5 = S 5 := s0 5 (by decide) (by decide) (by decide) (by decide) (by decide) (by decide) (by decide)
  have s6 : newP S 6 = S 6 := s0 6 (by decide) (by decide) (by decide) (by decide) (by decide) (by decide) (by decide)
  have t0 : ∀ a c, a = 8 ∨ a = 9 ∨ a = 10 → newP S a c = 0 := fun a c h => by
    unfold newP
    rw [if_neg (by omega), if_pos h]
  have t1 : ∀ a c, a = 7 ∨ a = 1 → newP S a c = if 8 * S 0 1 ≤ c ∧ c < 8 * S 0 1 + 8 then 0 else S a c := fun a c h => by
    unfold newP
    by_cases q : 8 * S 0 1 ≤ c ∧ c < 8 * S 0 1 + 8
    · rw [if_pos ⟨h, q⟩, if_pos q]
    · rw [if_neg (fun z => q z.2), if_neg q, if_neg (by omega), if_neg (by omega)]
  have t2 : ∀ a c, a = 2 ∨ a = 3 → newP S a c = if c = S 0 1 then 0 else S a c := fun a c h => by
    unfold newP
    rw [if_neg (by omega), if_neg (by omega)]
    by_cases q : c = S 0 1
    · rw [if_pos ⟨h, q⟩, if_pos q]
    · rw [if_neg (fun z => q z.2), if_neg q]
  obtain ⟨sb1, sb2, sb3, sb4, sb5, sb6, sb7, sb8, sb9⟩ := sb
  refine ⟨⟨?_, ?_, ?_, ?_, ?_, ?_⟩, ?_, ?_, ?_, ?_⟩
  · rw [kf 27 (by decide), kf 28 (by decide), kf 29 (by decide), kf 30 (by decide), kf 31 (by decide), kf 32 (by decide), kf 33 (by decide), kf 34 (by decide), s00, s11]; exact m0
  · intro c c0 c1
    rw [s00] at c1
    rw [t1 1 c (Or.inr rfl), t1 7 c (Or.inl rfl)]
    by_cases q : 8 * S 0 1 ≤ c ∧ c < 8 * S 0 1 + 8
    · rw [if_pos q, if_pos q]
      have := h1 (c - 8 * S 0 1) (by omega) (by omega)
      rw [show 8 * S 0 1 + (c - 8 * S 0 1) = c by omega] at this
      exact ⟨this.1, this.2.1⟩
    · rw [if_neg q, if_neg q, (h2 c (by omega)).1, (h2 c (by omega)).2]
      exact m1 c c0 (by omega)
  · intro p p0 p1
    rw [s00] at p1
    rw [t2 2 p (Or.inl rfl), t2 3 p (Or.inr rfl)]
    by_cases q : p = S 0 1
    · rw [if_pos q, if_pos q, q]; exact ⟨h3.1, h3.2.1⟩
    · rw [if_neg q, if_neg q, (h4 p (by omega)).1, (h4 p (by omega)).2]
      exact m2 p p0 (by omega)
  · intro p k j p0 p1 k0 k1 j0 j1
    rw [s00] at p1
    rw [t2 3 p (Or.inr rfl)] at k1
    rw [ka 104 (by decide) (by decide), s4]
    split at k1
    · omega
    · exact m3 p k j p0 (by omega) k0 k1 j0 j1
  · rw [ka 105 (by decide) (by decide), s00, s5]; exact m4
  · rw [ka 106 (by decide) (by decide), s00, s6]; exact m5
  · refine ⟨by rw [s00]; exact sb1, by rw [s00]; exact sb2, by rw [s00]; exact sb3, by rw [s00]; exact sb4, fun p => ?_, fun s => ⟨Or.inl (t0 8 s (by omega)), Or.inl (t0 9 s (by omega))⟩, Or.inl (t0 10 0 (by omega)), by rw [s11]; exact sb8, by rw [s00]; exact sb9⟩
    rw [t2 3 p (Or.inr rfl)]
    split
    · exact ⟨by decide, by decide⟩
    · exact sb5 p
  · rw [s00]; exact h6
  · intro s s0' s1
    rw [s00, t0 8 s (by omega), t0 9 s (by omega)]
    exact (h1 s s0' s1).2.2
  · rw [s00, t0 10 0 (by omega)]; exact h3.2.2
section
variable {G : HX} {d : Nat} {I : Mem} {P : Ptr} {T : Tn}
theorem c_X12_readsPerson {tp : Rw} {n i : Int} {S : Tn} (hW : WP P) (hi0 : 0 ≤ i) (hin : i < n) (hG : GD I tp n i) (hS : RLn I S) : Cv G mX12_readsPerson (d + 4) 0 0 [.inr (.inl 91)] NO I P (qV (fun n' I' P' => n' = NO ∧ P' = P ∧ Fr paS paF I I' ∧ PSG I' tp n (persR (tkS tp n) (i + 1) S))) := by
  have e27 : I 91 27 = S 0 1 := hS.1.1.1
  have f1 := hS.2.1
  have hn : 0 ≤ n ∧ n ≤ 700 := hG.2.2.1.2.1
  have hR0 : RSt I tp n (0, 0) i := RSt.o rfl hG
  obtain ⟨c0, hc0⟩ : ∃ c0 : Int × Int, c0 = (if S 0 1 = 6 then 2 else 0, tkS tp n 1 i) := ⟨_, rfl⟩
  have hpr : persR (tkS tp n) (i + 1) S = ckR c0.1 c0.2 S (perR (tkS tp n) 800 (i + 1) (newP S)) := by unfold persR; rw [hc0, show i + 1 - 1 = i by omega]
  refine x_enter mfX12_readsPerson rfl (Nat.le_of_ble_eq_true rfl) (fun _ => ?_)
  have hEnd : ∀ (K : Mem) (j : Int) (S' : Tn), persR (tkS tp n) (i + 1) S = sgnR (tkS tp n) j (uI S' 0 1 (S' 0 1 + 1)) → 0 ≤ j → GD K tp n j → RP K S' → Fr paS paF I K → V G mX12_readsPerson (d + 4) 0 0 132 [some (.inr (.inl 91)), some (.inl (0))] [] NO K P (qV (fun n' I' P' => n' = NO ∧ P' = P ∧ Fr paS paF I I' ∧ PSG I' tp n (persR (tkS tp n) (i + 1) S))) := fun K j S' hZ hj0 hG hS hFr => by
    have hRg : RSt K tp n (0, 0) j := RSt.o rfl hG
    obtain ⟨hm, hsb, h6, h8, h10⟩ := id hS
    have k27 : K 91 27 = S' 0 1 := hm.1.1
    refine x_iload_n (i := 1) dX12_readsPerson_132 rfl rfl ?_
    refine x_if_eq (tgt := 286) dX12_readsPerson_133 rfl (fun h133 => ?_) (fun h133 => ?_)
    · refine y_aln (i := 0) dX12_readsPerson_286 at91.ne0 rfl rfl ?_
      refine x_callVI (c_X12_isGood hW hRg) dX12_readsPerson_287 lkX12_238 mfX12_isGood cfX12 at91 rfl rfl rfl rfl (Nat.le_of_ble_eq_true rfl) (fun r287 I287 P287 hr287 hf287 => ?_)
      obtain ⟨i287, p287, q287⟩ := hf287
      rw [i287, p287]
      refine x_if_eq (tgt := 303) dX12_readsPerson_290 rfl (fun h290 => ?_) (fun h290 => ?_)
      · exact absurd rfl (q287.resolve_left (fun q => by have := q.1; omega)).2
      · refine y_aln (i := 0) dX12_readsPerson_293 at91.ne0 rfl rfl ?_
        refine x_dup dX12_readsPerson_294 rfl ?_
        refine y_geti (z := 27) dX12_readsPerson_295 frX12_254 cfX12 at91 rfl rfl ?_
        refine y_ic dX12_readsPerson_298 ⟨by decide, by decide⟩ ?_
        refine x_iadd dX12_readsPerson_299 (by rw [k27]; have := hsb.1; exact ⟨by omega, by omega⟩) ?_
        refine y_puti (z := 27) dX12_readsPerson_300 frX12_254 cfX12 at91 rfl rfl rfl ?_
        refine x_vret dX12_readsPerson_303 rfl ?_
        rw [k27]
        have fJ : Fr [] [27] K (uI K 91 27 (S' 0 1 + 1)) := Fr.rf.uf (by decide)
        refine ⟨rfl, rfl, hFr.tr (fJ.mo (by decide) (by decide)), Or.inl ⟨j, uI S' 0 1 (S' 0 1 + 1), hZ, hj0, hG.fr fJ, ?_⟩⟩
        have e0 : ∀ k : Int, k ≠ 1 → uI S' 0 1 (S' 0 1 + 1) 0 k = S' 0 k := fun k hk => by rw [uI_eq, u1_ne hk]
        have e1 : uI S' 0 1 (S' 0 1 + 1) 0 1 = S' 0 1 + 1 := by rw [uI_eq, u1_eq]
        have ea : ∀ x, x ≠ 0 → uI S' 0 1 (S' 0 1 + 1) x = S' x := fun x hx => uI_ne hx
        have eb : ∀ k : Int, k ≠ 27 → uI K 91 27 (S' 0 1 + 1) 91 k = K 91 k := fun k hk => by rw [uI_eq, u1_ne hk]
        have ec : ∀ x, x ≠ 91 → uI K 91 27 (S' 0 1 + 1) x = K x := fun x hx => uI_ne hx
        obtain ⟨m0, m1, m2, m3, m4, m5⟩ := hm
        obtain ⟨sb1, sb2, sb3, sb4, sb5, sb6, sb7, sb8, sb9⟩ := hsb
        refine ⟨⟨?_, ?_, ?_, ?_, ?_, ?_⟩, ?_⟩
        · rw [eb 28 (by decide), eb 29 (by decide), eb 30 (by decide), eb 31 (by decide), eb 32 (by decide), eb 33 (by decide), eb 34 (by decide), e1, e0 2 (by decide), e0 3 (by decide), e0 4 (by decide), e0 5 (by decide), e0 6 (by decide), e0 7 (by decide), ea 11 (by decide), uI_eq, u1_eq]
          exact ⟨rfl, m0.2⟩
        · rw [e1, ec 101 (by decide), ec 107 (by decide), ea 1 (by decide), ea 7 (by decide)]; exact m1
        · rw [e1, ec 102 (by decide), ec 103 (by decide), ea 2 (by decide), ea 3 (by decide)]; exact m2
        · rw [e1, ec 104 (by decide), ea 3 (by decide), ea 4 (by decide)]; exact m3
        · rw [ec 105 (by decide), e0 5 (by decide), ea 5 (by decide)]; exact m4
        · rw [ec 106 (by decide), e0 6 (by decide), ea 6 (by decide)]; exact m5
        · unfold SB
          rw [e1, e0 2 (by decide), e0 5 (by decide), e0 6 (by decide), e0 7 (by decide), ea 3 (by decide), ea 8 (by decide), ea 9 (by decide), ea 10 (by decide), ea 11 (by decide)]
          exact ⟨by omega, sb2, sb3, sb4, sb5, sb6, sb7, sb8, sb9⟩
    · exact absurd rfl h133
  have hL : ∀ (f : Nat) (j : Int) (K : Mem) (S' : Tn), persR (tkS tp n) (i + 1) S = perR (tkS tp n) f j S' → n - j < (f : Int) → (0 ≤ j ∧ j ≤ n) → GD K tp n j → RP K S' → Fr paS paF I K → V G mX12_readsPerson (d + 4) 0 0 132 [some (.inr (.inl 91)), some (.inl (1))] [] NO K P (qV (fun n' I' P' => n' = NO ∧ P' = P ∧ Fr paS paF I I' ∧ PSG I' tp n (persR (tkS tp n) (i + 1) S))) := by
    intro f
    induction f with
    | zero => intro j K S' hZ hf hj; omega
    | succ f ih =>
      intro j K S' hZ hf hj hG hS hFr
      have hRg : RSt K tp n (0, 0) j := RSt.o rfl hG
      have hKR := hG.2.2.2.2.2
      have g1 := hS.2.1.1
      have g6 := hS.2.2.1
      have k27 : K 91 27 = S' 0 1 := hS.1.1.1
      have k110 : K 110 (S' 0 1) = S' 10 0 := hS.2.2.2.2
      have g10 := hS.2.1.2.2.2.2.2.2.1
      have hgo : ∀ (R : Rs) (K' : Mem), (R.1 = 0 → R.2.2.1 ≤ n ∧ j + 1 ≤ R.2.2.1) → persR (tkS tp n) (i + 1) S = bnR R (perR (tkS tp n) f) → RES RP K' tp n R → Fr paS paF I K' → V G mX12_readsPerson (d + 4) 0 0 132 [some (.inr (.inl 91)), some (.inl (1))] [] NO K' P (qV (fun n' I' P' => n' = NO ∧ P' = P ∧ Fr paS paF I I' ∧ PSG I' tp n (persR (tkS tp n) (i + 1) S))) := fun R K' hb hR hres hFr' => by
        rcases hres with ⟨r0, r1, r2⟩ | ⟨r0, r1, r2⟩
        · rw [bnR_0 r0] at hR
          have := hb r0
          exact ih R.2.2.1 K' R.2.2.2 hR (by omega) (by omega) r1 r2 hFr'
        · rw [bnR_1 r0] at hR
          have hRb : RSt K' tp n (R.1, R.2.1) 0 := Or.inr ⟨r0, r1, r2⟩
          refine x_iload_n (i := 1) dX12_readsPerson_132 rfl rfl ?_
          refine x_if_eq (tgt := 286) dX12_readsPerson_133 rfl (fun h133 => ?_) (fun h133 => ?_)
          · exact absurd h133 (by decide)
          · refine y_aln (i := 0) dX12_readsPerson_136 at91.ne0 rfl rfl ?_
            refine x_callVI (c_X12_isGood hW hRb) dX12_readsPerson_137 lkX12_238 mfX12_isGood cfX12 at91 rfl rfl rfl rfl (Nat.le_of_ble_eq_true rfl) (fun r137 I137 P137 hr137 hf137 => ?_)
            obtain ⟨i137, p137, q137⟩ := hf137
            rw [i137, p137]
            refine x_if_eq (tgt := 286) dX12_readsPerson_140 rfl (fun h140 => ?_) (fun h140 => ?_)
            · refine y_aln (i := 0) dX12_readsPerson_286 at91.ne0 rfl rfl ?_
              refine x_callVI (c_X12_isGood hW hRb) dX12_readsPerson_287 lkX12_238 mfX12_isGood cfX12 at91 rfl rfl rfl rfl (Nat.le_of_ble_eq_true rfl) (fun r287 I287 P287 hr287 hf287 => ?_)
              obtain ⟨i287, p287, q287⟩ := hf287
              rw [i287, p287]
              refine x_if_eq (tgt := 303) dX12_readsPerson_290 rfl (fun h290 => ?_) (fun h290 => ?_)
              · refine x_vret dX12_readsPerson_303 rfl ?_
                exact ⟨rfl, rfl, hFr', Or.inr (by rw [hR]; exact ⟨r0, r1, r2⟩)⟩
              · exact absurd (q287.resolve_right (fun q => by have := q.1; omega)).2 r0
            · exact absurd (q137.resolve_right (fun q => by have := q.1; omega)).2 r0
      have hF1 : tkS tp n 0 j = 9 → (∀ f', tkS tp n 0 j ≠ 6 ∧ tkS tp n 0 j ≠ 7 ∧ tkS tp n 0 j ≠ 8 ∧ f' = f → True) → ∀ (K' : Mem) (c : Int), c = (if S' 10 0 = 0 then 0 else 5) → RSt K' tp n (c, tkS tp n 1 j) j → Fr [] [18, 19] K K' → V G mX12_readsPerson (d + 4) 0 0 241 [some (.inr (.inl 91)), some (.inl (1))] [] NO K' P (qV (fun n' I' P' => n' = NO ∧ P' = P ∧ Fr paS paF I I' ∧ PSG I' tp n (persR (tkS tp n) (i + 1) S))) := fun hk _ K' c hc hRK hFr' => by
        have hZ9 : persR (tkS tp n) (i + 1) S = bnR (fallR (tkS tp n) (j + 1) S') (perR (tkS tp n) f) := by
          rw [hZ]
          unfold perR
          rw [if_neg (by omega), if_neg (by omega), if_neg (by omega), if_pos hk]
        have hfr : fallR (tkS tp n) (j + 1) S' = ckR c (tkS tp n 1 j) S' (ckR (numC (tkS tp n) 0 100 (j + 1)) (tkS tp n 1 (j + 1)) S' (okR (j + 2) (uI (uI S' 10 0 1) 2 (S' 0 1) (tkS tp n 2 (j + 1))))) := by
          unfold fallR
          rw [hc, show j + 1 - 1 = j by omega, show j + 1 + 1 = j + 2 by omega]
        have hF9 : ∀ K2 : Mem, Fr [] pF K K2 → c = 0 → ∀ (K3 : Mem) (v : Int), Fr [] pF (uI K2 110 (S' 0 1) 1) K3 → RSt K3 tp n (numC (tkS tp n) 0 100 (j + 1), tkS tp n 1 (j + 1)) (j + 1 + 1) → ((numC (tkS tp n) 0 100 (j + 1), tkS tp n 1 (j + 1)).1 = 0 → v = tkS tp n 2 (j + 1)) → RES RP (uI K3 102 (S' 0 1) v) tp n (fallR (tkS tp n) (j + 1) S') := fun K2 kf hc0 K3 v fr3 rs3 hv3 => by
          have hFJ : Fr [102, 110] pF K (uI K3 102 (S' 0 1) v) := (((kf.mo (by decide) (by decide)).ui (by decide) (by decide)).tr (fr3.mo (by decide) (by decide))).ui (by decide) (by decide)
          have fr9 : Fr [102] [] K3 (uI K3 102 (S' 0 1) v) := Fr.rf.ui (by decide) (by decide)
          have rsJ := rs3.fr fr9
          by_cases hz : numC (tkS tp n) 0 100 (j + 1) = 0
          · rw [hfr, ckR_0 hc0, ckR_0 hz]
            have hvv := hv3 hz
            rw [hvv] at hFJ rsJ ⊢
            refine Or.inl ⟨rfl, ?_, fallS_RP hS hFJ ?_ ?_⟩
            · have := rsJ.g hz
              rw [show j + 1 + 1 = j + 2 by omega] at this
              exact this
            · rw [uI_eq, fr3.1 102 (by decide) (by decide), uI_ne (by decide), kf.1 102 (by decide) (by decide)]
            · rw [uI_ne (by decide), fr3.1 110 (by decide) (by decide), uI_eq, kf.1 110 (by decide) (by decide)]
          · exact RES.bad rsJ hz (by rw [hfr, cp_ck, chk_0 hc0, cp_ck, chk_1 hz])
        have hok := fun (q : (fallR (tkS tp n) (j + 1) S').1 = 0) => fallR_ok (S := S') hn.1 (show 0 ≤ j + 1 by omega) q
        refine y_aln (i := 0) dX12_readsPerson_241 at91.ne0 rfl rfl ?_
        refine x_callVI (c_X12_isGood hW hRK) dX12_readsPerson_242 lkX12_238 mfX12_isGood cfX12 at91 rfl rfl rfl rfl (Nat.le_of_ble_eq_true rfl) (fun r242 I242 P242 hr242 hf242 => ?_)
        obtain ⟨i242, p242, q242⟩ := hf242
        rw [i242, p242]
        refine x_if_eq (tgt := 132) dX12_readsPerson_245 rfl (fun h245 => ?_) (fun h245 => ?_)
        · have hc1 : c ≠ 0 := (q242.resolve_left (fun q => by have := q.1; omega)).2
          have hRb : RES RP K' tp n (fallR (tkS tp n) (j + 1) S') := RES.bad hRK hc1 (by rw [hfr, cp_ck, chk_1 hc1])
          refine x_keep [1, 1] ?_
          first | exact hgo _ K' (fun q => by have := hok q; omega) hZ9 hRb (hFr.tr (hFr'.mo (by decide) (by decide))) | exact hgo _ _ (fun q => by have := hok q; omega) hZ9 (hF9 I249 kf hc0 I274 r274 fr274 rs274 hv274) (hFr.tr ((((kf.mo (by decide) (by decide)).ui (by decide) (by decide)).tr (fr274.mo (by decide) (by decide))).ui (by decide) (by decide)))
        · have hc0 : c = 0 := (q242.resolve_right (fun q => by have := q.1; omega)).2
          have hg := hRK.g hc0
          refine y_aln (i := 0) dX12_readsPerson_248 at91.ne0 rfl rfl ?_
          refine x_callVV (c_X12_goes hW hg.2.2.1 (by omega) hg.2.2.2.1) dX12_readsPerson_249 lkX12_242 mfX12_goes cfX12 at91 rfl rfl rfl rfl (Nat.le_of_ble_eq_true rfl) (fun n249 I249 P249 hf249 => ?_)
          obtain ⟨rfl, rfl, fr249, tk249⟩ := hf249
          have hg2 := hg.go fr249 tk249
          have kf : Fr [] pF K I249 := (hFr'.mo (by decide) (by decide)).tr (fr249.mo (by decide) (by decide))
          have y27 : I249 91 27 = S' 0 1 := (kf.2 27 (by decide)).trans k27
          refine y_aln (i := 0) dX12_readsPerson_252 at91.ne0 rfl rfl ?_
          refine y_getp (z := 44) (v := 110) dX12_readsPerson_253 frX12_78 cfX12 at91 rfl rfl (wp (v := 110) hW rfl rfl (by decide)) ?_
          refine y_aln (i := 0) dX12_readsPerson_256 at91.ne0 rfl rfl ?_
          refine y_geti (z := 27) dX12_readsPerson_257 frX12_254 cfX12 at91 rfl rfl ?_
          rw [y27]
          refine y_ic dX12_readsPerson_260 ⟨by decide, by decide⟩ ?_
          refine x_zast dX12_readsPerson_261 ar110 ⟨by omega, by omega⟩ (by omega) ?_
          refine y_aln (i := 0) dX12_readsPerson_262 at91.ne0 rfl rfl ?_
          refine y_getp (z := 36) (v := 102) dX12_readsPerson_263 frX12_53 cfX12 at91 rfl rfl (wp (v := 102) hW rfl rfl (by decide)) ?_
          refine y_aln (i := 0) dX12_readsPerson_266 at91.ne0 rfl rfl ?_
          refine y_geti (z := 27) dX12_readsPerson_267 frX12_254 cfX12 at91 rfl rfl ?_
          rw [uI_ne (by decide), y27]
          have hg3 : GD (uI I249 110 (S' 0 1) 1) tp n (j + 1) := hg2.fr (S := [110]) (F := []) (Fr.rf.ui (by decide) (by decide))
          refine y_aln (i := 0) dX12_readsPerson_270 at91.ne0 rfl rfl ?_
          refine y_ic dX12_readsPerson_271 ⟨by decide, by decide⟩ ?_
          refine y_bi dX12_readsPerson_272 ⟨by decide, by decide⟩ ?_
          refine x_callVI (c_X12_number (x := ((0 : Int), (0 : Int))) hW (by omega) (RSt.o rfl hg3) (by decide)) dX12_readsPerson_274 lkX12_257 mfX12_number cfX12 at91 rfl rfl rfl rfl (Nat.le_of_ble_eq_true rfl) (fun r274 I274 P274 hr274 hf274 => ?_)
          rw [chk_0 rfl] at hf274
          obtain ⟨rfl, fr274, rs274, hr274, hv274⟩ := hf274
          refine x_iast dX12_readsPerson_277 ar102 ⟨by omega, by omega⟩ ?_
          refine x_goto (tgt := 132) dX12_readsPerson_278 rfl ?_
          refine x_keep [1, 1] ?_
          first | exact hgo _ K' (fun q => by have := hok q; omega) hZ9 hRb (hFr.tr (hFr'.mo (by decide) (by decide))) | exact hgo _ _ (fun q => by have := hok q; omega) hZ9 (hF9 I249 kf hc0 I274 r274 fr274 rs274 hv274) (hFr.tr ((((kf.mo (by decide) (by decide)).ui (by decide) (by decide)).tr (fr274.mo (by decide) (by decide))).ui (by decide) (by decide)))
      refine x_iload_n (i := 1) dX12_readsPerson_132 rfl rfl ?_
      refine x_if_eq (tgt := 286) dX12_readsPerson_133 rfl (fun h133 => ?_) (fun h133 => ?_)
      · exact absurd h133 (by decide)
      · refine y_aln (i := 0) dX12_readsPerson_136 at91.ne0 rfl rfl ?_
        refine x_callVI (c_X12_isGood hW hRg) dX12_readsPerson_137 lkX12_238 mfX12_isGood cfX12 at91 rfl rfl rfl rfl (Nat.le_of_ble_eq_true rfl) (fun r137 I137 P137 hr137 hf137 => ?_)
        obtain ⟨i137, p137, q137⟩ := hf137
        rw [i137, p137]
        refine x_if_eq (tgt := 286) dX12_readsPerson_140 rfl (fun h140 => ?_) (fun h140 => ?_)
        · exact absurd rfl (q137.resolve_left (fun q => by have := q.1; omega)).2
        · refine y_aln (i := 0) dX12_readsPerson_143 at91.ne0 rfl rfl ?_
          refine y_ic dX12_readsPerson_144 ⟨by decide, by decide⟩ ?_
          refine x_callVI (c_X12_is hW hKR (by decide)) dX12_readsPerson_145 lkX12_264 mfX12_is cfX12 at91 rfl rfl rfl rfl (Nat.le_of_ble_eq_true rfl) (fun r145 I145 P145 hr145 hf145 => ?_)
          obtain ⟨i145, p145, q145⟩ := hf145
          rw [i145, p145]
          refine x_if_eq (tgt := 172) dX12_readsPerson_148 rfl (fun h148 => ?_) (fun h148 => ?_)
          · have n6 : tkS tp n 0 j ≠ 6 := (q145.resolve_left (fun q => by have := q.1; omega)).2
            refine y_aln (i := 0) dX12_readsPerson_172 at91.ne0 rfl rfl ?_
            refine y_ic dX12_readsPerson_173 ⟨by decide, by decide⟩ ?_
            refine x_callVI (c_X12_is hW hKR (by decide)) dX12_readsPerson_174 lkX12_264 mfX12_is cfX12 at91 rfl rfl rfl rfl (Nat.le_of_ble_eq_true rfl) (fun r174 I174 P174 hr174 hf174 => ?_)
            obtain ⟨i174, p174, q174⟩ := hf174
            rw [i174, p174]
            refine x_if_eq (tgt := 201) dX12_readsPerson_177 rfl (fun h177 => ?_) (fun h177 => ?_)
            · have n7 : tkS tp n 0 j ≠ 7 := (q174.resolve_left (fun q => by have := q.1; omega)).2
              refine y_aln (i := 0) dX12_readsPerson_201 at91.ne0 rfl rfl ?_
              refine y_ic dX12_readsPerson_202 ⟨by decide, by decide⟩ ?_
              refine x_callVI (c_X12_is hW hKR (by decide)) dX12_readsPerson_203 lkX12_264 mfX12_is cfX12 at91 rfl rfl rfl rfl (Nat.le_of_ble_eq_true rfl) (fun r203 I203 P203 hr203 hf203 => ?_)
              obtain ⟨i203, p203, q203⟩ := hf203
              rw [i203, p203]
              refine x_if_eq (tgt := 216) dX12_readsPerson_206 rfl (fun h206 => ?_) (fun h206 => ?_)
              · have n8 : tkS tp n 0 j ≠ 8 := (q203.resolve_left (fun q => by have := q.1; omega)).2
                refine y_aln (i := 0) dX12_readsPerson_216 at91.ne0 rfl rfl ?_
                refine y_ic dX12_readsPerson_217 ⟨by decide, by decide⟩ ?_
                refine x_callVI (c_X12_is hW hKR (by decide)) dX12_readsPerson_218 lkX12_264 mfX12_is cfX12 at91 rfl rfl rfl rfl (Nat.le_of_ble_eq_true rfl) (fun r218 I218 P218 hr218 hf218 => ?_)
                obtain ⟨i218, p218, q218⟩ := hf218
                rw [i218, p218]
                refine x_if_eq (tgt := 281) dX12_readsPerson_221 rfl (fun h221 => ?_) (fun h221 => ?_)
                · have n9 : tkS tp n 0 j ≠ 9 := (q218.resolve_left (fun q => by have := q.1; omega)).2
                  refine y_ic dX12_readsPerson_281 ⟨by decide, by decide⟩ ?_
                  refine x_istore_n (i := 1) dX12_readsPerson_282 rfl rfl (Nat.le_of_ble_eq_true rfl) ?_
                  refine x_goto (tgt := 132) dX12_readsPerson_283 rfl ?_
                  refine x_keep [1, 1] ?_
                  first | exact hgo _ I166 (fun q => by have := toldR_ok hn.1 (show 0 ≤ j + 1 by omega) q; omega) (by rw [hZ]; exact if_pos hk) res166 (hFr.tr ((fr152.mo (by decide) (by decide)).tr (fr166.mo (by decide) (by decide)))) | exact hgo _ I195 (fun q => by have := toldR_ok hn.1 (show 0 ≤ j + 1 by omega) q; omega) (by rw [hZ]; unfold perR; rw [if_neg n6, if_pos hk]) res195 (hFr.tr ((fr181.mo (by decide) (by decide)).tr (fr195.mo (by decide) (by decide)))) | exact hgo _ I210 (fun q => by have := pairR_ok hn.1 (show 0 ≤ j + 1 by omega) q; omega) (by rw [hZ]; unfold perR; rw [if_neg n6, if_neg n7, if_pos hk]) res210 (hFr.tr (fr210.mo (by decide) (by decide))) | exact hEnd K j S' (by rw [hZ]; unfold perR; rw [if_neg n6, if_neg n7, if_neg n8, if_neg n9]) hj.1 hG hS hFr
                · have hk : tkS tp n 0 j = 9 := (q218.resolve_right (fun q => by have := q.1; omega)).2
                  refine y_aln (i := 0) dX12_readsPerson_224 at91.ne0 rfl rfl ?_
                  refine y_getp (z := 44) (v := 110) dX12_readsPerson_225 frX12_78 cfX12 at91 rfl rfl (wp (v := 110) hW rfl rfl (by decide)) ?_
                  refine y_aln (i := 0) dX12_readsPerson_228 at91.ne0 rfl rfl ?_
                  refine y_geti (z := 27) dX12_readsPerson_229 frX12_254 cfX12 at91 rfl rfl ?_
                  rw [k27]
                  refine x_zald dX12_readsPerson_232 ar110 ⟨by omega, by omega⟩ ?_
                  rw [k110]
                  refine x_if_eq (tgt := 241) dX12_readsPerson_233 rfl (fun h233 => ?_) (fun h233 => ?_)
                  · refine x_keep [1, 1] ?_
                    first | exact hF1 hk (fun _ _ => trivial) I238 5 (by rw [if_neg (by omega)]) rs238 fr238 | exact hF1 hk (fun _ _ => trivial) K 0 (by rw [if_pos (by omega)]) (RSt.o rfl hG) Fr.rf
                  · refine y_aln (i := 0) dX12_readsPerson_236 at91.ne0 rfl rfl ?_
                    refine y_ic dX12_readsPerson_237 ⟨by decide, by decide⟩ ?_
                    refine x_callVV (c_X12_wrong hW hRg (by decide)) dX12_readsPerson_238 lkX12_245 mfX12_wrong cfX12 at91 rfl rfl rfl rfl (Nat.le_of_ble_eq_true rfl) (fun n238 I238 P238 hf238 => ?_)
                    rw [chk_0 rfl] at hf238
                    obtain ⟨rfl, rfl, fr238, rs238⟩ := hf238
                    refine x_keep [1, 1] ?_
                    first | exact hF1 hk (fun _ _ => trivial) I238 5 (by rw [if_neg (by omega)]) rs238 fr238 | exact hF1 hk (fun _ _ => trivial) K 0 (by rw [if_pos (by omega)]) (RSt.o rfl hG) Fr.rf
              · have hk : tkS tp n 0 j = 8 := (q203.resolve_right (fun q => by have := q.1; omega)).2
                refine y_aln (i := 0) dX12_readsPerson_209 at91.ne0 rfl rfl ?_
                refine x_callVV (c_X12_readsPair (S := S') hW hj.1 hG hS) dX12_readsPerson_210 lkX12_271 mfX12_readsPair cfX12 at91 rfl rfl rfl rfl (Nat.le_of_ble_eq_true rfl) (fun n210 I210 P210 hf210 => ?_)
                obtain ⟨rfl, rfl, fr210, res210⟩ := hf210
                refine x_goto (tgt := 132) dX12_readsPerson_213 rfl ?_
                refine x_keep [1, 1] ?_
                first | exact hgo _ I166 (fun q => by have := toldR_ok hn.1 (show 0 ≤ j + 1 by omega) q; omega) (by rw [hZ]; exact if_pos hk) res166 (hFr.tr ((fr152.mo (by decide) (by decide)).tr (fr166.mo (by decide) (by decide)))) | exact hgo _ I195 (fun q => by have := toldR_ok hn.1 (show 0 ≤ j + 1 by omega) q; omega) (by rw [hZ]; unfold perR; rw [if_neg n6, if_pos hk]) res195 (hFr.tr ((fr181.mo (by decide) (by decide)).tr (fr195.mo (by decide) (by decide)))) | exact hgo _ I210 (fun q => by have := pairR_ok hn.1 (show 0 ≤ j + 1 by omega) q; omega) (by rw [hZ]; unfold perR; rw [if_neg n6, if_neg n7, if_pos hk]) res210 (hFr.tr (fr210.mo (by decide) (by decide))) | exact hEnd K j S' (by rw [hZ]; unfold perR; rw [if_neg n6, if_neg n7, if_neg n8, if_neg n9]) hj.1 hG hS hFr
            · have hk : tkS tp n 0 j = 7 := (q174.resolve_right (fun q => by have := q.1; omega)).2
              refine y_aln (i := 0) dX12_readsPerson_180 at91.ne0 rfl rfl ?_
              refine x_callVV (c_X12_goes hW hG.2.2.1 (by omega) hG.2.2.2.1) dX12_readsPerson_181 lkX12_242 mfX12_goes cfX12 at91 rfl rfl rfl rfl (Nat.le_of_ble_eq_true rfl) (fun n181 I181 P181 hf181 => ?_)
              obtain ⟨rfl, rfl, fr181, tk181⟩ := hf181
              refine y_aln (i := 0) dX12_readsPerson_184 at91.ne0 rfl rfl ?_
              refine y_aln (i := 0) dX12_readsPerson_185 at91.ne0 rfl rfl ?_
              refine y_getp (z := 43) (v := 109) dX12_readsPerson_186 frX12_75 cfX12 at91 rfl rfl (wp (v := 109) hW rfl rfl (by decide)) ?_
              refine y_aln (i := 0) dX12_readsPerson_189 at91.ne0 rfl rfl ?_
              refine y_getp (z := 35) (v := 101) dX12_readsPerson_190 frX12_50 cfX12 at91 rfl rfl (wp (v := 101) hW rfl rfl (by decide)) ?_
              refine y_bi dX12_readsPerson_193 ⟨by decide, by decide⟩ ?_
              refine x_callVV (c_X12_told (S := S') (a := 1) (b := 9) hW (by omega) ar101 ar109 (Or.inr ⟨rfl, rfl, rfl, rfl⟩) (hG.go fr181 tk181) (hS.fr fr181)) dX12_readsPerson_195 lkX12_267 mfX12_told cfX12 at91 rfl rfl rfl rfl (Nat.le_of_ble_eq_true rfl) (fun n195 I195 P195 hf195 => ?_)
              obtain ⟨rfl, rfl, fr195, res195⟩ := hf195
              refine x_goto (tgt := 132) dX12_readsPerson_198 rfl ?_
              refine x_keep [1, 1] ?_
              first | exact hgo _ I166 (fun q => by have := toldR_ok hn.1 (show 0 ≤ j + 1 by omega) q; omega) (by rw [hZ]; exact if_pos hk) res166 (hFr.tr ((fr152.mo (by decide) (by decide)).tr (fr166.mo (by decide) (by decide)))) | exact hgo _ I195 (fun q => by have := toldR_ok hn.1 (show 0 ≤ j + 1 by omega) q; omega) (by rw [hZ]; unfold perR; rw [if_neg n6, if_pos hk]) res195 (hFr.tr ((fr181.mo (by decide) (by decide)).tr (fr195.mo (by decide) (by decide)))) | exact hgo _ I210 (fun q => by have := pairR_ok hn.1 (show 0 ≤ j + 1 by omega) q; omega) (by rw [hZ]; unfold perR; rw [if_neg n6, if_neg n7, if_pos hk]) res210 (hFr.tr (fr210.mo (by decide) (by decide))) | exact hEnd K j S' (by rw [hZ]; unfold perR; rw [if_neg n6, if_neg n7, if_neg n8, if_neg n9]) hj.1 hG hS hFr
          · have hk : tkS tp n 0 j = 6 := (q145.resolve_right (fun q => by have := q.1; omega)).2
            refine y_aln (i := 0) dX12_readsPerson_151 at91.ne0 rfl rfl ?_
            refine x_callVV (c_X12_goes hW hG.2.2.1 (by omega) hG.2.2.2.1) dX12_readsPerson_152 lkX12_242 mfX12_goes cfX12 at91 rfl rfl rfl rfl (Nat.le_of_ble_eq_true rfl) (fun n152 I152 P152 hf152 => ?_)
            obtain ⟨rfl, rfl, fr152, tk152⟩ := hf152
            refine y_aln (i := 0) dX12_readsPerson_155 at91.ne0 rfl rfl ?_
            refine y_aln (i := 0) dX12_readsPerson_156 at91.ne0 rfl rfl ?_
            refine y_getp (z := 42) (v := 108) dX12_readsPerson_157 frX12_71 cfX12 at91 rfl rfl (wp (v := 108) hW rfl rfl (by decide)) ?_
            refine y_aln (i := 0) dX12_readsPerson_160 at91.ne0 rfl rfl ?_
            refine y_getp (z := 41) (v := 107) dX12_readsPerson_161 frX12_68 cfX12 at91 rfl rfl (wp (v := 107) hW rfl rfl (by decide)) ?_
            refine y_bi dX12_readsPerson_164 ⟨by decide, by decide⟩ ?_
            refine x_callVV (c_X12_told (S := S') (a := 7) (b := 8) hW (by omega) ar107 ar108 (Or.inl ⟨rfl, rfl, rfl, rfl⟩) (hG.go fr152 tk152) (hS.fr fr152)) dX12_readsPerson_166 lkX12_267 mfX12_told cfX12 at91 rfl rfl rfl rfl (Nat.le_of_ble_eq_true rfl) (fun n166 I166 P166 hf166 => ?_)
            obtain ⟨rfl, rfl, fr166, res166⟩ := hf166
            refine x_goto (tgt := 132) dX12_readsPerson_169 rfl ?_
            refine x_keep [1, 1] ?_
            first | exact hgo _ I166 (fun q => by have := toldR_ok hn.1 (show 0 ≤ j + 1 by omega) q; omega) (by rw [hZ]; exact if_pos hk) res166 (hFr.tr ((fr152.mo (by decide) (by decide)).tr (fr166.mo (by decide) (by decide)))) | exact hgo _ I195 (fun q => by have := toldR_ok hn.1 (show 0 ≤ j + 1 by omega) q; omega) (by rw [hZ]; unfold perR; rw [if_neg n6, if_pos hk]) res195 (hFr.tr ((fr181.mo (by decide) (by decide)).tr (fr195.mo (by decide) (by decide)))) | exact hgo _ I210 (fun q => by have := pairR_ok hn.1 (show 0 ≤ j + 1 by omega) q; omega) (by rw [hZ]; unfold perR; rw [if_neg n6, if_neg n7, if_pos hk]) res210 (hFr.tr (fr210.mo (by decide) (by decide))) | exact hEnd K j S' (by rw [hZ]; unfold perR; rw [if_neg n6, if_neg n7, if_neg n8, if_neg n9]) hj.1 hG hS hFr
  have hI : c0.1 = 0 → S 0 1 < 6 → ∀ (j : Nat) (k : Int) (K : Mem), (8 - k).toNat < j → 0 ≤ k → k ≤ 8 → GD K tp n (i + 1) → Fr [101, 107, 108, 109] pF I K → (∀ s, 0 ≤ s → s < k → K 101 (8 * S 0 1 + s) = 0 ∧ K 107 (8 * S 0 1 + s) = 0 ∧ K 108 (8 * S 0 1 + s) = 0 ∧ K 109 (8 * S 0 1 + s) = 0) → (∀ c, c < 8 * S 0 1 → K 101 c = I 101 c ∧ K 107 c = I 107 c) → V G mX12_readsPerson (d + 4) 0 0 28 [some (.inr (.inl 91)), some (.inl (k))] [] NO K P (qV (fun n' I' P' => n' = NO ∧ P' = P ∧ Fr paS paF I I' ∧ PSG I' tp n (persR (tkS tp n) (i + 1) S))) := by
    intro z0 h6 j
    induction j with
    | zero => intro k K hj; omega
    | succ j ih =>
      intro k K hj hk hk2 hGK hFr hz ho
      have k27 : K 91 27 = S 0 1 := (hFr.2 27 (by decide)).trans e27
      refine x_iload_n (i := 1) dX12_readsPerson_28 rfl rfl ?_
      refine y_bi dX12_readsPerson_29 ⟨by decide, by decide⟩ ?_
      refine x_icmp_ge (tgt := 100) dX12_readsPerson_31 rfl (fun h31 => ?_) (fun h31 => ?_)
      · refine y_aln (i := 0) dX12_readsPerson_100 at91.ne0 rfl rfl ?_
        refine y_getp (z := 36) (v := 102) dX12_readsPerson_101 frX12_53 cfX12 at91 rfl rfl (wp (v := 102) hW rfl rfl (by decide)) ?_
        refine y_aln (i := 0) dX12_readsPerson_104 at91.ne0 rfl rfl ?_
        refine y_geti (z := 27) dX12_readsPerson_105 frX12_254 cfX12 at91 rfl rfl ?_
        rw [k27]
        refine y_ic dX12_readsPerson_108 ⟨by decide, by decide⟩ ?_
        refine x_iast dX12_readsPerson_109 ar102 ⟨by omega, by omega⟩ ?_
        refine y_aln (i := 0) dX12_readsPerson_110 at91.ne0 rfl rfl ?_
        refine y_getp (z := 44) (v := 110) dX12_readsPerson_111 frX12_78 cfX12 at91 rfl rfl (wp (v := 110) hW rfl rfl (by decide)) ?_
        refine y_aln (i := 0) dX12_readsPerson_114 at91.ne0 rfl rfl ?_
        refine y_geti (z := 27) dX12_readsPerson_115 frX12_254 cfX12 at91 rfl rfl ?_
        rw [uI_ne (by decide), k27]
        refine y_ic dX12_readsPerson_118 ⟨by decide, by decide⟩ ?_
        refine x_zast dX12_readsPerson_119 ar110 ⟨by omega, by omega⟩ (by omega) ?_
        refine y_aln (i := 0) dX12_readsPerson_120 at91.ne0 rfl rfl ?_
        refine y_getp (z := 37) (v := 103) dX12_readsPerson_121 frX12_56 cfX12 at91 rfl rfl (wp (v := 103) hW rfl rfl (by decide)) ?_
        refine y_aln (i := 0) dX12_readsPerson_124 at91.ne0 rfl rfl ?_
        refine y_geti (z := 27) dX12_readsPerson_125 frX12_254 cfX12 at91 rfl rfl ?_
        rw [uI_ne (by decide), uI_ne (by decide), k27]
        refine y_ic dX12_readsPerson_128 ⟨by decide, by decide⟩ ?_
        refine x_iast dX12_readsPerson_129 ar103 ⟨by omega, by omega⟩ ?_
        refine y_ic dX12_readsPerson_130 ⟨by decide, by decide⟩ ?_
        refine x_istore_n (i := 1) dX12_readsPerson_131 rfl rfl (Nat.le_of_ble_eq_true rfl) ?_
        refine x_keep [1, 1] ?_
        obtain ⟨J, hJ⟩ : ∃ J, J = uI (uI (uI K 102 (S 0 1) 0) 110 (S 0 1) 0) 103 (S 0 1) 0 := ⟨_, rfl⟩
        rw [← hJ]
        have fJ : Fr [102, 103, 110] [] K J := by rw [hJ]; exact ((Fr.rf.ui (by decide) (by decide)).ui (by decide) (by decide)).ui (by decide) (by decide)
        have hFJ : Fr [101, 102, 103, 107, 108, 109, 110] pF I J := (hFr.mo (by decide) (by decide)).tr (fJ.mo (by decide) (by decide))
        have j102 : J 102 = u1 (K 102) (S 0 1) 0 := by rw [hJ, uI_ne (by decide), uI_ne (by decide), uI_eq]
        have j110 : J 110 = u1 (K 110) (S 0 1) 0 := by rw [hJ, uI_ne (by decide), uI_eq, uI_ne (by decide)]
        have j103 : J 103 = u1 (K 103) (S 0 1) 0 := by rw [hJ, uI_eq, uI_ne (by decide), uI_ne (by decide)]
        have hRPJ : RP J (newP S) := by
          refine newP_RP hS h6 hFJ (fun s s0 s1 => ?_) (fun c c1 => ?_) ⟨by rw [j102, u1_eq], by rw [j103, u1_eq], by rw [j110, u1_eq]⟩ (fun p p1 => ?_)
          · rw [fJ.1 101 (by decide) (by decide), fJ.1 107 (by decide) (by decide), fJ.1 108 (by decide) (by decide), fJ.1 109 (by decide) (by decide)]; exact hz s s0 (by omega)
          · rw [fJ.1 101 (by decide) (by decide), fJ.1 107 (by decide) (by decide)]; exact ho c c1
          · rw [j102, j103, u1_ne (by omega), u1_ne (by omega), hFr.1 102 (by decide) (by decide), hFr.1 103 (by decide) (by decide)]; exact ⟨rfl, rfl⟩
        exact hL 800 (i + 1) J (newP S) (by rw [hpr, ckR_0 z0]) (by omega) (by omega) (hGK.fr fJ) hRPJ (hFJ.mo (by decide) (by decide))
      · refine y_aln (i := 0) dX12_readsPerson_34 at91.ne0 rfl rfl ?_
        refine y_getp (z := 41) (v := 107) dX12_readsPerson_35 frX12_68 cfX12 at91 rfl rfl (wp (v := 107) hW rfl rfl (by decide)) ?_
        refine y_bi dX12_readsPerson_38 ⟨by decide, by decide⟩ ?_
        refine y_aln (i := 0) dX12_readsPerson_40 at91.ne0 rfl rfl ?_
        refine y_geti (z := 27) dX12_readsPerson_41 frX12_254 cfX12 at91 rfl rfl ?_
        refine x_imul dX12_readsPerson_44 (by rw [k27]; exact ⟨by omega, by omega⟩) ?_
        refine x_iload_n (i := 1) dX12_readsPerson_45 rfl rfl ?_
        rw [k27]
        refine x_iadd dX12_readsPerson_46 ⟨by omega, by omega⟩ ?_
        refine y_ic dX12_readsPerson_47 ⟨by decide, by decide⟩ ?_
        refine x_iast dX12_readsPerson_48 ar107 ⟨by omega, by omega⟩ ?_
        refine y_aln (i := 0) dX12_readsPerson_49 at91.ne0 rfl rfl ?_
        refine y_getp (z := 35) (v := 101) dX12_readsPerson_50 frX12_50 cfX12 at91 rfl rfl (wp (v := 101) hW rfl rfl (by decide)) ?_
        refine y_bi dX12_readsPerson_53 ⟨by decide, by decide⟩ ?_
        refine y_aln (i := 0) dX12_readsPerson_55 at91.ne0 rfl rfl ?_
        refine y_geti (z := 27) dX12_readsPerson_56 frX12_254 cfX12 at91 rfl rfl ?_
        refine x_imul dX12_readsPerson_59 (by rw [uI_ne (by decide), k27]; exact ⟨by omega, by omega⟩) ?_
        refine x_iload_n (i := 1) dX12_readsPerson_60 rfl rfl ?_
        rw [uI_ne (by decide), k27]
        refine x_iadd dX12_readsPerson_61 ⟨by omega, by omega⟩ ?_
        refine y_ic dX12_readsPerson_62 ⟨by decide, by decide⟩ ?_
        refine x_iast dX12_readsPerson_63 ar101 ⟨by omega, by omega⟩ ?_
        refine y_aln (i := 0) dX12_readsPerson_64 at91.ne0 rfl rfl ?_
        refine y_getp (z := 42) (v := 108) dX12_readsPerson_65 frX12_71 cfX12 at91 rfl rfl (wp (v := 108) hW rfl rfl (by decide)) ?_
        refine y_bi dX12_readsPerson_68 ⟨by decide, by decide⟩ ?_
        refine y_aln (i := 0) dX12_readsPerson_70 at91.ne0 rfl rfl ?_
        refine y_geti (z := 27) dX12_readsPerson_71 frX12_254 cfX12 at91 rfl rfl ?_
        refine x_imul dX12_readsPerson_74 (by rw [uI_ne (by decide), uI_ne (by decide), k27]; exact ⟨by omega, by omega⟩) ?_
        refine x_iload_n (i := 1) dX12_readsPerson_75 rfl rfl ?_
        rw [uI_ne (by decide), uI_ne (by decide), k27]
        refine x_iadd dX12_readsPerson_76 ⟨by omega, by omega⟩ ?_
        refine y_ic dX12_readsPerson_77 ⟨by decide, by decide⟩ ?_
        refine x_zast dX12_readsPerson_78 ar108 ⟨by omega, by omega⟩ (by omega) ?_
        refine y_aln (i := 0) dX12_readsPerson_79 at91.ne0 rfl rfl ?_
        refine y_getp (z := 43) (v := 109) dX12_readsPerson_80 frX12_75 cfX12 at91 rfl rfl (wp (v := 109) hW rfl rfl (by decide)) ?_
        refine y_bi dX12_readsPerson_83 ⟨by decide, by decide⟩ ?_
        refine y_aln (i := 0) dX12_readsPerson_85 at91.ne0 rfl rfl ?_
        refine y_geti (z := 27) dX12_readsPerson_86 frX12_254 cfX12 at91 rfl rfl ?_
        refine x_imul dX12_readsPerson_89 (by rw [uI_ne (by decide), uI_ne (by decide), uI_ne (by decide), k27]; exact ⟨by omega, by omega⟩) ?_
        refine x_iload_n (i := 1) dX12_readsPerson_90 rfl rfl ?_
        rw [uI_ne (by decide), uI_ne (by decide), uI_ne (by decide), k27]
        refine x_iadd dX12_readsPerson_91 ⟨by omega, by omega⟩ ?_
        refine y_ic dX12_readsPerson_92 ⟨by decide, by decide⟩ ?_
        refine x_zast dX12_readsPerson_93 ar109 ⟨by omega, by omega⟩ (by omega) ?_
        refine x_iinc dX12_readsPerson_94 rfl ⟨by omega, by omega⟩ rfl (Nat.le_of_ble_eq_true rfl) ?_
        refine x_goto (tgt := 28) dX12_readsPerson_97 rfl ?_
        refine x_keep [1, 1] ?_
        obtain ⟨J, hJ⟩ : ∃ J, J = uI (uI (uI (uI K 107 (8 * S 0 1 + k) 0) 101 (8 * S 0 1 + k) 0) 108 (8 * S 0 1 + k) 0) 109 (8 * S 0 1 + k) 0 := ⟨_, rfl⟩
        rw [← hJ]
        have j107 : J 107 = u1 (K 107) (8 * S 0 1 + k) 0 := by rw [hJ, uI_ne (by decide), uI_ne (by decide), uI_ne (by decide), uI_eq]
        have j101 : J 101 = u1 (K 101) (8 * S 0 1 + k) 0 := by rw [hJ, uI_ne (by decide), uI_ne (by decide), uI_eq, uI_ne (by decide)]
        have j108 : J 108 = u1 (K 108) (8 * S 0 1 + k) 0 := by rw [hJ, uI_ne (by decide), uI_eq, uI_ne (by decide), uI_ne (by decide)]
        have j109 : J 109 = u1 (K 109) (8 * S 0 1 + k) 0 := by rw [hJ, uI_eq, uI_ne (by decide), uI_ne (by decide), uI_ne (by decide)]
        have fJ : Fr [101, 107, 108, 109] [] K J := by rw [hJ]; exact (((Fr.rf.ui (by decide) (by decide)).ui (by decide) (by decide)).ui (by decide) (by decide)).ui (by decide) (by decide)
        refine ih (k + 1) J (by omega) (by omega) (by omega) (hGK.fr fJ) (hFr.tr (fJ.mo (by decide) (by decide))) (fun s s0 s1 => ?_) (fun c c1 => ?_)
        · rw [j101, j107, j108, j109]
          by_cases e : s = k
          · rw [e, u1_eq, u1_eq, u1_eq, u1_eq]; exact ⟨rfl, rfl, rfl, rfl⟩
          · rw [u1_ne (by omega), u1_ne (by omega), u1_ne (by omega), u1_ne (by omega)]; exact hz s s0 (by omega)
        · rw [j101, j107, u1_ne (by omega), u1_ne (by omega)]; exact ho c c1
  have h1 : ∀ K : Mem, RSt K tp n c0 i → Fr [] pF I K → V G mX12_readsPerson (d + 4) 0 0 14 [some (.inr (.inl 91)), none] [] NO K P (qV (fun n' I' P' => n' = NO ∧ P' = P ∧ Fr paS paF I I' ∧ PSG I' tp n (persR (tkS tp n) (i + 1) S))) := fun K hRK hFr => by
    refine y_aln (i := 0) dX12_readsPerson_14 at91.ne0 rfl rfl ?_
    refine x_callVI (c_X12_isGood hW hRK) dX12_readsPerson_15 lkX12_238 mfX12_isGood cfX12 at91 rfl rfl rfl rfl (Nat.le_of_ble_eq_true rfl) (fun r15 I15 P15 hr15 hf15 => ?_)
    obtain ⟨i15, p15, q15⟩ := hf15
    rw [i15, p15]
    refine x_if_ne (tgt := 22) dX12_readsPerson_18 rfl (fun h18 => ?_) (fun h18 => ?_)
    · have z0 := (q15.resolve_right (fun q => by have := q.1; omega)).2
      have hg := hRK.g z0
      have h6 : S 0 1 < 6 := by
        by_cases q : S 0 1 = 6
        · rw [hc0, if_pos q] at z0; exact absurd (show (2 : Int) = 0 from z0) (by decide)
        · omega
      refine y_aln (i := 0) dX12_readsPerson_22 at91.ne0 rfl rfl ?_
      refine x_callVV (c_X12_goes hW hg.2.2.1 (by omega) hg.2.2.2.1) dX12_readsPerson_23 lkX12_242 mfX12_goes cfX12 at91 rfl rfl rfl rfl (Nat.le_of_ble_eq_true rfl) (fun n23 I23 P23 hf23 => ?_)
      obtain ⟨rfl, rfl, fr23, tk23⟩ := hf23
      have hFr2 : Fr [] pF I I23 := hFr.tr (fr23.mo (by decide) (by decide))
      refine y_ic dX12_readsPerson_26 ⟨by decide, by decide⟩ ?_
      refine x_istore_n (i := 1) dX12_readsPerson_27 rfl rfl (Nat.le_of_ble_eq_true rfl) ?_
      refine x_keep [1, 1] ?_
      exact hI z0 h6 _ 0 I23 (Nat.lt_succ_self _) (by decide) (by decide) (hg.go fr23 tk23) (hFr2.mo (by decide) (by decide)) (fun s s0 s1 => by omega) (fun c _ => by rw [hFr2.1 101 (by decide) (by decide), hFr2.1 107 (by decide) (by decide)]; exact ⟨rfl, rfl⟩)
    · have hbz := (q15.resolve_left (fun q => by have := q.1; omega)).2
      refine x_vret dX12_readsPerson_21 rfl ?_
      exact ⟨rfl, rfl, hFr.mo (by decide) (by decide), PSG.bad hRK hbz (by rw [hpr, cp_ck]; exact chk_1 hbz)⟩
  refine y_aln (i := 0) dX12_readsPerson_0 at91.ne0 rfl rfl ?_
  refine y_geti (z := 27) dX12_readsPerson_1 frX12_254 cfX12 at91 rfl rfl ?_
  rw [e27]
  refine y_bi dX12_readsPerson_4 ⟨by decide, by decide⟩ ?_
  refine x_icmp_ne (tgt := 14) dX12_readsPerson_6 rfl (fun h6 => ?_) (fun h6 => ?_)
  · refine x_keep [1, 0] ?_
    first | exact h1 I11 (by rw [hc0, if_pos (by omega)]; exact rs11) (fr11.mo (by decide) (by decide)) | exact h1 I (by rw [hc0, if_neg (by omega)]; exact RSt.o rfl hG) Fr.rf
  · refine y_aln (i := 0) dX12_readsPerson_9 at91.ne0 rfl rfl ?_
    refine y_ic dX12_readsPerson_10 ⟨by decide, by decide⟩ ?_
    refine x_callVV (c_X12_wrong hW hR0 (by decide)) dX12_readsPerson_11 lkX12_245 mfX12_wrong cfX12 at91 rfl rfl rfl rfl (Nat.le_of_ble_eq_true rfl) (fun n11 I11 P11 hf11 => ?_)
    rw [chk_0 rfl] at hf11
    obtain ⟨rfl, rfl, fr11, rs11⟩ := hf11
    refine x_keep [1, 0] ?_
    first | exact h1 I11 (by rw [hc0, if_pos (by omega)]; exact rs11) (fr11.mo (by decide) (by decide)) | exact h1 I (by rw [hc0, if_neg (by omega)]; exact RSt.o rfl hG) Fr.rf
end

