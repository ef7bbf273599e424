/-! ===== the reference: law, ties, meetings, lines ===== -/
theorem RL_fld {K J : Mem} {S S' : Tn} {F : List Int} (h : RLn K S) (hf : Fr [] F K J) (h1 : ∀ a, a ≠ 0 → a ≠ 11 → S' a = S a) (h0 : S' 0 1 = S 0 1 ∧ S' 0 5 = S 0 5 ∧ S' 0 6 = S 0 6) (hsb : SB S') (hk : J 91 27 = S' 0 1 ∧ J 91 28 = S' 0 2 ∧ J 91 29 = S' 0 3 ∧ J 91 30 = S' 0 4 ∧ J 91 31 = S' 0 5 ∧ J 91 32 = S' 0 6 ∧ J 91 33 = S' 0 7 ∧ J 91 34 = S' 11 0) : RLn J S' := by
  obtain ⟨⟨m0, m1, m2, m3, m4, m5⟩, sb⟩ := h
  have ka : ∀ x, x ≠ 91 → J x = K x := fun x h0 => hf.1 x h0 (by simp)
  refine ⟨⟨hk, ?_, ?_, ?_, ?_, ?_⟩, hsb⟩
  · rw [ka 101 (by decide), ka 107 (by decide), h1 1 (by decide) (by decide), h1 7 (by decide) (by decide), h0.1]; exact m1
  · rw [ka 102 (by decide), ka 103 (by decide), h1 2 (by decide) (by decide), h1 3 (by decide) (by decide), h0.1]; exact m2
  · rw [ka 104 (by decide), h1 3 (by decide) (by decide), h1 4 (by decide) (by decide), h0.1]; exact m3
  · rw [ka 105 (by decide), h1 5 (by decide) (by decide), h0.2.1]; exact m4
  · rw [ka 106 (by decide), h1 6 (by decide) (by decide), h0.2.2]; exact m5
theorem tieS_RL {K J : Mem} {S : Tn} {u v w : Int} (h : RLn K S) (h4 : S 0 5 < 4) (hf : Fr [105] (31 :: pF) K J) (h1 : J 105 = u1 (u1 (u1 (K 105) (3 * S 0 5) u) (3 * S 0 5 + 1) v) (3 * S 0 5 + 2) w) (h2 : J 91 31 = S 0 5 + 1) : RLn J (tieW S u v w) := by
  obtain ⟨⟨m0, m1, m2, m3, m4, m5⟩, sb⟩ := h
  have kf : ∀ k : Int, 27 ≤ k → k ≠ 31 → J 91 k = K 91 k := fun k k0 k1 => hf.2 k (fun q => by
    have : ∀ x ∈ (31 :: pF : List Int), x < 27 ∨ x = 31 := by decide
    have := this k q
    omega)
  have ka : ∀ x, x ≠ 91 → x ≠ 105 → J x = K x := fun x h0 h1 => hf.1 x h0 (fun q => by simp [h1] at q)
  have s0 : ∀ k : Int, k ≠ 5 → tieW S u v w 0 k = S 0 k := fun k hk => by unfold tieW; rw [uI_eq, u1_ne hk, uI_ne (by decide), uI_ne (by decide), uI_ne (by decide)]
  have s05 : tieW S u v w 0 5 = S 0 5 + 1 := by unfold tieW; rw [uI_eq, u1_eq]
  have s5 : tieW S u v w 5 = u1 (u1 (u1 (S 5) (3 * S 0 5) u) (3 * S 0 5 + 1) v) (3 * S 0 5 + 2) w := by unfold tieW; rw [uI_ne (by decide), uI_eq, uI_eq, uI_eq]
  have sa : ∀ x, x ≠ 0 → x ≠ 5 → tieW S u v w x = S x := fun x h1 h2 => by unfold tieW; rw [uI_ne h1, uI_ne h2, uI_ne h2, uI_ne h2]
  obtain ⟨sb1, sb2, sb3, sb4, sb5, sb6, sb7, sb8, sb9⟩ := sb
  refine ⟨⟨?_, ?_, ?_, ?_, ?_, ?_⟩, ?_⟩
  · rw [kf 27 (by decide) (by decide), kf 28 (by decide) (by decide), kf 29 (by decide) (by decide), kf 30 (by decide) (by decide), kf 32 (by decide) (by decide), kf 33 (by decide) (by decide), kf 34 (by decide) (by decide), h2, s05, s0 1 (by decide), s0 2 (by decide), s0 3 (by decide), s0 4 (by decide), s0 6 (by decide), s0 7 (by decide), sa 11 (by decide) (by decide)]
    exact ⟨m0.1, m0.2.1, m0.2.2.1, m0.2.2.2.1, rfl, m0.2.2.2.2.2⟩
  · rw [ka 101 (by decide) (by decide), ka 107 (by decide) (by decide), s0 1 (by decide), sa 1 (by decide) (by decide), sa 7 (by decide) (by decide)]; exact m1
  · rw [ka 102 (by decide) (by decide), ka 103 (by decide) (by decide), s0 1 (by decide), sa 2 (by decide) (by decide), sa 3 (by decide) (by decide)]; exact m2
  · rw [ka 104 (by decide) (by decide), s0 1 (by decide), sa 3 (by decide) (by decide), sa 4 (by decide) (by decide)]; exact m3
  · intro t j t0 t1 j0 j1
    rw [s05] at t1
    rw [h1, s5]
    by_cases e2 : 3 * t + j = 3 * S 0 5 + 2
    · rw [e2, u1_eq, u1_eq]
    rw [u1_ne e2, u1_ne e2]
    by_cases e1 : 3 * t + j = 3 * S 0 5 + 1
    · rw [e1, u1_eq, u1_eq]
    rw [u1_ne e1, u1_ne e1]
    by_cases e0 : 3 * t + j = 3 * S 0 5
    · rw [e0, u1_eq, u1_eq]
    rw [u1_ne e0, u1_ne e0]
    exact m4 t j t0 (by omega) j0 j1
  · rw [ka 106 (by decide) (by decide), s0 6 (by decide), sa 6 (by decide) (by decide)]; exact m5
  · unfold SB
    rw [s05, s0 1 (by decide), s0 2 (by decide), s0 6 (by decide), s0 7 (by decide), sa 3 (by decide) (by decide), sa 8 (by decide) (by decide), sa 9 (by decide) (by decide), sa 10 (by decide) (by decide), sa 11 (by decide) (by decide)]
    exact ⟨sb1, sb2, by omega, sb4, sb5, sb6, sb7, sb8, sb9⟩
theorem meetS_RL {K J : Mem} {S : Tn} {u v : Int} (h : RLn K S) (h8 : S 0 6 < 8) (hf : Fr [106] (32 :: pF) K J) (h1 : J 106 = u1 (u1 (K 106) (2 * S 0 6) u) (2 * S 0 6 + 1) v) (h2 : J 91 32 = S 0 6 + 1) : RLn J (meetW S u v) := by
  obtain ⟨⟨m0, m1, m2, m3, m4, m5⟩, sb⟩ := h
  have kf : ∀ k : Int, 27 ≤ k → k ≠ 32 → J 91 k = K 91 k := fun k k0 k1 => hf.2 k (fun q => by
    have : ∀ x ∈ (32 :: pF : List Int), x < 27 ∨ x = 32 := by decide
    have := this k q
    omega)
  have ka : ∀ x, x ≠ 91 → x ≠ 106 → J x = K x := fun x h0 h1 => hf.1 x h0 (fun q => by simp [h1] at q)
  have s0 : ∀ k : Int, k ≠ 6 → meetW S u v 0 k = S 0 k := fun k hk => by unfold meetW; rw [uI_eq, u1_ne hk, uI_ne (by decide), uI_ne (by decide)]
  have s06 : meetW S u v 0 6 = S 0 6 + 1 := by unfold meetW; rw [uI_eq, u1_eq]
  have s6 : meetW S u v 6 = u1 (u1 (S 6) (2 * S 0 6) u) (2 * S 0 6 + 1) v := by unfold meetW; rw [uI_ne (by decide), uI_eq, uI_eq]
  have sa : ∀ x, x ≠ 0 → x ≠ 6 → meetW S u v x = S x := fun x h1 h2 => by unfold meetW; rw [uI_ne h1, uI_ne h2, uI_ne h2]
  obtain ⟨sb1, sb2, sb3, sb4, sb5, sb6, sb7, sb8, sb9⟩ := sb
  refine ⟨⟨?_, ?_, ?_, ?_, ?_, ?_⟩, ?_⟩
  · rw [kf 27 (by decide) (by decide), kf 28 (by decide) (by decide), kf 29 (by decide) (by decide), kf 30 (by decide) (by decide), kf 31 (by decide) (by decide), kf 33 (by decide) (by decide), kf 34 (by decide) (by decide), h2, s06, s0 1 (by decide), s0 2 (by decide), s0 3 (by decide), s0 4 (by decide), s0 5 (by decide), s0 7 (by decide), sa 11 (by decide) (by decide)]
    exact ⟨m0.1, m0.2.1, m0.2.2.1, m0.2.2.2.1, m0.2.2.2.2.1, rfl, m0.2.2.2.2.2.2⟩
  · rw [ka 101 (by decide) (by decide), ka 107 (by decide) (by decide), s0 1 (by decide), sa 1 (by decide) (by decide), sa 7 (by decide) (by decide)]; exact m1
  · rw [ka 102 (by decide) (by decide), ka 103 (by decide) (by decide), s0 1 (by decide), sa 2 (by decide) (by decide), sa 3 (by decide) (by decide)]; exact m2
  · rw [ka 104 (by decide) (by decide), s0 1 (by decide), sa 3 (by decide) (by decide), sa 4 (by decide) (by decide)]; exact m3
  · rw [ka 105 (by decide) (by decide), s0 5 (by decide), sa 5 (by decide) (by decide)]; exact m4
  · intro t j t0 t1 j0 j1
    rw [s06] at t1
    rw [h1, s6]
    by_cases e1 : 2 * t + j = 2 * S 0 6 + 1
    · rw [e1, u1_eq, u1_eq]
    rw [u1_ne e1, u1_ne e1]
    by_cases e0 : 2 * t + j = 2 * S 0 6
    · rw [e0, u1_eq, u1_eq]
    rw [u1_ne e0, u1_ne e0]
    exact m5 t j t0 (by omega) j0 j1
  · unfold SB
    rw [s06, s0 1 (by decide), s0 2 (by decide), s0 5 (by decide), s0 7 (by decide), sa 3 (by decide) (by decide), sa 8 (by decide) (by decide), sa 9 (by decide) (by decide), sa 10 (by decide) (by decide), sa 11 (by decide) (by decide)]
    exact ⟨sb1, sb2, sb3, by omega, sb5, sb6, sb7, sb8, sb9⟩
section
variable {G : HX} {d : Nat} {I : Mem} {P : Ptr} {T : Tn}
theorem c_X12_readsLaw {tp : Rw} {n i : Int} {S : Tn} (hW : WP P) (hi0 : 0 ≤ i) (hG : GD I tp n i) (hS : RLn I S) : Cv G mX12_readsLaw (d + 3) 0 0 [.inr (.inl 91)] NO I P (qV (fun n' I' P' => n' = NO ∧ P' = P ∧ Fr [] paF I I' ∧ PSG I' tp n (lawR (tkS tp n) (i + 1) S))) := by
  obtain ⟨e27, e28, e29, e30, e31, e32, e33, e34⟩ := hS.1.1
  have f1 := hS.2
  have hR0 : RSt I tp n (0, 0) i := RSt.o rfl hG
  obtain ⟨c0, hc0⟩ : ∃ c0 : Int × Int, c0 = (if S 11 0 = 0 then 0 else 5, tkS tp n 1 i) := ⟨_, rfl⟩
  obtain ⟨c1, hc1⟩ : ∃ c1 : Int × Int, c1 = (numC (tkS tp n) 1 3 (i + 1), tkS tp n 1 (i + 1)) := ⟨_, rfl⟩
  obtain ⟨S1, hS1⟩ : ∃ S1 : Tn, S1 = uI (uI S 11 0 1) 0 3 (tkS tp n 2 (i + 1)) := ⟨_, rfl⟩
  have hR : lawR (tkS tp n) (i + 1) S = ckR c0.1 c0.2 S (ckR c1.1 c1.2 S (spoR (tkS tp n) (i + 2) S1)) := by unfold lawR; rw [hc0, hc1, hS1, show i + 1 - 1 = i by omega, show i + 1 + 1 = i + 2 by omega]
  have s1a : ∀ a, a ≠ 0 → a ≠ 11 → S1 a = S a := fun a h0 h11 => by rw [hS1, uI_ne h0, uI_ne h11]
  have s10 : ∀ k : Int, k ≠ 3 → S1 0 k = S 0 k := fun k hk => by rw [hS1, uI_eq, u1_ne hk, uI_ne (by decide)]
  have s13 : S1 0 3 = tkS tp n 2 (i + 1) := by rw [hS1, uI_eq, u1_eq]
  have s111 : S1 11 0 = 1 := by rw [hS1, uI_ne (by decide), uI_eq, u1_eq]
  have sb1 : SB S1 := by
    unfold SB
    rw [s10 1 (by decide), s10 2 (by decide), s10 5 (by decide), s10 6 (by decide), s10 7 (by decide), s1a 3 (by decide) (by decide), s1a 8 (by decide) (by decide), s1a 9 (by decide) (by decide), s1a 10 (by decide) (by decide), s111]
    exact ⟨f1.1, f1.2.1, f1.2.2.1, f1.2.2.2.1, f1.2.2.2.2.1, f1.2.2.2.2.2.1, f1.2.2.2.2.2.2.1, Or.inr rfl, f1.2.2.2.2.2.2.2.2⟩
  refine x_enter mfX12_readsLaw rfl (Nat.le_of_ble_eq_true rfl) (fun _ => ?_)
  have hB : ∀ (K : Mem) (x : Int × Int) (j : Int) (S2 : Tn), RSt K tp n x j → 0 ≤ j → (x.1 = 0 → RLn K S2 ∧ lawR (tkS tp n) (i + 1) S = burR (tkS tp n) j S2) → (x.1 ≠ 0 → cpR (lawR (tkS tp n) (i + 1) S) = x) → Fr [] paF I K → V G mX12_readsLaw (d + 3) 0 0 71 [some (.inr (.inl 91))] [] NO K P (qV (fun n' I' P' => n' = NO ∧ P' = P ∧ Fr [] paF I I' ∧ PSG I' tp n (lawR (tkS tp n) (i + 1) S))) := fun K x j S2 hRK hj hg hb hFr => by
    have hKR := fun (z : x.1 = 0) => (hRK.g z).2.2.2.2.2
    refine y_aln (i := 0) dX12_readsLaw_71 at91.ne0 rfl rfl ?_
    refine x_callVI (c_X12_isGood hW hRK) dX12_readsLaw_72 lkX12_238 mfX12_isGood cfX12 at91 rfl rfl rfl rfl (Nat.le_of_ble_eq_true rfl) (fun r72 I72 P72 hr72 hf72 => ?_)
    obtain ⟨i72, p72, q72⟩ := hf72
    rw [i72, p72]
    refine x_if_eq (tgt := 96) dX12_readsLaw_75 rfl (fun h75 => ?_) (fun h75 => ?_)
    · have hbz := (q72.resolve_left (fun q => by have := q.1; omega)).2
      refine x_vret dX12_readsLaw_96 rfl ?_
      first | (have z := hbz; exact ⟨rfl, rfl, hFr, PSG.bad hRK hbz (hb hbz)⟩) | (have z := nk; exact ⟨rfl, rfl, hFr, Or.inl ⟨j, S2, by rw [hg2.2]; unfold burR; rw [if_neg nk], hj, hgd, hg2.1⟩⟩) | (have z := hk; exact ⟨rfl, rfl, hFr.tr (fy.mo (by decide) (by decide)), Or.inl ⟨j + 1, uI S2 0 7 1, by rw [hg2.2]; unfold burR; rw [if_pos hk], by omega, g88.fr fz, rl88⟩⟩)
    · have z0 := (q72.resolve_right (fun q => by have := q.1; omega)).2
      have hgd := hRK.g z0
      have hg2 := hg z0
      refine y_aln (i := 0) dX12_readsLaw_78 at91.ne0 rfl rfl ?_
      refine y_bi dX12_readsLaw_79 ⟨by decide, by decide⟩ ?_
      refine x_callVI (c_X12_is hW (hKR z0) (by decide)) dX12_readsLaw_81 lkX12_264 mfX12_is cfX12 at91 rfl rfl rfl rfl (Nat.le_of_ble_eq_true rfl) (fun r81 I81 P81 hr81 hf81 => ?_)
      obtain ⟨i81, p81, q81⟩ := hf81
      rw [i81, p81]
      refine x_if_eq (tgt := 96) dX12_readsLaw_84 rfl (fun h84 => ?_) (fun h84 => ?_)
      · have nk : tkS tp n 0 j ≠ 12 := (q81.resolve_left (fun q => by have := q.1; omega)).2
        refine x_vret dX12_readsLaw_96 rfl ?_
        first | (have z := hbz; exact ⟨rfl, rfl, hFr, PSG.bad hRK hbz (hb hbz)⟩) | (have z := nk; exact ⟨rfl, rfl, hFr, Or.inl ⟨j, S2, by rw [hg2.2]; unfold burR; rw [if_neg nk], hj, hgd, hg2.1⟩⟩) | (have z := hk; exact ⟨rfl, rfl, hFr.tr (fy.mo (by decide) (by decide)), Or.inl ⟨j + 1, uI S2 0 7 1, by rw [hg2.2]; unfold burR; rw [if_pos hk], by omega, g88.fr fz, rl88⟩⟩)
      · have hk : tkS tp n 0 j = 12 := (q81.resolve_right (fun q => by have := q.1; omega)).2
        refine y_aln (i := 0) dX12_readsLaw_87 at91.ne0 rfl rfl ?_
        refine x_callVV (c_X12_goes hW hgd.2.2.1 (by omega) hgd.2.2.2.1) dX12_readsLaw_88 lkX12_242 mfX12_goes cfX12 at91 rfl rfl rfl rfl (Nat.le_of_ble_eq_true rfl) (fun n88 I88 P88 hf88 => ?_)
        obtain ⟨rfl, rfl, fr88, tk88⟩ := hf88
        have g88 := hgd.go fr88 tk88
        have fz : Fr [] [33] I88 (uI I88 91 33 1) := Fr.rf.uf (by decide)
        have fy : Fr [] (33 :: lxF) K (uI I88 91 33 1) := (fr88.mo (by decide) (by decide)).tr (fz.mo (by decide) (by decide))
        have rl88 : RLn (uI I88 91 33 1) (uI S2 0 7 1) := by
          obtain ⟨a1, a2, a3, a4, a5, a6, a7, a8⟩ := hg2.1.1.1
          obtain ⟨b1, b2, b3, b4, b5, b6, b7, b8, b9⟩ := hg2.1.2
          have w0 : ∀ k : Int, k ≠ 7 → uI S2 0 7 1 0 k = S2 0 k := fun k hk => by rw [uI_eq, u1_ne hk]
          have wa : ∀ a, a ≠ 0 → uI S2 0 7 1 a = S2 a := fun a ha => uI_ne ha
          refine RL_fld hg2.1 fy (fun a h0 _ => wa a h0) ⟨w0 1 (by decide), w0 5 (by decide), w0 6 (by decide)⟩ ?_ ?_
          · unfold SB
            rw [w0 1 (by decide), w0 2 (by decide), w0 5 (by decide), w0 6 (by decide), wa 3 (by decide), wa 8 (by decide), wa 9 (by decide), wa 10 (by decide), wa 11 (by decide), uI_eq, u1_eq]
            exact ⟨b1, b2, b3, b4, b5, b6, b7, b8, Or.inr rfl⟩
          · rw [w0 1 (by decide), w0 2 (by decide), w0 3 (by decide), w0 4 (by decide), w0 5 (by decide), w0 6 (by decide), wa 11 (by decide), fy.2 27 (by decide), fy.2 28 (by decide), fy.2 29 (by decide), fy.2 30 (by decide), fy.2 31 (by decide), fy.2 32 (by decide), fy.2 34 (by decide), uI_eq, u1_eq, uI_eq, u1_eq]
            exact ⟨a1, a2, a3, a4, a5, a6, rfl, a8⟩
        refine y_aln (i := 0) dX12_readsLaw_91 at91.ne0 rfl rfl ?_
        refine y_ic dX12_readsLaw_92 ⟨by decide, by decide⟩ ?_
        refine y_putz (z := 33) dX12_readsLaw_93 frX12_284 cfX12 at91 rfl rfl rfl (by omega) ?_
        refine x_vret dX12_readsLaw_96 rfl ?_
        first | (have z := hbz; exact ⟨rfl, rfl, hFr, PSG.bad hRK hbz (hb hbz)⟩) | (have z := nk; exact ⟨rfl, rfl, hFr, Or.inl ⟨j, S2, by rw [hg2.2]; unfold burR; rw [if_neg nk], hj, hgd, hg2.1⟩⟩) | (have z := hk; exact ⟨rfl, rfl, hFr.tr (fy.mo (by decide) (by decide)), Or.inl ⟨j + 1, uI S2 0 7 1, by rw [hg2.2]; unfold burR; rw [if_pos hk], by omega, g88.fr fz, rl88⟩⟩)
  have hSp : c0.1 = 0 → ∀ (K : Mem), RSt K tp n c1 (i + 2) → (c1.1 = 0 → RLn K S1) → Fr [] paF I K → V G mX12_readsLaw (d + 3) 0 0 39 [some (.inr (.inl 91))] [] NO K P (qV (fun n' I' P' => n' = NO ∧ P' = P ∧ Fr [] paF I I' ∧ PSG I' tp n (lawR (tkS tp n) (i + 1) S))) := fun z0 K hRK hrl hFr => by
    have hKR := fun (z : c1.1 = 0) => (hRK.g z).2.2.2.2.2
    refine y_aln (i := 0) dX12_readsLaw_39 at91.ne0 rfl rfl ?_
    refine x_callVI (c_X12_isGood hW hRK) dX12_readsLaw_40 lkX12_238 mfX12_isGood cfX12 at91 rfl rfl rfl rfl (Nat.le_of_ble_eq_true rfl) (fun r40 I40 P40 hr40 hf40 => ?_)
    obtain ⟨i40, p40, q40⟩ := hf40
    rw [i40, p40]
    refine x_if_eq (tgt := 71) dX12_readsLaw_43 rfl (fun h43 => ?_) (fun h43 => ?_)
    · have hbz := (q40.resolve_left (fun q => by have := q.1; omega)).2
      refine x_keep [1] ?_
      first | (have z := hbz; exact hB K c1 (i + 2) S1 hRK (by omega) (fun q => absurd q hbz) (fun _ => by rw [hR, cp_ck, chk_0 z0, cp_ck]; exact chk_1 hbz) hFr) | (have z := nk; exact hB K c1 (i + 2) S1 hRK (by omega) (fun q => ⟨hrl1, by rw [hR, ckR_0 z0, ckR_0 z1]; unfold spoR; rw [if_neg nk]⟩) (fun q => absurd z1 q) hFr) | (have z := hk; exact hB _ (belC (tkS tp n) (S 0 2) (i + 3), tkS tp n 1 (i + 3)) (i + 4) (uI S1 0 4 (tkS tp n 2 (i + 3))) (rs65.fr fz) (by omega) (fun q => ⟨rl65 q, by rw [hR, ckR_0 z0, ckR_0 z1]; unfold spoR; rw [if_pos hk, s10 2 (by decide), show i + 2 + 1 = i + 3 by omega, ckR_0 q, show i + 2 + 2 = i + 4 by omega]⟩) (fun q => by rw [hR, ckR_0 z0, ckR_0 z1]; unfold spoR; rw [if_pos hk, s10 2 (by decide), show i + 2 + 1 = i + 3 by omega, cp_ck]; exact chk_1 q) (hFr.tr (fy.mo (by decide) (by decide))))
    · have z1 := (q40.resolve_right (fun q => by have := q.1; omega)).2
      have hgd := hRK.g z1
      have hrl1 := hrl z1
      refine y_aln (i := 0) dX12_readsLaw_46 at91.ne0 rfl rfl ?_
      refine y_bi dX12_readsLaw_47 ⟨by decide, by decide⟩ ?_
      refine x_callVI (c_X12_is hW (hKR z1) (by decide)) dX12_readsLaw_49 lkX12_264 mfX12_is cfX12 at91 rfl rfl rfl rfl (Nat.le_of_ble_eq_true rfl) (fun r49 I49 P49 hr49 hf49 => ?_)
      obtain ⟨i49, p49, q49⟩ := hf49
      rw [i49, p49]
      refine x_if_eq (tgt := 71) dX12_readsLaw_52 rfl (fun h52 => ?_) (fun h52 => ?_)
      · have nk : tkS tp n 0 (i + 2) ≠ 11 := (q49.resolve_left (fun q => by have := q.1; omega)).2
        refine x_keep [1] ?_
        first | (have z := hbz; exact hB K c1 (i + 2) S1 hRK (by omega) (fun q => absurd q hbz) (fun _ => by rw [hR, cp_ck, chk_0 z0, cp_ck]; exact chk_1 hbz) hFr) | (have z := nk; exact hB K c1 (i + 2) S1 hRK (by omega) (fun q => ⟨hrl1, by rw [hR, ckR_0 z0, ckR_0 z1]; unfold spoR; rw [if_neg nk]⟩) (fun q => absurd z1 q) hFr) | (have z := hk; exact hB _ (belC (tkS tp n) (S 0 2) (i + 3), tkS tp n 1 (i + 3)) (i + 4) (uI S1 0 4 (tkS tp n 2 (i + 3))) (rs65.fr fz) (by omega) (fun q => ⟨rl65 q, by rw [hR, ckR_0 z0, ckR_0 z1]; unfold spoR; rw [if_pos hk, s10 2 (by decide), show i + 2 + 1 = i + 3 by omega, ckR_0 q, show i + 2 + 2 = i + 4 by omega]⟩) (fun q => by rw [hR, ckR_0 z0, ckR_0 z1]; unfold spoR; rw [if_pos hk, s10 2 (by decide), show i + 2 + 1 = i + 3 by omega, cp_ck]; exact chk_1 q) (hFr.tr (fy.mo (by decide) (by decide))))
      · have hk : tkS tp n 0 (i + 2) = 11 := (q49.resolve_right (fun q => by have := q.1; omega)).2
        refine y_aln (i := 0) dX12_readsLaw_55 at91.ne0 rfl rfl ?_
        refine x_callVV (c_X12_goes hW hgd.2.2.1 (by omega) hgd.2.2.2.1) dX12_readsLaw_56 lkX12_242 mfX12_goes cfX12 at91 rfl rfl rfl rfl (Nat.le_of_ble_eq_true rfl) (fun n56 I56 P56 hf56 => ?_)
        obtain ⟨rfl, rfl, fr56, tk56⟩ := hf56
        have g56 := hgd.go fr56 tk56
        rw [show i + 2 + 1 = i + 3 by omega] at g56
        have y28 : I56 91 28 = S 0 2 := by rw [fr56.2 28 (by decide), hrl1.1.1.2.1, s10 2 (by decide)]
        refine y_aln (i := 0) dX12_readsLaw_59 at91.ne0 rfl rfl ?_
        refine y_aln (i := 0) dX12_readsLaw_60 at91.ne0 rfl rfl ?_
        refine y_aln (i := 0) dX12_readsLaw_61 at91.ne0 rfl rfl ?_
        refine y_geti (z := 28) dX12_readsLaw_62 frX12_251 cfX12 at91 rfl rfl ?_
        refine x_callVI (c_X12_taken (x := ((0 : Int), (0 : Int))) hW (by omega) (RSt.o rfl g56)) dX12_readsLaw_65 lkX12_261 mfX12_taken cfX12 at91 rfl rfl rfl rfl (Nat.le_of_ble_eq_true rfl) (fun r65 I65 P65 hr65 hf65 => ?_)
        rw [chk_0 rfl, y28] at hf65
        obtain ⟨rfl, fr65, rs65, hv65⟩ := hf65
        rw [show i + 3 + 1 = i + 4 by omega] at rs65
        have fz : Fr [] [30] I65 (uI I65 91 30 r65) := Fr.rf.uf (by decide)
        have fy : Fr [] (30 :: pF) K (uI I65 91 30 r65) := ((fr56.mo (by decide) (by decide)).tr (fr65.mo (by decide) (by decide))).tr (fz.mo (by decide) (by decide))
        have rl65 : (belC (tkS tp n) (S 0 2) (i + 3)) = 0 → RLn (uI I65 91 30 r65) (uI S1 0 4 (tkS tp n 2 (i + 3))) := fun q => by
          obtain ⟨a1, a2, a3, a4, a5, a6, a7, a8⟩ := hrl1.1.1
          obtain ⟨b1, b2, b3, b4, b5, b6, b7, b8, b9⟩ := hrl1.2
          have w0 : ∀ k : Int, k ≠ 4 → uI S1 0 4 (tkS tp n 2 (i + 3)) 0 k = S1 0 k := fun k hk => by rw [uI_eq, u1_ne hk]
          have wa : ∀ a, a ≠ 0 → uI S1 0 4 (tkS tp n 2 (i + 3)) a = S1 a := fun a ha => uI_ne ha
          refine RL_fld hrl1 fy (fun a h0 _ => wa a h0) ⟨w0 1 (by decide), w0 5 (by decide), w0 6 (by decide)⟩ ?_ ?_
          · unfold SB
            rw [w0 1 (by decide), w0 2 (by decide), w0 5 (by decide), w0 6 (by decide), w0 7 (by decide), wa 3 (by decide), wa 8 (by decide), wa 9 (by decide), wa 10 (by decide), wa 11 (by decide)]
            exact ⟨b1, b2, b3, b4, b5, b6, b7, b8, b9⟩
          · rw [w0 1 (by decide), w0 2 (by decide), w0 3 (by decide), w0 7 (by decide), w0 5 (by decide), w0 6 (by decide), wa 11 (by decide), fy.2 27 (by decide), fy.2 28 (by decide), fy.2 29 (by decide), fy.2 33 (by decide), fy.2 31 (by decide), fy.2 32 (by decide), fy.2 34 (by decide), uI_eq, u1_eq, uI_eq, u1_eq]
            exact ⟨a1, a2, a3, (hv65 q).1, a5, a6, a7, a8⟩
        refine y_puti (z := 30) dX12_readsLaw_68 frX12_281 cfX12 at91 rfl rfl rfl ?_
        refine x_keep [1] ?_
        first | (have z := hbz; exact hB K c1 (i + 2) S1 hRK (by omega) (fun q => absurd q hbz) (fun _ => by rw [hR, cp_ck, chk_0 z0, cp_ck]; exact chk_1 hbz) hFr) | (have z := nk; exact hB K c1 (i + 2) S1 hRK (by omega) (fun q => ⟨hrl1, by rw [hR, ckR_0 z0, ckR_0 z1]; unfold spoR; rw [if_neg nk]⟩) (fun q => absurd z1 q) hFr) | (have z := hk; exact hB _ (belC (tkS tp n) (S 0 2) (i + 3), tkS tp n 1 (i + 3)) (i + 4) (uI S1 0 4 (tkS tp n 2 (i + 3))) (rs65.fr fz) (by omega) (fun q => ⟨rl65 q, by rw [hR, ckR_0 z0, ckR_0 z1]; unfold spoR; rw [if_pos hk, s10 2 (by decide), show i + 2 + 1 = i + 3 by omega, ckR_0 q, show i + 2 + 2 = i + 4 by omega]⟩) (fun q => by rw [hR, ckR_0 z0, ckR_0 z1]; unfold spoR; rw [if_pos hk, s10 2 (by decide), show i + 2 + 1 = i + 3 by omega, cp_ck]; exact chk_1 q) (hFr.tr (fy.mo (by decide) (by decide))))
  have h1 : ∀ K : Mem, RSt K tp n c0 i → Fr [] pF I K → V G mX12_readsLaw (d + 3) 0 0 12 [some (.inr (.inl 91))] [] NO K P (qV (fun n' I' P' => n' = NO ∧ P' = P ∧ Fr [] paF I I' ∧ PSG I' tp n (lawR (tkS tp n) (i + 1) S))) := fun K hRK hFr => by
    refine y_aln (i := 0) dX12_readsLaw_12 at91.ne0 rfl rfl ?_
    refine x_callVI (c_X12_isGood hW hRK) dX12_readsLaw_13 lkX12_238 mfX12_isGood cfX12 at91 rfl rfl rfl rfl (Nat.le_of_ble_eq_true rfl) (fun r13 I13 P13 hr13 hf13 => ?_)
    obtain ⟨i13, p13, q13⟩ := hf13
    rw [i13, p13]
    refine x_if_ne (tgt := 20) dX12_readsLaw_16 rfl (fun h16 => ?_) (fun h16 => ?_)
    · have z0 := (q13.resolve_right (fun q => by have := q.1; omega)).2
      have hg := hRK.g z0
      have fw : Fr [] [34] K (uI K 91 34 1) := Fr.rf.uf (by decide)
      have hgw := hg.fr fw
      refine y_aln (i := 0) dX12_readsLaw_20 at91.ne0 rfl rfl ?_
      refine y_ic dX12_readsLaw_21 ⟨by decide, by decide⟩ ?_
      refine y_putz (z := 34) dX12_readsLaw_22 frX12_274 cfX12 at91 rfl rfl rfl (by omega) ?_
      refine y_aln (i := 0) dX12_readsLaw_25 at91.ne0 rfl rfl ?_
      refine x_callVV (c_X12_goes hW hgw.2.2.1 (by omega) hgw.2.2.2.1) dX12_readsLaw_26 lkX12_242 mfX12_goes cfX12 at91 rfl rfl rfl rfl (Nat.le_of_ble_eq_true rfl) (fun n26 I26 P26 hf26 => ?_)
      obtain ⟨rfl, rfl, fr26, tk26⟩ := hf26
      have hg2 := hgw.go fr26 tk26
      refine y_aln (i := 0) dX12_readsLaw_29 at91.ne0 rfl rfl ?_
      refine y_aln (i := 0) dX12_readsLaw_30 at91.ne0 rfl rfl ?_
      refine y_ic dX12_readsLaw_31 ⟨by decide, by decide⟩ ?_
      refine y_ic dX12_readsLaw_32 ⟨by decide, by decide⟩ ?_
      refine x_callVI (c_X12_number (x := ((0 : Int), (0 : Int))) hW (by omega) (RSt.o rfl hg2) (by decide)) dX12_readsLaw_33 lkX12_257 mfX12_number cfX12 at91 rfl rfl rfl rfl (Nat.le_of_ble_eq_true rfl) (fun r33 I33 P33 hr33 hf33 => ?_)
      rw [chk_0 rfl, ← hc1] at hf33
      obtain ⟨rfl, fr33, rs33, hr33, hv33⟩ := hf33
      rw [show i + 1 + 1 = i + 2 by omega] at rs33
      have fz : Fr [] [29] I33 (uI I33 91 29 r33) := Fr.rf.uf (by decide)
      have fy : Fr [] (29 :: 34 :: pF) I (uI I33 91 29 r33) := (((hFr.mo (by decide) (by decide)).tr (fw.mo (by decide) (by decide))).tr (fr26.mo (by decide) (by decide))).tr ((fr33.mo (by decide) (by decide)).tr (fz.mo (by decide) (by decide)))
      have y34 : uI I33 91 29 r33 91 34 = 1 := by rw [uI_eq, u1_ne (by decide), fr33.2 34 (by decide), fr26.2 34 (by decide), uI_eq, u1_eq]
      refine y_puti (z := 29) dX12_readsLaw_36 frX12_278 cfX12 at91 rfl rfl rfl ?_
      refine x_keep [1] ?_
      refine hSp z0 _ (rs33.fr fz) (fun q => ?_) (fy.mo (by decide) (by decide))
      refine RL_fld hS fy s1a ⟨s10 1 (by decide), s10 5 (by decide), s10 6 (by decide)⟩ sb1 ?_
      rw [s10 1 (by decide), s10 2 (by decide), s13, s10 4 (by decide), s10 5 (by decide), s10 6 (by decide), s10 7 (by decide), s111, fy.2 27 (by decide), fy.2 28 (by decide), fy.2 30 (by decide), fy.2 31 (by decide), fy.2 32 (by decide), fy.2 33 (by decide), y34, uI_eq, u1_eq]
      exact ⟨e27, e28, hv33 q, e30, e31, e32, e33, rfl⟩
    · have hbz := (q13.resolve_left (fun q => by have := q.1; omega)).2
      refine x_vret dX12_readsLaw_19 rfl ?_
      exact ⟨rfl, rfl, hFr.mo (by decide) (by decide), PSG.bad hRK hbz (by rw [hR, cp_ck]; exact chk_1 hbz)⟩
  refine y_aln (i := 0) dX12_readsLaw_0 at91.ne0 rfl rfl ?_
  refine y_geti (z := 34) dX12_readsLaw_1 frX12_274 cfX12 at91 rfl rfl ?_
  rw [e34]
  refine x_if_eq (tgt := 12) dX12_readsLaw_4 rfl (fun h4 => ?_) (fun h4 => ?_)
  · have w0 : S 11 0 = 0 := h4
    refine x_keep [1] ?_
    first | (have z := w5; exact h1 I9 (by rw [hc0, if_neg w5]; exact rs9) (fr9.mo (by decide) (by decide))) | (have z := w0; exact h1 I (by rw [hc0, if_pos w0]; exact RSt.o rfl hG) Fr.rf)
  · have w5 : ¬ S 11 0 = 0 := h4
    refine y_aln (i := 0) dX12_readsLaw_7 at91.ne0 rfl rfl ?_
    refine y_ic dX12_readsLaw_8 ⟨by decide, by decide⟩ ?_
    refine x_callVV (c_X12_wrong hW hR0 (by decide)) dX12_readsLaw_9 lkX12_245 mfX12_wrong cfX12 at91 rfl rfl rfl rfl (Nat.le_of_ble_eq_true rfl) (fun n9 I9 P9 hf9 => ?_)
    rw [chk_0 rfl] at hf9
    obtain ⟨rfl, rfl, fr9, rs9⟩ := hf9
    refine x_keep [1] ?_
    first | (have z := w5; exact h1 I9 (by rw [hc0, if_neg w5]; exact rs9) (fr9.mo (by decide) (by decide))) | (have z := w0; exact h1 I (by rw [hc0, if_pos w0]; exact RSt.o rfl hG) Fr.rf)
theorem c_X12_readsTie {tp : Rw} {n i : Int} {S : Tn} (hW : WP P) (hi0 : 0 ≤ i) (hG : GD I tp n i) (hS : RLn I S) : Cv G mX12_readsTie (d + 3) 0 0 [.inr (.inl 91)] NO I P (qV (fun n' I' P' => n' = NO ∧ P' = P ∧ Fr [105] paF I I' ∧ PSG I' tp n (tieR (tkS tp n) (i + 1) S))) := by
  obtain ⟨e27, e28, e29, e30, e31, e32, e33, e34⟩ := hS.1.1
  have f5 := hS.2.2.2.1
  have hR0 : RSt I tp n (0, 0) i := RSt.o rfl hG
  obtain ⟨c0, hc0⟩ : ∃ c0 : Int × Int, c0 = (if S 0 5 = 4 then 2 else 0, tkS tp n 1 i) := ⟨_, rfl⟩
  obtain ⟨c1, hc1⟩ : ∃ c1 : Int × Int, c1 = (belC (tkS tp n) (S 0 2) (i + 1), tkS tp n 1 (i + 1)) := ⟨_, rfl⟩
  obtain ⟨c2, hc2⟩ : ∃ c2 : Int × Int, c2 = (belC (tkS tp n) (S 0 2) (i + 2), tkS tp n 1 (i + 2)) := ⟨_, rfl⟩
  obtain ⟨c3, hc3⟩ : ∃ c3 : Int × Int, c3 = (belC (tkS tp n) (S 0 2) (i + 3), tkS tp n 1 (i + 3)) := ⟨_, rfl⟩
  obtain ⟨c4, hc4⟩ : ∃ c4 : Int × Int, c4 = (if tkS tp n 2 (i + 3) = tkS tp n 2 (i + 1) ∨ tkS tp n 2 (i + 3) = tkS tp n 2 (i + 2) then 4 else 0, tkS tp n 1 (i + 3)) := ⟨_, rfl⟩
  have hR : tieR (tkS tp n) (i + 1) S = ckR c0.1 c0.2 S (ckR c1.1 c1.2 S (ckR c2.1 c2.2 S (ckR c3.1 c3.2 S (ckR c4.1 c4.2 S (sgnR (tkS tp n) (i + 4) (tieW S (tkS tp n 2 (i + 1)) (tkS tp n 2 (i + 2)) (tkS tp n 2 (i + 3)))))))) := by
    unfold tieR
    rw [hc0, hc1, hc2, hc3, hc4, show i + 1 - 1 = i by omega, show i + 1 + 1 = i + 2 by omega, show i + 1 + 2 = i + 3 by omega, show i + 1 + 3 = i + 4 by omega]
  refine x_enter mfX12_readsTie rfl (Nat.le_of_ble_eq_true rfl) (fun _ => ?_)
  have h2 : c0.1 = 0 → ∀ (K : Mem) (a b : Int), RSt K tp n (chk (chk (chk c1 c2) c3) c4) (i + 3) → Fr [] pF I K → ((chk (chk (chk c1 c2) c3) c4).1 = 0 → a = tkS tp n 2 (i + 1) ∧ b = tkS tp n 2 (i + 2) ∧ K 91 25 = tkS tp n 2 (i + 3)) → V G mX12_readsTie (d + 3) 0 0 75 [some (.inr (.inl 91)), some (.inl (a)), some (.inl (b)), none] [] NO K P (qV (fun n' I' P' => n' = NO ∧ P' = P ∧ Fr [105] paF I I' ∧ PSG I' tp n (tieR (tkS tp n) (i + 1) S))) := fun z0 K a b hRK hFr hv => by
    refine y_aln (i := 0) dX12_readsTie_75 at91.ne0 rfl rfl ?_
    refine y_geti (z := 25) dX12_readsTie_76 frX12_211 cfX12 at91 rfl rfl ?_
    refine x_istore_n (i := 3) dX12_readsTie_79 rfl rfl (Nat.le_of_ble_eq_true rfl) ?_
    refine y_aln (i := 0) dX12_readsTie_80 at91.ne0 rfl rfl ?_
    refine x_callVI (c_X12_isGood hW hRK) dX12_readsTie_81 lkX12_238 mfX12_isGood cfX12 at91 rfl rfl rfl rfl (Nat.le_of_ble_eq_true rfl) (fun r81 I81 P81 hr81 hf81 => ?_)
    obtain ⟨i81, p81, q81⟩ := hf81
    rw [i81, p81]
    refine x_if_ne (tgt := 88) dX12_readsTie_84 rfl (fun h84 => ?_) (fun h84 => ?_)
    · have hgz := (q81.resolve_right (fun q => by have := q.1; omega)).2
      have hg := hRK.g hgz
      have hv2 := hv hgz
      have hgz2 := chk_z.mp hgz
      have hgz3 := chk_z.mp hgz2.1
      have hgz4 := chk_z.mp hgz3.1
      rw [hv2.1, hv2.2.1, hv2.2.2]
      have ne4 : S 0 5 < 4 := by
        by_cases q : S 0 5 = 4
        · rw [hc0, if_pos q] at z0; exact absurd (show (2 : Int) = 0 from z0) (by decide)
        · omega
      refine y_aln (i := 0) dX12_readsTie_88 at91.ne0 rfl rfl ?_
      refine x_callVV (c_X12_goes hW hg.2.2.1 (by omega) hg.2.2.2.1) dX12_readsTie_89 lkX12_242 mfX12_goes cfX12 at91 rfl rfl rfl rfl (Nat.le_of_ble_eq_true rfl) (fun n89 I89 P89 hf89 => ?_)
      obtain ⟨rfl, rfl, fr89, tk89⟩ := hf89
      have hg2 := hg.go fr89 tk89
      rw [show i + 3 + 1 = i + 4 by omega] at hg2
      have hFr2 : Fr [] pF I I89 := hFr.tr (fr89.mo (by decide) (by decide))
      have k31 : I89 91 31 = S 0 5 := (hFr2.2 31 (by decide)).trans e31
      have k105 : I89 105 = I 105 := hFr2.1 105 (by decide) (by decide)
      refine y_aln (i := 0) dX12_readsTie_92 at91.ne0 rfl rfl ?_
      refine y_getp (z := 39) (v := 105) dX12_readsTie_93 frX12_62 cfX12 at91 rfl rfl (wp (v := 105) hW rfl rfl (by decide)) ?_
      refine y_ic dX12_readsTie_96 ⟨by decide, by decide⟩ ?_
      refine y_aln (i := 0) dX12_readsTie_97 at91.ne0 rfl rfl ?_
      refine y_geti (z := 31) dX12_readsTie_98 frX12_287 cfX12 at91 rfl rfl ?_
      refine x_imul dX12_readsTie_101 (by rw [k31]; exact ⟨by omega, by omega⟩) ?_
      rw [k31]
      refine x_iload_n (i := 1) dX12_readsTie_102 rfl rfl ?_
      refine x_iast dX12_readsTie_103 ar105 ⟨by omega, by omega⟩ ?_
      refine y_aln (i := 0) dX12_readsTie_104 at91.ne0 rfl rfl ?_
      refine y_getp (z := 39) (v := 105) dX12_readsTie_105 frX12_62 cfX12 at91 rfl rfl (wp (v := 105) hW rfl rfl (by decide)) ?_
      refine y_ic dX12_readsTie_108 ⟨by decide, by decide⟩ ?_
      refine y_aln (i := 0) dX12_readsTie_109 at91.ne0 rfl rfl ?_
      refine y_geti (z := 31) dX12_readsTie_110 frX12_287 cfX12 at91 rfl rfl ?_
      refine x_imul dX12_readsTie_113 (by rw [uI_ne (by decide), k31]; exact ⟨by omega, by omega⟩) ?_
      refine y_ic dX12_readsTie_114 ⟨by decide, by decide⟩ ?_
      refine x_iadd dX12_readsTie_115 (by rw [uI_ne (by decide), k31]; exact ⟨by omega, by omega⟩) ?_
      rw [uI_ne (by decide), k31]
      refine x_iload_n (i := 2) dX12_readsTie_116 rfl rfl ?_
      refine x_iast dX12_readsTie_117 ar105 ⟨by omega, by omega⟩ ?_
      refine y_aln (i := 0) dX12_readsTie_118 at91.ne0 rfl rfl ?_
      refine y_getp (z := 39) (v := 105) dX12_readsTie_119 frX12_62 cfX12 at91 rfl rfl (wp (v := 105) hW rfl rfl (by decide)) ?_
      refine y_ic dX12_readsTie_122 ⟨by decide, by decide⟩ ?_
      refine y_aln (i := 0) dX12_readsTie_123 at91.ne0 rfl rfl ?_
      refine y_geti (z := 31) dX12_readsTie_124 frX12_287 cfX12 at91 rfl rfl ?_
      refine x_imul dX12_readsTie_127 (by rw [uI_ne (by decide), uI_ne (by decide), k31]; exact ⟨by omega, by omega⟩) ?_
      refine y_ic dX12_readsTie_128 ⟨by decide, by decide⟩ ?_
      refine x_iadd dX12_readsTie_129 (by rw [uI_ne (by decide), uI_ne (by decide), k31]; exact ⟨by omega, by omega⟩) ?_
      rw [uI_ne (by decide), uI_ne (by decide), k31]
      refine x_iload_n (i := 3) dX12_readsTie_130 rfl rfl ?_
      refine x_iast dX12_readsTie_131 ar105 ⟨by omega, by omega⟩ ?_
      refine y_aln (i := 0) dX12_readsTie_132 at91.ne0 rfl rfl ?_
      refine x_dup dX12_readsTie_133 rfl ?_
      refine y_geti (z := 31) dX12_readsTie_134 frX12_287 cfX12 at91 rfl rfl ?_
      refine y_ic dX12_readsTie_137 ⟨by decide, by decide⟩ ?_
      refine x_iadd dX12_readsTie_138 (by rw [uI_ne (by decide), uI_ne (by decide), uI_ne (by decide), k31]; exact ⟨by omega, by omega⟩) ?_
      rw [uI_ne (by decide), uI_ne (by decide), uI_ne (by decide), k31]
      refine y_puti (z := 31) dX12_readsTie_139 frX12_287 cfX12 at91 rfl rfl rfl ?_
      refine x_vret dX12_readsTie_142 rfl ?_
      obtain ⟨J, hJ⟩ : ∃ J, J = uI (uI (uI (uI I89 105 (3 * S 0 5) (tkS tp n 2 (i + 1))) 105 (3 * S 0 5 + 1) (tkS tp n 2 (i + 2))) 105 (3 * S 0 5 + 2) (tkS tp n 2 (i + 3))) 91 31 (S 0 5 + 1) := ⟨_, rfl⟩
      rw [← hJ]
      have fJ : Fr [105] [31] I89 J := by rw [hJ]; exact (((Fr.rf.ui (by decide) (by decide)).ui (by decide) (by decide)).ui (by decide) (by decide)).uf (by decide)
      have hFJ : Fr [105] (31 :: pF) I J := (hFr2.mo (by decide) (by decide)).tr (fJ.mo (by decide) (by decide))
      refine ⟨rfl, rfl, hFJ.mo (by decide) (by decide), Or.inl ⟨i + 4, _, by rw [hR, ckR_0 z0, ckR_0 hgz4.1, ckR_0 hgz4.2, ckR_0 hgz3.2, ckR_0 hgz2.2], by omega, hg2.fr fJ, tieS_RL hS ne4 hFJ ?_ ?_⟩⟩
      · rw [hJ, uI_ne (by decide), uI_eq, uI_eq, uI_eq, k105]
      · rw [hJ, uI_eq, u1_eq]
    · have hbz := (q81.resolve_left (fun q => by have := q.1; omega)).2
      refine x_vret dX12_readsTie_87 rfl ?_
      exact ⟨rfl, rfl, hFr.mo (by decide) (by decide), PSG.bad hRK hbz (by
        rw [hR, cp_ck, chk_0 z0, cp_ck, cp_ck, cp_ck, cp_ck, ← chk_a, ← chk_a, ← chk_a]
        exact chk_1 hbz)⟩
  have h1 : ∀ K : Mem, RSt K tp n c0 i → Fr [] pF I K → V G mX12_readsTie (d + 3) 0 0 13 [some (.inr (.inl 91)), none, none, none] [] NO K P (qV (fun n' I' P' => n' = NO ∧ P' = P ∧ Fr [105] paF I I' ∧ PSG I' tp n (tieR (tkS tp n) (i + 1) S))) := fun K hRK hFr => by
    refine y_aln (i := 0) dX12_readsTie_13 at91.ne0 rfl rfl ?_
    refine x_callVI (c_X12_isGood hW hRK) dX12_readsTie_14 lkX12_238 mfX12_isGood cfX12 at91 rfl rfl rfl rfl (Nat.le_of_ble_eq_true rfl) (fun r14 I14 P14 hr14 hf14 => ?_)
    obtain ⟨i14, p14, q14⟩ := hf14
    rw [i14, p14]
    refine x_if_ne (tgt := 21) dX12_readsTie_17 rfl (fun h17 => ?_) (fun h17 => ?_)
    · have z0 := (q14.resolve_right (fun q => by have := q.1; omega)).2
      have hg := hRK.g z0
      refine y_aln (i := 0) dX12_readsTie_21 at91.ne0 rfl rfl ?_
      refine x_callVV (c_X12_goes hW hg.2.2.1 (by omega) hg.2.2.2.1) dX12_readsTie_22 lkX12_242 mfX12_goes cfX12 at91 rfl rfl rfl rfl (Nat.le_of_ble_eq_true rfl) (fun n22 I22 P22 hf22 => ?_)
      obtain ⟨rfl, rfl, fr22, tk22⟩ := hf22
      have hg2 := hg.go fr22 tk22
      have hFr2 : Fr [] pF I I22 := hFr.tr (fr22.mo (by decide) (by decide))
      have k28 : I22 91 28 = S 0 2 := (hFr2.2 28 (by decide)).trans e28
      refine y_aln (i := 0) dX12_readsTie_25 at91.ne0 rfl rfl ?_
      refine y_aln (i := 0) dX12_readsTie_26 at91.ne0 rfl rfl ?_
      refine y_geti (z := 28) dX12_readsTie_27 frX12_251 cfX12 at91 rfl rfl ?_
      refine x_callVI (c_X12_taken (x := ((0 : Int), (0 : Int))) hW (by omega) (RSt.o rfl hg2)) dX12_readsTie_30 lkX12_261 mfX12_taken cfX12 at91 rfl rfl rfl rfl (Nat.le_of_ble_eq_true rfl) (fun r30 I30 P30 hr30 hf30 => ?_)
      rw [chk_0 rfl, k28, ← hc1] at hf30
      obtain ⟨rfl, fr30, rs30, hv30⟩ := hf30
      rw [show i + 1 + 1 = i + 2 by omega] at rs30
      have k28b : I30 91 28 = S 0 2 := (fr30.2 28 (by decide)).trans k28
      refine x_istore_n (i := 1) dX12_readsTie_33 rfl rfl (Nat.le_of_ble_eq_true rfl) ?_
      refine y_aln (i := 0) dX12_readsTie_34 at91.ne0 rfl rfl ?_
      refine y_aln (i := 0) dX12_readsTie_35 at91.ne0 rfl rfl ?_
      refine y_geti (z := 28) dX12_readsTie_36 frX12_251 cfX12 at91 rfl rfl ?_
      refine x_callVI (c_X12_taken hW (by omega) rs30) dX12_readsTie_39 lkX12_261 mfX12_taken cfX12 at91 rfl rfl rfl rfl (Nat.le_of_ble_eq_true rfl) (fun r39 I39 P39 hr39 hf39 => ?_)
      rw [k28b, ← hc2] at hf39
      obtain ⟨rfl, fr39, rs39, hv39⟩ := hf39
      rw [show i + 2 + 1 = i + 3 by omega] at rs39
      have k28c : I39 91 28 = S 0 2 := (fr39.2 28 (by decide)).trans k28b
      have hFr3 : Fr [] pF I I39 := (hFr2.tr fr30).tr fr39
      refine x_istore_n (i := 2) dX12_readsTie_42 rfl rfl (Nat.le_of_ble_eq_true rfl) ?_
      refine y_aln (i := 0) dX12_readsTie_43 at91.ne0 rfl rfl ?_
      refine y_aln (i := 0) dX12_readsTie_44 at91.ne0 rfl rfl ?_
      refine y_geti (z := 28) dX12_readsTie_45 frX12_251 cfX12 at91 rfl rfl ?_
      refine x_callVI (c_X12_among hW rs39) dX12_readsTie_48 lkX12_248 mfX12_among cfX12 at91 rfl rfl rfl rfl (Nat.le_of_ble_eq_true rfl) (fun r48 I48 P48 hr48 hf48 => ?_)
      rw [k28c, ← hc3] at hf48
      obtain ⟨rfl, fr48, rs48, h48⟩ := hf48
      have hFr4 : Fr [] pF I I48 := hFr3.tr (fr48.mo (by decide) (by decide))
      refine x_if_eq (tgt := 75) dX12_readsTie_51 rfl (fun h51 => ?_) (fun h51 => ?_)
      · have hbz := (h48.resolve_left (fun q => by have := q.1; omega)).2
        refine x_keep [1, 1, 1, 0] ?_
        first | (have z := geq; have hx : ((4 : Int), tkS tp n 1 (i + 3)) = c4 := (by rw [hc4, if_pos geq]); rw [hx] at rs72; exact h2 z0 I72 _ _ rs72 (hFr4.tr (fr72.mo (by decide) (by decide))) (fun q => by rw [k25]; exact ⟨ga, gb, gv1⟩)) | (have z := gne; have hx : ((0 : Int), tkS tp n 1 (i + 3)) = c4 := (by rw [hc4, if_neg gne]); have rsz := rs48.z (p := tkS tp n 1 (i + 3)); rw [hx] at rsz; exact h2 z0 I48 _ _ rsz hFr4 (fun q => ⟨ga, gb, gv1⟩)) | (have z := hbz; exact h2 z0 I48 _ _ (rs48.b hbz) hFr4 (fun q => absurd (chk_z.mp q).1 hbz))
      · obtain ⟨-, gz, gv1, gv2, gv3⟩ := h48.resolve_right (fun q => by have := q.1; omega)
        have ga := (hv30 (chk_z.mp (chk_z.mp gz).1).1).1
        have gb := (hv39 (chk_z.mp gz).1).1
        refine y_aln (i := 0) dX12_readsTie_54 at91.ne0 rfl rfl ?_
        refine y_geti (z := 25) dX12_readsTie_55 frX12_211 cfX12 at91 rfl rfl ?_
        refine x_iload_n (i := 1) dX12_readsTie_58 rfl rfl ?_
        refine x_icmp_eq (tgt := 70) dX12_readsTie_59 rfl (fun h59 => ?_) (fun h59 => ?_)
        · have geq : tkS tp n 2 (i + 3) = tkS tp n 2 (i + 1) ∨ tkS tp n 2 (i + 3) = tkS tp n 2 (i + 2) := by omega
          refine y_aln (i := 0) dX12_readsTie_70 at91.ne0 rfl rfl ?_
          refine y_ic dX12_readsTie_71 ⟨by decide, by decide⟩ ?_
          refine x_callVV (c_X12_wrong hW rs48 (by decide)) dX12_readsTie_72 lkX12_245 mfX12_wrong cfX12 at91 rfl rfl rfl rfl (Nat.le_of_ble_eq_true rfl) (fun n72 I72 P72 hf72 => ?_)
          obtain ⟨rfl, rfl, fr72, rs72⟩ := hf72
          have k25 : I72 91 25 = I48 91 25 := fr72.2 25 (by decide)
          refine x_keep [1, 1, 1, 0] ?_
          first | (have z := geq; have hx : ((4 : Int), tkS tp n 1 (i + 3)) = c4 := (by rw [hc4, if_pos geq]); rw [hx] at rs72; exact h2 z0 I72 _ _ rs72 (hFr4.tr (fr72.mo (by decide) (by decide))) (fun q => by rw [k25]; exact ⟨ga, gb, gv1⟩)) | (have z := gne; have hx : ((0 : Int), tkS tp n 1 (i + 3)) = c4 := (by rw [hc4, if_neg gne]); have rsz := rs48.z (p := tkS tp n 1 (i + 3)); rw [hx] at rsz; exact h2 z0 I48 _ _ rsz hFr4 (fun q => ⟨ga, gb, gv1⟩)) | (have z := hbz; exact h2 z0 I48 _ _ (rs48.b hbz) hFr4 (fun q => absurd (chk_z.mp q).1 hbz))
        · refine y_aln (i := 0) dX12_readsTie_62 at91.ne0 rfl rfl ?_
          refine y_geti (z := 25) dX12_readsTie_63 frX12_211 cfX12 at91 rfl rfl ?_
          refine x_iload_n (i := 2) dX12_readsTie_66 rfl rfl ?_
          refine x_icmp_ne (tgt := 75) dX12_readsTie_67 rfl (fun h67 => ?_) (fun h67 => ?_)
          · have gne : ¬ (tkS tp n 2 (i + 3) = tkS tp n 2 (i + 1) ∨ tkS tp n 2 (i + 3) = tkS tp n 2 (i + 2)) := by omega
            refine x_keep [1, 1, 1, 0] ?_
            first | (have z := geq; have hx : ((4 : Int), tkS tp n 1 (i + 3)) = c4 := (by rw [hc4, if_pos geq]); rw [hx] at rs72; exact h2 z0 I72 _ _ rs72 (hFr4.tr (fr72.mo (by decide) (by decide))) (fun q => by rw [k25]; exact ⟨ga, gb, gv1⟩)) | (have z := gne; have hx : ((0 : Int), tkS tp n 1 (i + 3)) = c4 := (by rw [hc4, if_neg gne]); have rsz := rs48.z (p := tkS tp n 1 (i + 3)); rw [hx] at rsz; exact h2 z0 I48 _ _ rsz hFr4 (fun q => ⟨ga, gb, gv1⟩)) | (have z := hbz; exact h2 z0 I48 _ _ (rs48.b hbz) hFr4 (fun q => absurd (chk_z.mp q).1 hbz))
          · have geq : tkS tp n 2 (i + 3) = tkS tp n 2 (i + 1) ∨ tkS tp n 2 (i + 3) = tkS tp n 2 (i + 2) := by omega
            refine y_aln (i := 0) dX12_readsTie_70 at91.ne0 rfl rfl ?_
            refine y_ic dX12_readsTie_71 ⟨by decide, by decide⟩ ?_
            refine x_callVV (c_X12_wrong hW rs48 (by decide)) dX12_readsTie_72 lkX12_245 mfX12_wrong cfX12 at91 rfl rfl rfl rfl (Nat.le_of_ble_eq_true rfl) (fun n72 I72 P72 hf72 => ?_)
            obtain ⟨rfl, rfl, fr72, rs72⟩ := hf72
            have k25 : I72 91 25 = I48 91 25 := fr72.2 25 (by decide)
            refine x_keep [1, 1, 1, 0] ?_
            first | (have z := geq; have hx : ((4 : Int), tkS tp n 1 (i + 3)) = c4 := (by rw [hc4, if_pos geq]); rw [hx] at rs72; exact h2 z0 I72 _ _ rs72 (hFr4.tr (fr72.mo (by decide) (by decide))) (fun q => by rw [k25]; exact ⟨ga, gb, gv1⟩)) | (have z := gne; have hx : ((0 : Int), tkS tp n 1 (i + 3)) = c4 := (by rw [hc4, if_neg gne]); have rsz := rs48.z (p := tkS tp n 1 (i + 3)); rw [hx] at rsz; exact h2 z0 I48 _ _ rsz hFr4 (fun q => ⟨ga, gb, gv1⟩)) | (have z := hbz; exact h2 z0 I48 _ _ (rs48.b hbz) hFr4 (fun q => absurd (chk_z.mp q).1 hbz))
    · have hbz := (q14.resolve_left (fun q => by have := q.1; omega)).2
      refine x_vret dX12_readsTie_20 rfl ?_
      exact ⟨rfl, rfl, hFr.mo (by decide) (by decide), PSG.bad hRK hbz (by rw [hR, cp_ck]; exact chk_1 hbz)⟩
  refine y_aln (i := 0) dX12_readsTie_0 at91.ne0 rfl rfl ?_
  refine y_geti (z := 31) dX12_readsTie_1 frX12_287 cfX12 at91 rfl rfl ?_
  refine y_ic dX12_readsTie_4 ⟨by decide, by decide⟩ ?_
  rw [e31]
  refine x_icmp_ne (tgt := 13) dX12_readsTie_5 rfl (fun h5 => ?_) (fun h5 => ?_)
  · have w0 : ¬ S 0 5 = 4 := fun q => h5 q
    refine x_keep [1, 0, 0, 0] ?_
    first | (have z := w4; exact h1 I10 (by rw [hc0, if_pos w4]; exact rs10) (fr10.mo (by decide) (by decide))) | (have z := w0; exact h1 I (by rw [hc0, if_neg w0]; exact RSt.o rfl hG) Fr.rf)
  · have w4 : S 0 5 = 4 := by omega
    refine y_aln (i := 0) dX12_readsTie_8 at91.ne0 rfl rfl ?_
    refine y_ic dX12_readsTie_9 ⟨by decide, by decide⟩ ?_
    refine x_callVV (c_X12_wrong hW hR0 (by decide)) dX12_readsTie_10 lkX12_245 mfX12_wrong cfX12 at91 rfl rfl rfl rfl (Nat.le_of_ble_eq_true rfl) (fun n10 I10 P10 hf10 => ?_)
    rw [chk_0 rfl] at hf10
    obtain ⟨rfl, rfl, fr10, rs10⟩ := hf10
    refine x_keep [1, 0, 0, 0] ?_
    first | (have z := w4; exact h1 I10 (by rw [hc0, if_pos w4]; exact rs10) (fr10.mo (by decide) (by decide))) | (have z := w0; exact h1 I (by rw [hc0, if_neg w0]; exact RSt.o rfl hG) Fr.rf)
theorem c_X12_readsMeeting {tp : Rw} {n i : Int} {S : Tn} (hW : WP P) (hi0 : 0 ≤ i) (hG : GD I tp n i) (hS : RLn I S) : Cv G mX12_readsMeeting (d + 3) 0 0 [.inr (.inl 91)] NO I P (qV (fun n' I' P' => n' = NO ∧ P' = P ∧ Fr [106] paF I I' ∧ PSG I' tp n (meetR (tkS tp n) (i + 1) S))) := by
  obtain ⟨e27, e28, e29, e30, e31, e32, e33, e34⟩ := hS.1.1
  have f6 := hS.2.2.2.2.1
  have hR0 : RSt I tp n (0, 0) i := RSt.o rfl hG
  obtain ⟨c0, hc0⟩ : ∃ c0 : Int × Int, c0 = (if S 0 6 = 8 then 2 else 0, tkS tp n 1 i) := ⟨_, rfl⟩
  obtain ⟨c1, hc1⟩ : ∃ c1 : Int × Int, c1 = (belC (tkS tp n) (S 0 1) (i + 1), tkS tp n 1 (i + 1)) := ⟨_, rfl⟩
  obtain ⟨c2, hc2⟩ : ∃ c2 : Int × Int, c2 = (belC (tkS tp n) (S 0 1) (i + 2), tkS tp n 1 (i + 2)) := ⟨_, rfl⟩
  obtain ⟨c3, hc3⟩ : ∃ c3 : Int × Int, c3 = (if tkS tp n 2 (i + 2) = tkS tp n 2 (i + 1) then 4 else 0, tkS tp n 1 (i + 2)) := ⟨_, rfl⟩
  have hR : meetR (tkS tp n) (i + 1) S = ckR c0.1 c0.2 S (ckR c1.1 c1.2 S (ckR c2.1 c2.2 S (ckR c3.1 c3.2 S (sgnR (tkS tp n) (i + 3) (meetW S (tkS tp n 2 (i + 1)) (tkS tp n 2 (i + 2))))))) := by
    unfold meetR
    rw [hc0, hc1, hc2, hc3, show i + 1 - 1 = i by omega, show i + 1 + 1 = i + 2 by omega, show i + 1 + 2 = i + 3 by omega]
  refine x_enter mfX12_readsMeeting rfl (Nat.le_of_ble_eq_true rfl) (fun _ => ?_)
  have h2 : c0.1 = 0 → ∀ (K : Mem) (a : Int), RSt K tp n (chk (chk c1 c2) c3) (i + 2) → Fr [] pF I K → ((chk (chk c1 c2) c3).1 = 0 → a = tkS tp n 2 (i + 1) ∧ K 91 25 = tkS tp n 2 (i + 2)) → V G mX12_readsMeeting (d + 3) 0 0 59 [some (.inr (.inl 91)), some (.inl (a)), none] [] NO K P (qV (fun n' I' P' => n' = NO ∧ P' = P ∧ Fr [106] paF I I' ∧ PSG I' tp n (meetR (tkS tp n) (i + 1) S))) := fun z0 K a hRK hFr hv => by
    refine y_aln (i := 0) dX12_readsMeeting_59 at91.ne0 rfl rfl ?_
    refine y_geti (z := 25) dX12_readsMeeting_60 frX12_211 cfX12 at91 rfl rfl ?_
    refine x_istore_n (i := 2) dX12_readsMeeting_63 rfl rfl (Nat.le_of_ble_eq_true rfl) ?_
    refine y_aln (i := 0) dX12_readsMeeting_64 at91.ne0 rfl rfl ?_
    refine x_callVI (c_X12_isGood hW hRK) dX12_readsMeeting_65 lkX12_238 mfX12_isGood cfX12 at91 rfl rfl rfl rfl (Nat.le_of_ble_eq_true rfl) (fun r65 I65 P65 hr65 hf65 => ?_)
    obtain ⟨i65, p65, q65⟩ := hf65
    rw [i65, p65]
    refine x_if_ne (tgt := 72) dX12_readsMeeting_68 rfl (fun h68 => ?_) (fun h68 => ?_)
    · have hgz := (q65.resolve_right (fun q => by have := q.1; omega)).2
      have hg := hRK.g hgz
      have hv2 := hv hgz
      have hgz2 := chk_z.mp hgz
      have hgz3 := chk_z.mp hgz2.1
      rw [hv2.1, hv2.2]
      have ne8 : S 0 6 < 8 := by
        by_cases q : S 0 6 = 8
        · rw [hc0, if_pos q] at z0; exact absurd (show (2 : Int) = 0 from z0) (by decide)
        · omega
      refine y_aln (i := 0) dX12_readsMeeting_72 at91.ne0 rfl rfl ?_
      refine x_callVV (c_X12_goes hW hg.2.2.1 (by omega) hg.2.2.2.1) dX12_readsMeeting_73 lkX12_242 mfX12_goes cfX12 at91 rfl rfl rfl rfl (Nat.le_of_ble_eq_true rfl) (fun n73 I73 P73 hf73 => ?_)
      obtain ⟨rfl, rfl, fr73, tk73⟩ := hf73
      have hg2 := hg.go fr73 tk73
      rw [show i + 2 + 1 = i + 3 by omega] at hg2
      have hFr2 : Fr [] pF I I73 := hFr.tr (fr73.mo (by decide) (by decide))
      have k32 : I73 91 32 = S 0 6 := (hFr2.2 32 (by decide)).trans e32
      have k106 : I73 106 = I 106 := hFr2.1 106 (by decide) (by decide)
      refine y_aln (i := 0) dX12_readsMeeting_76 at91.ne0 rfl rfl ?_
      refine y_getp (z := 40) (v := 106) dX12_readsMeeting_77 frX12_65 cfX12 at91 rfl rfl (wp (v := 106) hW rfl rfl (by decide)) ?_
      refine y_ic dX12_readsMeeting_80 ⟨by decide, by decide⟩ ?_
      refine y_aln (i := 0) dX12_readsMeeting_81 at91.ne0 rfl rfl ?_
      refine y_geti (z := 32) dX12_readsMeeting_82 frX12_290 cfX12 at91 rfl rfl ?_
      refine x_imul dX12_readsMeeting_85 (by rw [k32]; exact ⟨by omega, by omega⟩) ?_
      rw [k32]
      refine x_iload_n (i := 1) dX12_readsMeeting_86 rfl rfl ?_
      refine x_iast dX12_readsMeeting_87 ar106 ⟨by omega, by omega⟩ ?_
      refine y_aln (i := 0) dX12_readsMeeting_88 at91.ne0 rfl rfl ?_
      refine y_getp (z := 40) (v := 106) dX12_readsMeeting_89 frX12_65 cfX12 at91 rfl rfl (wp (v := 106) hW rfl rfl (by decide)) ?_
      refine y_ic dX12_readsMeeting_92 ⟨by decide, by decide⟩ ?_
      refine y_aln (i := 0) dX12_readsMeeting_93 at91.ne0 rfl rfl ?_
      refine y_geti (z := 32) dX12_readsMeeting_94 frX12_290 cfX12 at91 rfl rfl ?_
      refine x_imul dX12_readsMeeting_97 (by rw [uI_ne (by decide), k32]; exact ⟨by omega, by omega⟩) ?_
      refine y_ic dX12_readsMeeting_98 ⟨by decide, by decide⟩ ?_
      refine x_iadd dX12_readsMeeting_99 (by rw [uI_ne (by decide), k32]; exact ⟨by omega, by omega⟩) ?_
      rw [uI_ne (by decide), k32]
      refine x_iload_n (i := 2) dX12_readsMeeting_100 rfl rfl ?_
      refine x_iast dX12_readsMeeting_101 ar106 ⟨by omega, by omega⟩ ?_
      refine y_aln (i := 0) dX12_readsMeeting_102 at91.ne0 rfl rfl ?_
      refine x_dup dX12_readsMeeting_103 rfl ?_
      refine y_geti (z := 32) dX12_readsMeeting_104 frX12_290 cfX12 at91 rfl rfl ?_
      refine y_ic dX12_readsMeeting_107 ⟨by decide, by decide⟩ ?_
      refine x_iadd dX12_readsMeeting_108 (by rw [uI_ne (by decide), uI_ne (by decide), k32]; exact ⟨by omega, by omega⟩) ?_
      rw [uI_ne (by decide), uI_ne (by decide), k32]
      refine y_puti (z := 32) dX12_readsMeeting_109 frX12_290 cfX12 at91 rfl rfl rfl ?_
      refine x_vret dX12_readsMeeting_112 rfl ?_
      obtain ⟨J, hJ⟩ : ∃ J, J = uI (uI (uI I73 106 (2 * S 0 6) (tkS tp n 2 (i + 1))) 106 (2 * S 0 6 + 1) (tkS tp n 2 (i + 2))) 91 32 (S 0 6 + 1) := ⟨_, rfl⟩
      rw [← hJ]
      have fJ : Fr [106] [32] I73 J := by rw [hJ]; exact ((Fr.rf.ui (by decide) (by decide)).ui (by decide) (by decide)).uf (by decide)
      have hFJ : Fr [106] (32 :: pF) I J := (hFr2.mo (by decide) (by decide)).tr (fJ.mo (by decide) (by decide))
      refine ⟨rfl, rfl, hFJ.mo (by decide) (by decide), Or.inl ⟨i + 3, _, by rw [hR, ckR_0 z0, ckR_0 hgz3.1, ckR_0 hgz3.2, ckR_0 hgz2.2], by omega, hg2.fr fJ, meetS_RL hS ne8 hFJ ?_ ?_⟩⟩
      · rw [hJ, uI_ne (by decide), uI_eq, uI_eq, k106]
      · rw [hJ, uI_eq, u1_eq]
    · have hbz := (q65.resolve_left (fun q => by have := q.1; omega)).2
      refine x_vret dX12_readsMeeting_71 rfl ?_
      exact ⟨rfl, rfl, hFr.mo (by decide) (by decide), PSG.bad hRK hbz (by
        rw [hR, cp_ck, chk_0 z0, cp_ck, cp_ck, cp_ck, ← chk_a, ← chk_a]
        exact chk_1 hbz)⟩
  have h1 : ∀ K : Mem, RSt K tp n c0 i → Fr [] pF I K → V G mX12_readsMeeting (d + 3) 0 0 14 [some (.inr (.inl 91)), none, none] [] NO K P (qV (fun n' I' P' => n' = NO ∧ P' = P ∧ Fr [106] paF I I' ∧ PSG I' tp n (meetR (tkS tp n) (i + 1) S))) := fun K hRK hFr => by
    refine y_aln (i := 0) dX12_readsMeeting_14 at91.ne0 rfl rfl ?_
    refine x_callVI (c_X12_isGood hW hRK) dX12_readsMeeting_15 lkX12_238 mfX12_isGood cfX12 at91 rfl rfl rfl rfl (Nat.le_of_ble_eq_true rfl) (fun r15 I15 P15 hr15 hf15 => ?_)
    obtain ⟨i15, p15, q15⟩ := hf15
    rw [i15, p15]
    refine x_if_ne (tgt := 22) dX12_readsMeeting_18 rfl (fun h18 => ?_) (fun h18 => ?_)
    · have z0 := (q15.resolve_right (fun q => by have := q.1; omega)).2
      have hg := hRK.g z0
      refine y_aln (i := 0) dX12_readsMeeting_22 at91.ne0 rfl rfl ?_
      refine x_callVV (c_X12_goes hW hg.2.2.1 (by omega) hg.2.2.2.1) dX12_readsMeeting_23 lkX12_242 mfX12_goes cfX12 at91 rfl rfl rfl rfl (Nat.le_of_ble_eq_true rfl) (fun n23 I23 P23 hf23 => ?_)
      obtain ⟨rfl, rfl, fr23, tk23⟩ := hf23
      have hg2 := hg.go fr23 tk23
      have hFr2 : Fr [] pF I I23 := hFr.tr (fr23.mo (by decide) (by decide))
      have k27 : I23 91 27 = S 0 1 := (hFr2.2 27 (by decide)).trans e27
      refine y_aln (i := 0) dX12_readsMeeting_26 at91.ne0 rfl rfl ?_
      refine y_aln (i := 0) dX12_readsMeeting_27 at91.ne0 rfl rfl ?_
      refine y_geti (z := 27) dX12_readsMeeting_28 frX12_254 cfX12 at91 rfl rfl ?_
      refine x_callVI (c_X12_taken (x := ((0 : Int), (0 : Int))) hW (by omega) (RSt.o rfl hg2)) dX12_readsMeeting_31 lkX12_261 mfX12_taken cfX12 at91 rfl rfl rfl rfl (Nat.le_of_ble_eq_true rfl) (fun r31 I31 P31 hr31 hf31 => ?_)
      rw [chk_0 rfl, k27, ← hc1] at hf31
      obtain ⟨rfl, fr31, rs31, hv31⟩ := hf31
      rw [show i + 1 + 1 = i + 2 by omega] at rs31
      have k27b : I31 91 27 = S 0 1 := (fr31.2 27 (by decide)).trans k27
      have hFr3 : Fr [] pF I I31 := hFr2.tr fr31
      refine x_istore_n (i := 1) dX12_readsMeeting_34 rfl rfl (Nat.le_of_ble_eq_true rfl) ?_
      refine y_aln (i := 0) dX12_readsMeeting_35 at91.ne0 rfl rfl ?_
      refine y_aln (i := 0) dX12_readsMeeting_36 at91.ne0 rfl rfl ?_
      refine y_geti (z := 27) dX12_readsMeeting_37 frX12_254 cfX12 at91 rfl rfl ?_
      refine x_callVI (c_X12_among hW rs31) dX12_readsMeeting_40 lkX12_248 mfX12_among cfX12 at91 rfl rfl rfl rfl (Nat.le_of_ble_eq_true rfl) (fun r40 I40 P40 hr40 hf40 => ?_)
      rw [k27b, ← hc2] at hf40
      obtain ⟨rfl, fr40, rs40, h40⟩ := hf40
      have hFr4 : Fr [] pF I I40 := hFr3.tr (fr40.mo (by decide) (by decide))
      refine x_if_eq (tgt := 59) dX12_readsMeeting_43 rfl (fun h43 => ?_) (fun h43 => ?_)
      · have hbz := (h40.resolve_left (fun q => by have := q.1; omega)).2
        refine x_keep [1, 1, 0] ?_
        first | (have z := geq; have hx : ((4 : Int), tkS tp n 1 (i + 2)) = c3 := (by rw [hc3, if_pos geq]); rw [hx] at rs56; exact h2 z0 I56 _ rs56 (hFr4.tr (fr56.mo (by decide) (by decide))) (fun q => by rw [k25]; exact ⟨ga, gv1⟩)) | (have z := gne; have hx : ((0 : Int), tkS tp n 1 (i + 2)) = c3 := (by rw [hc3, if_neg gne]); have rsz := rs40.z (p := tkS tp n 1 (i + 2)); rw [hx] at rsz; exact h2 z0 I40 _ rsz hFr4 (fun q => ⟨ga, gv1⟩)) | (have z := hbz; exact h2 z0 I40 _ (rs40.b hbz) hFr4 (fun q => absurd (chk_z.mp q).1 hbz))
      · obtain ⟨-, gz, gv1, gv2, gv3⟩ := h40.resolve_right (fun q => by have := q.1; omega)
        have ga := (hv31 (chk_z.mp gz).1).1
        refine y_aln (i := 0) dX12_readsMeeting_46 at91.ne0 rfl rfl ?_
        refine y_geti (z := 25) dX12_readsMeeting_47 frX12_211 cfX12 at91 rfl rfl ?_
        refine x_iload_n (i := 1) dX12_readsMeeting_50 rfl rfl ?_
        refine x_icmp_ne (tgt := 59) dX12_readsMeeting_51 rfl (fun h51 => ?_) (fun h51 => ?_)
        · have gne : ¬ tkS tp n 2 (i + 2) = tkS tp n 2 (i + 1) := by omega
          refine x_keep [1, 1, 0] ?_
          first | (have z := geq; have hx : ((4 : Int), tkS tp n 1 (i + 2)) = c3 := (by rw [hc3, if_pos geq]); rw [hx] at rs56; exact h2 z0 I56 _ rs56 (hFr4.tr (fr56.mo (by decide) (by decide))) (fun q => by rw [k25]; exact ⟨ga, gv1⟩)) | (have z := gne; have hx : ((0 : Int), tkS tp n 1 (i + 2)) = c3 := (by rw [hc3, if_neg gne]); have rsz := rs40.z (p := tkS tp n 1 (i + 2)); rw [hx] at rsz; exact h2 z0 I40 _ rsz hFr4 (fun q => ⟨ga, gv1⟩)) | (have z := hbz; exact h2 z0 I40 _ (rs40.b hbz) hFr4 (fun q => absurd (chk_z.mp q).1 hbz))
        · have geq : tkS tp n 2 (i + 2) = tkS tp n 2 (i + 1) := by omega
          refine y_aln (i := 0) dX12_readsMeeting_54 at91.ne0 rfl rfl ?_
          refine y_ic dX12_readsMeeting_55 ⟨by decide, by decide⟩ ?_
          refine x_callVV (c_X12_wrong hW rs40 (by decide)) dX12_readsMeeting_56 lkX12_245 mfX12_wrong cfX12 at91 rfl rfl rfl rfl (Nat.le_of_ble_eq_true rfl) (fun n56 I56 P56 hf56 => ?_)
          obtain ⟨rfl, rfl, fr56, rs56⟩ := hf56
          have k25 : I56 91 25 = I40 91 25 := fr56.2 25 (by decide)
          refine x_keep [1, 1, 0] ?_
          first | (have z := geq; have hx : ((4 : Int), tkS tp n 1 (i + 2)) = c3 := (by rw [hc3, if_pos geq]); rw [hx] at rs56; exact h2 z0 I56 _ rs56 (hFr4.tr (fr56.mo (by decide) (by decide))) (fun q => by rw [k25]; exact ⟨ga, gv1⟩)) | (have z := gne; have hx : ((0 : Int), tkS tp n 1 (i + 2)) = c3 := (by rw [hc3, if_neg gne]); have rsz := rs40.z (p := tkS tp n 1 (i + 2)); rw [hx] at rsz; exact h2 z0 I40 _ rsz hFr4 (fun q => ⟨ga, gv1⟩)) | (have z := hbz; exact h2 z0 I40 _ (rs40.b hbz) hFr4 (fun q => absurd (chk_z.mp q).1 hbz))
    · have hbz := (q15.resolve_left (fun q => by have := q.1; omega)).2
      refine x_vret dX12_readsMeeting_21 rfl ?_
      exact ⟨rfl, rfl, hFr.mo (by decide) (by decide), PSG.bad hRK hbz (by rw [hR, cp_ck]; exact chk_1 hbz)⟩
  refine y_aln (i := 0) dX12_readsMeeting_0 at91.ne0 rfl rfl ?_
  refine y_geti (z := 32) dX12_readsMeeting_1 frX12_290 cfX12 at91 rfl rfl ?_
  refine y_bi dX12_readsMeeting_4 ⟨by decide, by decide⟩ ?_
  rw [e32]
  refine x_icmp_ne (tgt := 14) dX12_readsMeeting_6 rfl (fun h6 => ?_) (fun h6 => ?_)
  · have w0 : ¬ S 0 6 = 8 := fun q => h6 q
    refine x_keep [1, 0, 0] ?_
    first | (have z := w8; exact h1 I11 (by rw [hc0, if_pos w8]; exact rs11) (fr11.mo (by decide) (by decide))) | (have z := w0; exact h1 I (by rw [hc0, if_neg w0]; exact RSt.o rfl hG) Fr.rf)
  · have w8 : S 0 6 = 8 := by omega
    refine y_aln (i := 0) dX12_readsMeeting_9 at91.ne0 rfl rfl ?_
    refine y_ic dX12_readsMeeting_10 ⟨by decide, by decide⟩ ?_
    refine x_callVV (c_X12_wrong hW hR0 (by decide)) dX12_readsMeeting_11 lkX12_245 mfX12_wrong cfX12 at91 rfl rfl rfl rfl (Nat.le_of_ble_eq_true rfl) (fun n11 I11 P11 hf11 => ?_)
    rw [chk_0 rfl] at hf11
    obtain ⟨rfl, rfl, fr11, rs11⟩ := hf11
    refine x_keep [1, 0, 0] ?_
    first | (have z := w8; exact h1 I11 (by rw [hc0, if_pos w8]; exact rs11) (fr11.mo (by decide) (by decide))) | (have z := w0; exact h1 I (by rw [hc0, if_neg w0]; exact RSt.o rfl hG) Fr.rf)
theorem c_X12_line {tp : Rw} {n i l b : Int} {S : Tn} (hW : WP P) (hi0 : 0 ≤ i) (hin : i < n) (hb : b ≠ 0 ↔ l = 0) (hG : GD I tp n i) (hS : RLn I S) : Cv G mX12_line (d + 5) 0 0 [.inr (.inl 91), .inl b] NO I P (qV (fun n' I' P' => n' = NO ∧ P' = P ∧ Fr paS paF I I' ∧ RES RLn I' tp n (lineR (tkS tp n) l i S))) := by
  obtain ⟨e27, e28, e29, e30, e31, e32, e33, e34⟩ := hS.1.1
  have hR0 : RSt I tp n (0, 0) i := RSt.o rfl hG
  have hKR := hG.2.2.2.2.2
  refine x_enter mfX12_line rfl (Nat.le_of_ble_eq_true rfl) (fun _ => ?_)
  have hN : ∀ (K : Mem) (R : Rs), PSG K tp n R → lineR (tkS tp n) l i S = R → Fr paS paF I K → V G mX12_line (d + 5) 0 0 111 [some (.inr (.inl 91)), none] [] NO K P (qV (fun n' I' P' => n' = NO ∧ P' = P ∧ Fr paS paF I I' ∧ RES RLn I' tp n (lineR (tkS tp n) l i S))) := fun K R hP hR hFr => by
    rcases hP with ⟨j, S', h1, h2, h3, h4⟩ | ⟨h1, h2, h3⟩
    · have hK2 := h3.2.2.2.2.2.2.1
      have hRg : RSt K tp n (0, 0) j := RSt.o rfl h3
      refine y_aln (i := 0) dX12_line_111 at91.ne0 rfl rfl ?_
      refine y_aln (i := 0) dX12_line_112 at91.ne0 rfl rfl ?_
      refine y_geti (z := 22) dX12_line_113 frX12_214 cfX12 at91 rfl rfl ?_
      refine y_ic dX12_line_116 ⟨by decide, by decide⟩ ?_
      refine x_icmp_ne (tgt := 124) dX12_line_117 rfl (fun h117 => ?_) (fun h117 => ?_)
      · have nb : ¬ tkS tp n 0 j = 1 := fun q => h117 (hK2.mpr q)
        refine y_ic dX12_line_124 ⟨by decide, by decide⟩ ?_
        refine x_callVV (c_X12_need (x := ((0 : Int), (0 : Int))) hW h2 hRg (fun _ => by first | exact ⟨fun _ => yb, fun _ => by decide⟩ | exact ⟨fun q => absurd rfl q, fun q => absurd q nb⟩)) dX12_line_125 lkX12_305 mfX12_need cfX12 at91 rfl rfl rfl rfl (Nat.le_of_ble_eq_true rfl) (fun n125 I125 P125 hf125 => ?_)
        rw [chk_0 rfl] at hf125
        obtain ⟨rfl, rfl, fr125, rs125⟩ := hf125
        refine x_vret dX12_line_128 rfl ?_
        refine ⟨rfl, rfl, hFr.tr (fr125.mo (by decide) (by decide)), ?_⟩
        rw [hR, h1]
        first | (have z := yb; rw [if_pos yb] at rs125; unfold sgnR; rw [if_pos yb, ckR_0 rfl]; exact Or.inl ⟨rfl, rs125.g rfl, h4.fr fr125⟩) | (have z := nb; rw [if_neg nb] at rs125; exact RES.bad rs125 (show (1 : Int) ≠ 0 by decide) (by unfold sgnR; rw [if_neg nb, ckR_1 (by decide)]; rfl))
      · have yb : tkS tp n 0 j = 1 := hK2.mp (by omega)
        refine y_ic dX12_line_120 ⟨by decide, by decide⟩ ?_
        refine x_goto (tgt := 125) dX12_line_121 rfl ?_
        refine x_callVV (c_X12_need (x := ((0 : Int), (0 : Int))) hW h2 hRg (fun _ => by first | exact ⟨fun _ => yb, fun _ => by decide⟩ | exact ⟨fun q => absurd rfl q, fun q => absurd q nb⟩)) dX12_line_125 lkX12_305 mfX12_need cfX12 at91 rfl rfl rfl rfl (Nat.le_of_ble_eq_true rfl) (fun n125 I125 P125 hf125 => ?_)
        rw [chk_0 rfl] at hf125
        obtain ⟨rfl, rfl, fr125, rs125⟩ := hf125
        refine x_vret dX12_line_128 rfl ?_
        refine ⟨rfl, rfl, hFr.tr (fr125.mo (by decide) (by decide)), ?_⟩
        rw [hR, h1]
        first | (have z := yb; rw [if_pos yb] at rs125; unfold sgnR; rw [if_pos yb, ckR_0 rfl]; exact Or.inl ⟨rfl, rs125.g rfl, h4.fr fr125⟩) | (have z := nb; rw [if_neg nb] at rs125; exact RES.bad rs125 (show (1 : Int) ≠ 0 by decide) (by unfold sgnR; rw [if_neg nb, ckR_1 (by decide)]; rfl))
    · have hRb : RSt K tp n (R.1, R.2.1) 0 := Or.inr ⟨h1, h2, h3⟩
      refine y_aln (i := 0) dX12_line_111 at91.ne0 rfl rfl ?_
      refine y_aln (i := 0) dX12_line_112 at91.ne0 rfl rfl ?_
      refine y_geti (z := 22) dX12_line_113 frX12_214 cfX12 at91 rfl rfl ?_
      refine y_ic dX12_line_116 ⟨by decide, by decide⟩ ?_
      refine x_icmp_ne (tgt := 124) dX12_line_117 rfl (fun h117 => ?_) (fun h117 => ?_)
      · refine y_ic dX12_line_124 ⟨by decide, by decide⟩ ?_
        refine x_callVV (c_X12_need hW (Int.le_refl 0) hRb (fun q => absurd q h1)) dX12_line_125 lkX12_305 mfX12_need cfX12 at91 rfl rfl rfl rfl (Nat.le_of_ble_eq_true rfl) (fun n125 I125 P125 hf125 => ?_)
        rw [chk_1 h1] at hf125
        obtain ⟨rfl, rfl, fr125, rs125⟩ := hf125
        refine x_vret dX12_line_128 rfl ?_
        exact ⟨rfl, rfl, hFr.tr (fr125.mo (by decide) (by decide)), by rw [hR]; exact RES.bad rs125 h1 rfl⟩
      · refine y_ic dX12_line_120 ⟨by decide, by decide⟩ ?_
        refine x_goto (tgt := 125) dX12_line_121 rfl ?_
        refine x_callVV (c_X12_need hW (Int.le_refl 0) hRb (fun q => absurd q h1)) dX12_line_125 lkX12_305 mfX12_need cfX12 at91 rfl rfl rfl rfl (Nat.le_of_ble_eq_true rfl) (fun n125 I125 P125 hf125 => ?_)
        rw [chk_1 h1] at hf125
        obtain ⟨rfl, rfl, fr125, rs125⟩ := hf125
        refine x_vret dX12_line_128 rfl ?_
        exact ⟨rfl, rfl, hFr.tr (fr125.mo (by decide) (by decide)), by rw [hR]; exact RES.bad rs125 h1 rfl⟩
  obtain ⟨c0, hc0⟩ : ∃ c0 : Int × Int, c0 = (if l = 0 then 0 else 5, tkS tp n 1 i) := ⟨_, rfl⟩
  obtain ⟨c1, hc1⟩ : ∃ c1 : Int × Int, c1 = (numC (tkS tp n) 1 8 (i + 1), tkS tp n 1 (i + 1)) := ⟨_, rfl⟩
  have hsr : sortR (tkS tp n) l (i + 1) S = ckR c0.1 c0.2 S (ckR c1.1 c1.2 S (sgnR (tkS tp n) (i + 2) (uI S 0 2 (tkS tp n 2 (i + 1))))) := by
    unfold sortR
    rw [hc0, hc1, show i + 1 - 1 = i by omega, show i + 1 + 1 = i + 2 by omega]
  have hso : tkS tp n 0 i = 4 → ∀ K : Mem, RSt K tp n c0 i → Fr [] pF I K → V G mX12_line (d + 5) 0 0 17 [some (.inr (.inl 91)), none] [] NO K P (qV (fun n' I' P' => n' = NO ∧ P' = P ∧ Fr paS paF I I' ∧ RES RLn I' tp n (lineR (tkS tp n) l i S))) := fun hk K hRK hFr => by
    have hli : lineR (tkS tp n) l i S = sortR (tkS tp n) l (i + 1) S := by unfold lineR; rw [if_pos hk]
    refine y_aln (i := 0) dX12_line_17 at91.ne0 rfl rfl ?_
    refine x_callVI (c_X12_isGood hW hRK) dX12_line_18 lkX12_238 mfX12_isGood cfX12 at91 rfl rfl rfl rfl (Nat.le_of_ble_eq_true rfl) (fun r18 I18 P18 hr18 hf18 => ?_)
    obtain ⟨i18, p18, q18⟩ := hf18
    rw [i18, p18]
    refine x_if_ne (tgt := 25) dX12_line_21 rfl (fun h21 => ?_) (fun h21 => ?_)
    · have z0 := (q18.resolve_right (fun q => by have := q.1; omega)).2
      have hg := hRK.g z0
      refine y_aln (i := 0) dX12_line_25 at91.ne0 rfl rfl ?_
      refine x_callVV (c_X12_goes hW hg.2.2.1 (by omega) hg.2.2.2.1) dX12_line_26 lkX12_242 mfX12_goes cfX12 at91 rfl rfl rfl rfl (Nat.le_of_ble_eq_true rfl) (fun n26 I26 P26 hf26 => ?_)
      obtain ⟨rfl, rfl, fr26, tk26⟩ := hf26
      have hg2 := hg.go fr26 tk26
      refine y_aln (i := 0) dX12_line_29 at91.ne0 rfl rfl ?_
      refine y_aln (i := 0) dX12_line_30 at91.ne0 rfl rfl ?_
      refine y_ic dX12_line_31 ⟨by decide, by decide⟩ ?_
      refine y_bi dX12_line_32 ⟨by decide, by decide⟩ ?_
      refine x_callVI (c_X12_number (x := ((0 : Int), (0 : Int))) hW (by omega) (RSt.o rfl hg2) (by decide)) dX12_line_34 lkX12_257 mfX12_number cfX12 at91 rfl rfl rfl rfl (Nat.le_of_ble_eq_true rfl) (fun r34 I34 P34 hr34 hf34 => ?_)
      rw [chk_0 rfl, ← hc1] at hf34
      obtain ⟨rfl, fr34, rs34, hr34, hv34⟩ := hf34
      rw [show i + 1 + 1 = i + 2 by omega] at rs34
      have fz : Fr [] [28] I34 (uI I34 91 28 r34) := Fr.rf.uf (by decide)
      have fy : Fr [] (28 :: pF) I (uI I34 91 28 r34) := ((hFr.mo (by decide) (by decide)).tr (fr26.mo (by decide) (by decide))).tr ((fr34.mo (by decide) (by decide)).tr (fz.mo (by decide) (by decide)))
      refine y_puti (z := 28) dX12_line_37 frX12_251 cfX12 at91 rfl rfl rfl ?_
      refine x_goto (tgt := 111) dX12_line_40 rfl ?_
      refine x_keep [1, 0] ?_
      refine hN _ _ ?_ hli (fy.mo (by decide) (by decide))
      by_cases z1 : c1.1 = 0
      · have hnc := numC_z (k := tkS tp n) (lo := 1) (hi := 8) (i := i + 1) (by rw [hc1] at z1; exact z1)
        refine Or.inl ⟨i + 2, uI S 0 2 (tkS tp n 2 (i + 1)), by rw [hsr, ckR_0 z0, ckR_0 z1], by omega, (rs34.g z1).fr fz, ?_⟩
        have w0 : ∀ k : Int, k ≠ 2 → uI S 0 2 (tkS tp n 2 (i + 1)) 0 k = S 0 k := fun k hk => by rw [uI_eq, u1_ne hk]
        have w2 : uI S 0 2 (tkS tp n 2 (i + 1)) 0 2 = tkS tp n 2 (i + 1) := by rw [uI_eq, u1_eq]
        have wa : ∀ a, a ≠ 0 → uI S 0 2 (tkS tp n 2 (i + 1)) a = S a := fun a ha => uI_ne ha
        obtain ⟨b1, b2, b3, b4, b5, b6, b7, b8, b9⟩ := hS.2
        refine RL_fld hS fy (fun a h0 _ => wa a h0) ⟨w0 1 (by decide), w0 5 (by decide), w0 6 (by decide)⟩ ?_ ?_
        · unfold SB
          rw [w0 1 (by decide), w2, w0 5 (by decide), w0 6 (by decide), w0 7 (by decide), wa 3 (by decide), wa 8 (by decide), wa 9 (by decide), wa 10 (by decide), wa 11 (by decide)]
          exact ⟨b1, ⟨hnc.2.1, hnc.2.2⟩, b3, b4, b5, b6, b7, b8, b9⟩
        · rw [w0 1 (by decide), w2, w0 3 (by decide), w0 4 (by decide), w0 5 (by decide), w0 6 (by decide), w0 7 (by decide), wa 11 (by decide), fy.2 27 (by decide), fy.2 29 (by decide), fy.2 30 (by decide), fy.2 31 (by decide), fy.2 32 (by decide), fy.2 33 (by decide), fy.2 34 (by decide), uI_eq, u1_eq]
          exact ⟨e27, hv34 z1, e29, e30, e31, e32, e33, e34⟩
      · exact PSG.bad (rs34.fr fz) z1 (by rw [hsr, cp_ck, chk_0 z0, cp_ck]; exact chk_1 z1)
    · have hbz := (q18.resolve_left (fun q => by have := q.1; omega)).2
      refine x_vret dX12_line_24 rfl ?_
      exact ⟨rfl, rfl, hFr.mo (by decide) (by decide), by rw [hli]; exact RES.bad hRK hbz (by rw [hsr, cp_ck]; exact chk_1 hbz)⟩
  refine y_aln (i := 0) dX12_line_0 at91.ne0 rfl rfl ?_
  refine y_ic dX12_line_1 ⟨by decide, by decide⟩ ?_
  refine x_callVI (c_X12_is hW hKR (by decide)) dX12_line_2 lkX12_264 mfX12_is cfX12 at91 rfl rfl rfl rfl (Nat.le_of_ble_eq_true rfl) (fun r2 I2 P2 hr2 hf2 => ?_)
  obtain ⟨i2, p2, q2⟩ := hf2
  rw [i2, p2]
  refine x_if_eq (tgt := 43) dX12_line_5 rfl (fun h5 => ?_) (fun h5 => ?_)
  · have n4 : tkS tp n 0 i ≠ 4 := (q2.resolve_left (fun q => by have := q.1; omega)).2
    refine y_aln (i := 0) dX12_line_43 at91.ne0 rfl rfl ?_
    refine y_ic dX12_line_44 ⟨by decide, by decide⟩ ?_
    refine x_callVI (c_X12_is hW hKR (by decide)) dX12_line_45 lkX12_264 mfX12_is cfX12 at91 rfl rfl rfl rfl (Nat.le_of_ble_eq_true rfl) (fun r45 I45 P45 hr45 hf45 => ?_)
    obtain ⟨i45, p45, q45⟩ := hf45
    rw [i45, p45]
    refine x_if_eq (tgt := 58) dX12_line_48 rfl (fun h48 => ?_) (fun h48 => ?_)
    · have n5 : tkS tp n 0 i ≠ 5 := (q45.resolve_left (fun q => by have := q.1; omega)).2
      refine y_aln (i := 0) dX12_line_58 at91.ne0 rfl rfl ?_
      refine y_bi dX12_line_59 ⟨by decide, by decide⟩ ?_
      refine x_callVI (c_X12_is hW hKR (by decide)) dX12_line_61 lkX12_264 mfX12_is cfX12 at91 rfl rfl rfl rfl (Nat.le_of_ble_eq_true rfl) (fun r61 I61 P61 hr61 hf61 => ?_)
      obtain ⟨i61, p61, q61⟩ := hf61
      rw [i61, p61]
      refine x_if_eq (tgt := 74) dX12_line_64 rfl (fun h64 => ?_) (fun h64 => ?_)
      · have n10 : tkS tp n 0 i ≠ 10 := (q61.resolve_left (fun q => by have := q.1; omega)).2
        refine y_aln (i := 0) dX12_line_74 at91.ne0 rfl rfl ?_
        refine y_bi dX12_line_75 ⟨by decide, by decide⟩ ?_
        refine x_callVI (c_X12_is hW hKR (by decide)) dX12_line_77 lkX12_264 mfX12_is cfX12 at91 rfl rfl rfl rfl (Nat.le_of_ble_eq_true rfl) (fun r77 I77 P77 hr77 hf77 => ?_)
        obtain ⟨i77, p77, q77⟩ := hf77
        rw [i77, p77]
        refine x_if_eq (tgt := 90) dX12_line_80 rfl (fun h80 => ?_) (fun h80 => ?_)
        · have n13 : tkS tp n 0 i ≠ 13 := (q77.resolve_left (fun q => by have := q.1; omega)).2
          refine y_aln (i := 0) dX12_line_90 at91.ne0 rfl rfl ?_
          refine y_bi dX12_line_91 ⟨by decide, by decide⟩ ?_
          refine x_callVI (c_X12_is hW hKR (by decide)) dX12_line_93 lkX12_264 mfX12_is cfX12 at91 rfl rfl rfl rfl (Nat.le_of_ble_eq_true rfl) (fun r93 I93 P93 hr93 hf93 => ?_)
          obtain ⟨i93, p93, q93⟩ := hf93
          rw [i93, p93]
          refine x_if_eq (tgt := 106) dX12_line_96 rfl (fun h96 => ?_) (fun h96 => ?_)
          · have n14 : tkS tp n 0 i ≠ 14 := (q93.resolve_left (fun q => by have := q.1; omega)).2
            refine y_aln (i := 0) dX12_line_106 at91.ne0 rfl rfl ?_
            refine y_ic dX12_line_107 ⟨by decide, by decide⟩ ?_
            refine x_callVV (c_X12_wrong hW hR0 (by decide)) dX12_line_108 lkX12_245 mfX12_wrong cfX12 at91 rfl rfl rfl rfl (Nat.le_of_ble_eq_true rfl) (fun n108 I108 P108 hf108 => ?_)
            rw [chk_0 rfl] at hf108
            obtain ⟨rfl, rfl, fr108, rs108⟩ := hf108
            refine x_keep [1, 0] ?_
            first | (have z := hk5; exact hN _ _ ps52 (by unfold lineR; rw [if_neg n4, if_pos hk5]) fr52) | (have z := hk10; exact hN _ _ ps68 (by unfold lineR; rw [if_neg n4, if_neg n5, if_pos hk10]) (fr68.mo (by decide) (by decide))) | (have z := hk13; exact hN _ _ ps84 (by unfold lineR; rw [if_neg n4, if_neg n5, if_neg n10, if_pos hk13]) (fr84.mo (by decide) (by decide))) | (have z := hk14; exact hN _ _ ps100 (by unfold lineR; rw [if_neg n4, if_neg n5, if_neg n10, if_neg n13, if_pos hk14]) (fr100.mo (by decide) (by decide))) | (have z := n14; exact hN _ (flR 1 (tkS tp n 1 i) S) (PSG.bad rs108 (show (1 : Int) ≠ 0 by decide) rfl) (by unfold lineR; rw [if_neg n4, if_neg n5, if_neg n10, if_neg n13, if_neg n14]) (fr108.mo (by decide) (by decide)))
          · have hk14 : tkS tp n 0 i = 14 := (q93.resolve_right (fun q => by have := q.1; omega)).2
            refine y_aln (i := 0) dX12_line_99 at91.ne0 rfl rfl ?_
            refine x_callVV (c_X12_readsMeeting hW hi0 hG hS) dX12_line_100 lkX12_302 mfX12_readsMeeting cfX12 at91 rfl rfl rfl rfl (Nat.le_of_ble_eq_true rfl) (fun n100 I100 P100 hf100 => ?_)
            obtain ⟨rfl, rfl, fr100, ps100⟩ := hf100
            refine x_goto (tgt := 111) dX12_line_103 rfl ?_
            refine x_keep [1, 0] ?_
            first | (have z := hk5; exact hN _ _ ps52 (by unfold lineR; rw [if_neg n4, if_pos hk5]) fr52) | (have z := hk10; exact hN _ _ ps68 (by unfold lineR; rw [if_neg n4, if_neg n5, if_pos hk10]) (fr68.mo (by decide) (by decide))) | (have z := hk13; exact hN _ _ ps84 (by unfold lineR; rw [if_neg n4, if_neg n5, if_neg n10, if_pos hk13]) (fr84.mo (by decide) (by decide))) | (have z := hk14; exact hN _ _ ps100 (by unfold lineR; rw [if_neg n4, if_neg n5, if_neg n10, if_neg n13, if_pos hk14]) (fr100.mo (by decide) (by decide))) | (have z := n14; exact hN _ (flR 1 (tkS tp n 1 i) S) (PSG.bad rs108 (show (1 : Int) ≠ 0 by decide) rfl) (by unfold lineR; rw [if_neg n4, if_neg n5, if_neg n10, if_neg n13, if_neg n14]) (fr108.mo (by decide) (by decide)))
        · have hk13 : tkS tp n 0 i = 13 := (q77.resolve_right (fun q => by have := q.1; omega)).2
          refine y_aln (i := 0) dX12_line_83 at91.ne0 rfl rfl ?_
          refine x_callVV (c_X12_readsTie hW hi0 hG hS) dX12_line_84 lkX12_299 mfX12_readsTie cfX12 at91 rfl rfl rfl rfl (Nat.le_of_ble_eq_true rfl) (fun n84 I84 P84 hf84 => ?_)
          obtain ⟨rfl, rfl, fr84, ps84⟩ := hf84
          refine x_goto (tgt := 111) dX12_line_87 rfl ?_
          refine x_keep [1, 0] ?_
          first | (have z := hk5; exact hN _ _ ps52 (by unfold lineR; rw [if_neg n4, if_pos hk5]) fr52) | (have z := hk10; exact hN _ _ ps68 (by unfold lineR; rw [if_neg n4, if_neg n5, if_pos hk10]) (fr68.mo (by decide) (by decide))) | (have z := hk13; exact hN _ _ ps84 (by unfold lineR; rw [if_neg n4, if_neg n5, if_neg n10, if_pos hk13]) (fr84.mo (by decide) (by decide))) | (have z := hk14; exact hN _ _ ps100 (by unfold lineR; rw [if_neg n4, if_neg n5, if_neg n10, if_neg n13, if_pos hk14]) (fr100.mo (by decide) (by decide))) | (have z := n14; exact hN _ (flR 1 (tkS tp n 1 i) S) (PSG.bad rs108 (show (1 : Int) ≠ 0 by decide) rfl) (by unfold lineR; rw [if_neg n4, if_neg n5, if_neg n10, if_neg n13, if_neg n14]) (fr108.mo (by decide) (by decide)))
      · have hk10 : tkS tp n 0 i = 10 := (q61.resolve_right (fun q => by have := q.1; omega)).2
        refine y_aln (i := 0) dX12_line_67 at91.ne0 rfl rfl ?_
        refine x_callVV (c_X12_readsLaw hW hi0 hG hS) dX12_line_68 lkX12_296 mfX12_readsLaw cfX12 at91 rfl rfl rfl rfl (Nat.le_of_ble_eq_true rfl) (fun n68 I68 P68 hf68 => ?_)
        obtain ⟨rfl, rfl, fr68, ps68⟩ := hf68
        refine x_goto (tgt := 111) dX12_line_71 rfl ?_
        refine x_keep [1, 0] ?_
        first | (have z := hk5; exact hN _ _ ps52 (by unfold lineR; rw [if_neg n4, if_pos hk5]) fr52) | (have z := hk10; exact hN _ _ ps68 (by unfold lineR; rw [if_neg n4, if_neg n5, if_pos hk10]) (fr68.mo (by decide) (by decide))) | (have z := hk13; exact hN _ _ ps84 (by unfold lineR; rw [if_neg n4, if_neg n5, if_neg n10, if_pos hk13]) (fr84.mo (by decide) (by decide))) | (have z := hk14; exact hN _ _ ps100 (by unfold lineR; rw [if_neg n4, if_neg n5, if_neg n10, if_neg n13, if_pos hk14]) (fr100.mo (by decide) (by decide))) | (have z := n14; exact hN _ (flR 1 (tkS tp n 1 i) S) (PSG.bad rs108 (show (1 : Int) ≠ 0 by decide) rfl) (by unfold lineR; rw [if_neg n4, if_neg n5, if_neg n10, if_neg n13, if_neg n14]) (fr108.mo (by decide) (by decide)))
    · have hk5 : tkS tp n 0 i = 5 := (q45.resolve_right (fun q => by have := q.1; omega)).2
      refine y_aln (i := 0) dX12_line_51 at91.ne0 rfl rfl ?_
      refine x_callVV (c_X12_readsPerson hW hi0 hin hG hS) dX12_line_52 lkX12_293 mfX12_readsPerson cfX12 at91 rfl rfl rfl rfl (Nat.le_of_ble_eq_true rfl) (fun n52 I52 P52 hf52 => ?_)
      obtain ⟨rfl, rfl, fr52, ps52⟩ := hf52
      refine x_goto (tgt := 111) dX12_line_55 rfl ?_
      refine x_keep [1, 0] ?_
      first | (have z := hk5; exact hN _ _ ps52 (by unfold lineR; rw [if_neg n4, if_pos hk5]) fr52) | (have z := hk10; exact hN _ _ ps68 (by unfold lineR; rw [if_neg n4, if_neg n5, if_pos hk10]) (fr68.mo (by decide) (by decide))) | (have z := hk13; exact hN _ _ ps84 (by unfold lineR; rw [if_neg n4, if_neg n5, if_neg n10, if_pos hk13]) (fr84.mo (by decide) (by decide))) | (have z := hk14; exact hN _ _ ps100 (by unfold lineR; rw [if_neg n4, if_neg n5, if_neg n10, if_neg n13, if_pos hk14]) (fr100.mo (by decide) (by decide))) | (have z := n14; exact hN _ (flR 1 (tkS tp n 1 i) S) (PSG.bad rs108 (show (1 : Int) ≠ 0 by decide) rfl) (by unfold lineR; rw [if_neg n4, if_neg n5, if_neg n10, if_neg n13, if_neg n14]) (fr108.mo (by decide) (by decide)))
  · have hk4 : tkS tp n 0 i = 4 := (q2.resolve_right (fun q => by have := q.1; omega)).2
    refine x_iload_n (i := 1) dX12_line_8 rfl rfl ?_
    refine x_if_ne (tgt := 17) dX12_line_9 rfl (fun h9 => ?_) (fun h9 => ?_)
    · have l0 : l = 0 := hb.mp h9
      refine x_keep [1, 0] ?_
      first | (have z := l1; exact hso hk4 I14 (by rw [hc0, if_neg l1]; exact rs14) (fr14.mo (by decide) (by decide))) | (have z := l0; exact hso hk4 I (by rw [hc0, if_pos l0]; exact RSt.o rfl hG) Fr.rf)
    · have l1 : ¬ l = 0 := fun q => absurd (hb.mpr q) (by omega)
      refine y_aln (i := 0) dX12_line_12 at91.ne0 rfl rfl ?_
      refine y_ic dX12_line_13 ⟨by decide, by decide⟩ ?_
      refine x_callVV (c_X12_wrong hW hR0 (by decide)) dX12_line_14 lkX12_245 mfX12_wrong cfX12 at91 rfl rfl rfl rfl (Nat.le_of_ble_eq_true rfl) (fun n14 I14 P14 hf14 => ?_)
      rw [chk_0 rfl] at hf14
      obtain ⟨rfl, rfl, fr14, rs14⟩ := hf14
      refine x_keep [1, 0] ?_
      first | (have z := l1; exact hso hk4 I14 (by rw [hc0, if_neg l1]; exact rs14) (fr14.mo (by decide) (by decide))) | (have z := l0; exact hso hk4 I (by rw [hc0, if_pos l0]; exact RSt.o rfl hG) Fr.rf)
end

