/-! ===== the reference: a town ===== -/
theorem bn_z {r : Rs} {f : Int → Tn → Rs} (h : (bnR r f).1 = 0) : r.1 = 0 ∧ bnR r f = f r.2.2.1 r.2.2.2 := by
  by_cases q : r.1 = 0
  · exact ⟨q, bnR_0 q⟩
  · rw [bnR_1 q] at h; exact absurd h q
theorem sgnR_ok {tp : Rw} {n j : Int} {S : Tn} (hn : 0 ≤ n) (hj : 0 ≤ j) (h : (sgnR (tkS tp n) j S).1 = 0) : (sgnR (tkS tp n) j S).2.2.1 = j + 1 ∧ j < n ∧ (sgnR (tkS tp n) j S).2.2.2 = S := by
  unfold sgnR at h ⊢
  have h1 := ck_z h
  rw [h1.2]
  have h2 : tkS tp n 0 j = 1 := by
    by_cases q : tkS tp n 0 j = 1
    · exact q
    · rw [if_neg q] at h1; exact absurd h1.1 (by decide)
  exact ⟨rfl, (tk_lt hn hj (by rw [h2]; decide)).2, rfl⟩
theorem perR_ok {tp : Rw} {n : Int} (hn : 0 ≤ n) : ∀ (f : Nat) (i : Int) (S : Tn), 0 ≤ i → (perR (tkS tp n) f i S).1 = 0 → i + 1 ≤ (perR (tkS tp n) f i S).2.2.1 ∧ (perR (tkS tp n) f i S).2.2.1 ≤ n
  | 0, i, S, _, h => absurd h (by show ¬ (9 : Int) = 0; decide)
  | f + 1, i, S, hi, h => by
    unfold perR at h ⊢
    by_cases h6 : tkS tp n 0 i = 6
    · rw [if_pos h6] at h ⊢
      have h1 := bn_z h
      have h2 := toldR_ok hn (show 0 ≤ i + 1 by omega) h1.1
      rw [h1.2] at h ⊢
      have := perR_ok hn f _ _ (by omega) h
      omega
    rw [if_neg h6] at h ⊢
    by_cases h7 : tkS tp n 0 i = 7
    · rw [if_pos h7] at h ⊢
      have h1 := bn_z h
      have h2 := toldR_ok hn (show 0 ≤ i + 1 by omega) h1.1
      rw [h1.2] at h ⊢
      have := perR_ok hn f _ _ (by omega) h
      omega
    rw [if_neg h7] at h ⊢
    by_cases h8 : tkS tp n 0 i = 8
    · rw [if_pos h8] at h ⊢
      have h1 := bn_z h
      have h2 := pairR_ok hn (show 0 ≤ i + 1 by omega) h1.1
      rw [h1.2] at h ⊢
      have := perR_ok hn f _ _ (by omega) h
      omega
    rw [if_neg h8] at h ⊢
    by_cases h9 : tkS tp n 0 i = 9
    · rw [if_pos h9] at h ⊢
      have h1 := bn_z h
      have h2 := fallR_ok hn (show 0 ≤ i + 1 by omega) h1.1
      rw [h1.2] at h ⊢
      have := perR_ok hn f _ _ (by omega) h
      omega
    rw [if_neg h9] at h ⊢
    have := sgnR_ok hn hi h
    omega
theorem burR_ok {tp : Rw} {n j : Int} {S : Tn} (hn : 0 ≤ n) (hj : 0 ≤ j) (h : (burR (tkS tp n) j S).1 = 0) : j + 1 ≤ (burR (tkS tp n) j S).2.2.1 ∧ (burR (tkS tp n) j S).2.2.1 ≤ n := by
  unfold burR at h ⊢
  by_cases q : tkS tp n 0 j = 12
  · rw [if_pos q] at h ⊢
    have := sgnR_ok hn (show 0 ≤ j + 1 by omega) h
    omega
  · rw [if_neg q] at h ⊢
    have := sgnR_ok hn hj h
    omega
theorem lineR_ok {tp : Rw} {n l i : Int} {S : Tn} (hn : 0 ≤ n) (hi : 0 ≤ i) (h : (lineR (tkS tp n) l i S).1 = 0) : i + 1 ≤ (lineR (tkS tp n) l i S).2.2.1 ∧ (lineR (tkS tp n) l i S).2.2.1 ≤ n := by
  unfold lineR at h ⊢
  by_cases h4 : tkS tp n 0 i = 4
  · rw [if_pos h4] at h ⊢
    unfold sortR at h ⊢
    have h1 := ck_z h
    rw [h1.2] at h ⊢
    have h2 := ck_z h
    rw [h2.2] at h ⊢
    have := sgnR_ok hn (show 0 ≤ i + 1 + 1 by omega) h
    omega
  rw [if_neg h4] at h ⊢
  by_cases h5 : tkS tp n 0 i = 5
  · rw [if_pos h5] at h ⊢
    unfold persR at h ⊢
    have h1 := ck_z h
    rw [h1.2] at h ⊢
    have := perR_ok hn 800 (i + 1) _ (by omega) h
    omega
  rw [if_neg h5] at h ⊢
  by_cases h10 : tkS tp n 0 i = 10
  · rw [if_pos h10] at h ⊢
    unfold lawR at h ⊢
    have h1 := ck_z h
    rw [h1.2] at h ⊢
    have h2 := ck_z h
    rw [h2.2] at h ⊢
    unfold spoR at h ⊢
    by_cases q : tkS tp n 0 (i + 1 + 1) = 11
    · rw [if_pos q] at h ⊢
      have h3 := ck_z h
      rw [h3.2] at h ⊢
      have := burR_ok hn (show 0 ≤ i + 1 + 1 + 2 by omega) h
      omega
    · rw [if_neg q] at h ⊢
      have := burR_ok hn (show 0 ≤ i + 1 + 1 by omega) h
      omega
  rw [if_neg h10] at h ⊢
  by_cases h13 : tkS tp n 0 i = 13
  · rw [if_pos h13] at h ⊢
    unfold tieR at h ⊢
    have h1 := ck_z h
    rw [h1.2] at h ⊢
    have h2 := ck_z h
    rw [h2.2] at h ⊢
    have h3 := ck_z h
    rw [h3.2] at h ⊢
    have h4 := ck_z h
    rw [h4.2] at h ⊢
    have h5 := ck_z h
    rw [h5.2] at h ⊢
    have := sgnR_ok hn (show 0 ≤ i + 1 + 3 by omega) h
    omega
  rw [if_neg h13] at h ⊢
  by_cases h14 : tkS tp n 0 i = 14
  · rw [if_pos h14] at h ⊢
    unfold meetR at h ⊢
    have h1 := ck_z h
    rw [h1.2] at h ⊢
    have h2 := ck_z h
    rw [h2.2] at h ⊢
    have h3 := ck_z h
    rw [h3.2] at h ⊢
    have h4 := ck_z h
    rw [h4.2] at h ⊢
    have := sgnR_ok hn (show 0 ≤ i + 1 + 2 by omega) h
    omega
  rw [if_neg h14] at h
  exact absurd h (by show ¬ (1 : Int) = 0; decide)
/-- the reference holds the town S, its people have what it says -/
def MSt (K : Mem) (S : Tn) : Prop := (∀ k, 1 ≤ k → k ≤ 7 → K 91 k = S 0 k) ∧ (∀ c, 0 ≤ c → c < 8 * S 0 1 → K 92 c = S 1 c) ∧ (∀ p, 0 ≤ p → p < S 0 1 → K 93 p = S 2 p ∧ K 94 p = S 3 p) ∧ (∀ p k j, 0 ≤ p → p < S 0 1 → 0 ≤ k → k < S 3 p → 0 ≤ j → j < 3 → K 95 (18 * p + 3 * k + j) = S 4 (18 * p + 3 * k + j)) ∧ (∀ t j, 0 ≤ t → t < S 0 5 → 0 ≤ j → j < 3 → K 96 (3 * t + j) = S 5 (3 * t + j)) ∧ (∀ m j, 0 ≤ m → m < S 0 6 → 0 ≤ j → j < 2 → K 97 (2 * m + j) = S 6 (2 * m + j)) ∧ ∀ c, 0 ≤ c → c < 48 → K 98 c = if c < 8 * S 0 1 then S 7 c else 0
theorem RLn.ini {K : Mem} (h : K 91 27 = 0 ∧ K 91 28 = 1 ∧ K 91 29 = 2 ∧ K 91 30 = -1 ∧ K 91 31 = 0 ∧ K 91 32 = 0 ∧ K 91 33 = 0 ∧ K 91 34 = 0) : RLn K iniR := by
  have i0 : ∀ k : Int, k ≠ 2 → k ≠ 3 → k ≠ 4 → iniR 0 k = 0 := fun k a b c => by unfold iniR; rw [if_pos rfl, if_neg a, if_neg b, if_neg c]
  have i2 : iniR 0 2 = 1 := by rfl
  have i3 : iniR 0 3 = 2 := by rfl
  have i4 : iniR 0 4 = -1 := by rfl
  have ia : ∀ (a : Nat) (k : Int), a ≠ 0 → iniR a k = 0 := fun a k h => if_neg h
  refine ⟨⟨?_, ?_, ?_, ?_, ?_, ?_⟩, ?_⟩
  · rw [i0 1 (by decide) (by decide) (by decide), i2, i3, i4, i0 5 (by decide) (by decide) (by decide), i0 6 (by decide) (by decide) (by decide), i0 7 (by decide) (by decide) (by decide), ia 11 0 (by decide)]; exact h
  · rw [i0 1 (by decide) (by decide) (by decide)]; intro c c0 c1; omega
  · rw [i0 1 (by decide) (by decide) (by decide)]; intro c c0 c1; omega
  · rw [i0 1 (by decide) (by decide) (by decide)]; intro c k j c0 c1; omega
  · rw [i0 5 (by decide) (by decide) (by decide)]; intro c j c0 c1; omega
  · rw [i0 6 (by decide) (by decide) (by decide)]; intro c j c0 c1; omega
  · refine ⟨?_, ?_, ?_, ?_, fun p => ?_, fun s => ⟨Or.inl (ia 8 s (by decide)), Or.inl (ia 9 s (by decide))⟩, Or.inl (ia 10 0 (by decide)), Or.inl (ia 11 0 (by decide)), Or.inl (i0 7 (by decide) (by decide) (by decide))⟩
    · rw [i0 1 (by decide) (by decide) (by decide)]; exact ⟨by decide, by decide⟩
    · rw [i2]; exact ⟨by decide, by decide⟩
    · rw [i0 5 (by decide) (by decide) (by decide)]; exact ⟨by decide, by decide⟩
    · rw [i0 6 (by decide) (by decide) (by decide)]; exact ⟨by decide, by decide⟩
    · rw [ia 3 p (by decide)]; exact ⟨by decide, by decide⟩
abbrev twS : List Nat := [99, 92, 93, 94, 95, 96, 97, 98, 101, 102, 103, 104, 105, 106, 107, 108, 109, 110]
abbrev twF : List Int := [0, 1, 2, 3, 4, 5, 6, 7, 17, 20, 61, 66, 76, 89, 92, 27, 28, 29, 30, 31, 32, 33, 34, 18, 19, 21, 22, 23, 24, 25, 26]
section
variable {G : HX} {d : Nat} {I : Mem} {P : Ptr} {T : Tn}
theorem c_X12_town {n : Int} (hW : WP P) (h17 : 0 ≤ I 91 17 ∧ I 91 17 ≤ 700) (htp : ∀ c, 0 ≤ c → c < I 91 17 → 0 ≤ I 100 c ∧ I 100 c ≤ 255) (h99 : 0 ≤ I 99 0 ∧ I 99 0 ≤ 100000) : Cv G mX12_town (d + 6) 0 0 [.inr (.inl 91), .inl n] NO I P (qI NO (fun r I' P' => P' = P ∧ ((¬ (0 ≤ n ∧ n ≤ I 91 17) ∧ r = 0 ∧ I' = uI (uI I 91 0 0) 91 0 1) ∨ ((0 ≤ n ∧ n ≤ I 91 17) ∧ I' 91 0 = 0 ∧ I' 91 17 = 0 ∧ (((parR (tkS (I 100) n)).1 ≠ 0 ∧ r = (parR (tkS (I 100) n)).1 ∧ I' 91 19 = (parR (tkS (I 100) n)).2.1 ∧ I' 99 = u1 (I 99) 0 (I 99 0 + 1) ∧ Fr (99 :: paS) (0 :: 17 :: 20 :: paF) I I') ∨ ((parR (tkS (I 100) n)).1 = 0 ∧ r = 0 ∧ I' 91 19 = -1 ∧ MSt I' (parR (tkS (I 100) n)).2.2.2 ∧ I' 91 61 = 0 ∧ I' 91 66 = 0 ∧ I' 91 76 = 0 ∧ I' 91 89 = 0 ∧ I' 91 92 = 0 ∧ I' 99 = I 99 ∧ Fr twS twF I I')))))) := by
  obtain ⟨R, hR⟩ : ∃ R, R = parR (tkS (I 100) n) := ⟨_, rfl⟩
  refine x_enter mfX12_town rfl (Nat.le_of_ble_eq_true rfl) (fun _ => ?_)
  have hBad : (0 ≤ n ∧ n ≤ I 91 17) → ∀ K : Mem, R.1 ≠ 0 → K 91 18 = R.1 → K 91 19 = R.2.1 → K 91 0 = 0 → K 91 17 = 0 → K 99 = I 99 → Fr (99 :: paS) (0 :: 17 :: 20 :: paF) I K → V G mX12_town (d + 6) 0 0 127 [some (.inr (.inl 91)), none, none, none] [] NO K P (qI NO (fun r I' P' => P' = P ∧ ((¬ (0 ≤ n ∧ n ≤ I 91 17) ∧ r = 0 ∧ I' = uI (uI I 91 0 0) 91 0 1) ∨ ((0 ≤ n ∧ n ≤ I 91 17) ∧ I' 91 0 = 0 ∧ I' 91 17 = 0 ∧ (((parR (tkS (I 100) n)).1 ≠ 0 ∧ r = (parR (tkS (I 100) n)).1 ∧ I' 91 19 = (parR (tkS (I 100) n)).2.1 ∧ I' 99 = u1 (I 99) 0 (I 99 0 + 1) ∧ Fr (99 :: paS) (0 :: 17 :: 20 :: paF) I I') ∨ ((parR (tkS (I 100) n)).1 = 0 ∧ r = 0 ∧ I' 91 19 = -1 ∧ MSt I' (parR (tkS (I 100) n)).2.2.2 ∧ I' 91 61 = 0 ∧ I' 91 66 = 0 ∧ I' 91 76 = 0 ∧ I' 91 89 = 0 ∧ I' 91 92 = 0 ∧ I' 99 = I 99 ∧ Fr twS twF I I')))))) := fun hnn K r0 r1 r2 z0 z17 k99 hFr => by
    have hRb : RSt K (I 100) n (R.1, R.2.1) 0 := Or.inr ⟨r0, r1, r2⟩
    refine y_aln (i := 0) dX12_town_127 at91.ne0 rfl rfl ?_
    refine x_callVI (c_X12_isGood hW hRb) dX12_town_128 lkX12_238 mfX12_isGood cfX12 at91 rfl rfl rfl rfl (Nat.le_of_ble_eq_true rfl) (fun r128 I128 P128 hr128 hf128 => ?_)
    obtain ⟨i128, p128, q128⟩ := hf128
    rw [i128, p128]
    refine x_if_ne (tgt := 149) dX12_town_131 rfl (fun h131 => ?_) (fun h131 => ?_)
    · exact absurd (q128.resolve_right (fun q => by have := q.1; omega)).2 r0
    · refine y_aln (i := 0) dX12_town_134 at91.ne0 rfl rfl ?_
      refine y_getp (z := 15) (v := 99) dX12_town_135 frX12_41 cfX12 at91 rfl rfl (wp (v := 99) hW rfl rfl (by decide)) ?_
      refine y_ic dX12_town_138 ⟨by decide, by decide⟩ ?_
      refine x_dup2 dX12_town_139 rfl rfl ?_
      refine x_iald dX12_town_140 ar99 ⟨by omega, by omega⟩ ?_
      rw [k99]
      refine y_ic dX12_town_141 ⟨by decide, by decide⟩ ?_
      refine x_iadd dX12_town_142 ⟨by omega, by omega⟩ ?_
      refine x_iast dX12_town_143 ar99 ⟨by omega, by omega⟩ ?_
      refine y_aln (i := 0) dX12_town_144 at91.ne0 rfl rfl ?_
      refine y_geti (z := 18) dX12_town_145 frX12_235 cfX12 at91 rfl rfl ?_
      refine x_iret dX12_town_148 rfl ?_
      have e91 : uI K 99 0 (I 99 0 + 1) 91 = K 91 := uI_ne (by decide)
      have e99 : uI K 99 0 (I 99 0 + 1) 99 = u1 (I 99) 0 (I 99 0 + 1) := by rw [uI_eq, k99]
      rw [e91, e99, ← hR]
      exact ⟨rfl, Or.inr ⟨hnn, z0, z17, Or.inl ⟨r0, r1, r2, rfl, hFr.ui (by decide) (by decide)⟩⟩⟩
  have hNow : (0 ≤ n ∧ n ≤ I 91 17) → R.1 = 0 → ∀ (j : Nat) (c : Int) (K : Mem), (48 - c).toNat < j → 0 ≤ c → c ≤ 48 → K 91 0 = 0 → K 91 17 = 0 → K 91 19 = -1 → K 99 = I 99 → Fr twS twF I K → (0 ≤ R.2.2.2 0 1 ∧ R.2.2.2 0 1 ≤ 6) → (∀ k, 1 ≤ k → k ≤ 7 → K 91 k = R.2.2.2 0 k) → (∀ c, 0 ≤ c → c < 8 * R.2.2.2 0 1 → K 92 c = R.2.2.2 1 c ∧ K 107 c = R.2.2.2 7 c) → (∀ p, 0 ≤ p → p < R.2.2.2 0 1 → K 93 p = R.2.2.2 2 p ∧ K 94 p = R.2.2.2 3 p) → (∀ p k j, 0 ≤ p → p < R.2.2.2 0 1 → 0 ≤ k → k < R.2.2.2 3 p → 0 ≤ j → j < 3 → K 95 (18 * p + 3 * k + j) = R.2.2.2 4 (18 * p + 3 * k + j)) → (∀ t j, 0 ≤ t → t < R.2.2.2 0 5 → 0 ≤ j → j < 3 → K 96 (3 * t + j) = R.2.2.2 5 (3 * t + j)) → (∀ m j, 0 ≤ m → m < R.2.2.2 0 6 → 0 ≤ j → j < 2 → K 97 (2 * m + j) = R.2.2.2 6 (2 * m + j)) → (∀ x, 0 ≤ x → x < c → K 98 x = if x < 8 * R.2.2.2 0 1 then R.2.2.2 7 x else 0) → V G mX12_town (d + 6) 0 0 279 [some (.inr (.inl 91)), none, none, some (.inl (c))] [] NO K P (qI NO (fun r I' P' => P' = P ∧ ((¬ (0 ≤ n ∧ n ≤ I 91 17) ∧ r = 0 ∧ I' = uI (uI I 91 0 0) 91 0 1) ∨ ((0 ≤ n ∧ n ≤ I 91 17) ∧ I' 91 0 = 0 ∧ I' 91 17 = 0 ∧ (((parR (tkS (I 100) n)).1 ≠ 0 ∧ r = (parR (tkS (I 100) n)).1 ∧ I' 91 19 = (parR (tkS (I 100) n)).2.1 ∧ I' 99 = u1 (I 99) 0 (I 99 0 + 1) ∧ Fr (99 :: paS) (0 :: 17 :: 20 :: paF) I I') ∨ ((parR (tkS (I 100) n)).1 = 0 ∧ r = 0 ∧ I' 91 19 = -1 ∧ MSt I' (parR (tkS (I 100) n)).2.2.2 ∧ I' 91 61 = 0 ∧ I' 91 66 = 0 ∧ I' 91 76 = 0 ∧ I' 91 89 = 0 ∧ I' 91 92 = 0 ∧ I' 99 = I 99 ∧ Fr twS twF I I')))))) := by
    intro hnn r0 j
    induction j with
    | zero => intro c K hj; omega
    | succ j ih =>
      intro c K hj hc hc2 z0 z17 z19 k99 hFr q6 m0 m1 m2 m3 m4 m5 m6
      have e1 : K 91 1 = R.2.2.2 0 1 := m0 1 (by decide) (by decide)
      have nx : ∀ v, v = (if c < 8 * R.2.2.2 0 1 then R.2.2.2 7 c else 0) → c < 48 → V G mX12_town (d + 6) 0 0 279 [some (.inr (.inl 91)), none, none, some (.inl (c + 1))] [] NO (uI K 98 c v) P (qI NO (fun r I' P' => P' = P ∧ ((¬ (0 ≤ n ∧ n ≤ I 91 17) ∧ r = 0 ∧ I' = uI (uI I 91 0 0) 91 0 1) ∨ ((0 ≤ n ∧ n ≤ I 91 17) ∧ I' 91 0 = 0 ∧ I' 91 17 = 0 ∧ (((parR (tkS (I 100) n)).1 ≠ 0 ∧ r = (parR (tkS (I 100) n)).1 ∧ I' 91 19 = (parR (tkS (I 100) n)).2.1 ∧ I' 99 = u1 (I 99) 0 (I 99 0 + 1) ∧ Fr (99 :: paS) (0 :: 17 :: 20 :: paF) I I') ∨ ((parR (tkS (I 100) n)).1 = 0 ∧ r = 0 ∧ I' 91 19 = -1 ∧ MSt I' (parR (tkS (I 100) n)).2.2.2 ∧ I' 91 61 = 0 ∧ I' 91 66 = 0 ∧ I' 91 76 = 0 ∧ I' 91 89 = 0 ∧ I' 91 92 = 0 ∧ I' 99 = I 99 ∧ Fr twS twF I I')))))) := fun v hv hc48 => by
        refine ih (c + 1) _ (by omega) (by omega) (by omega) (by rw [uI_ne (by decide)]; exact z0) (by rw [uI_ne (by decide)]; exact z17) (by rw [uI_ne (by decide)]; exact z19) (by rw [uI_ne (by decide)]; exact k99) (hFr.ui (by decide) (by decide)) q6 (by rw [uI_ne (by decide)]; exact m0) (by rw [uI_ne (by decide), uI_ne (by decide)]; exact m1) (by rw [uI_ne (by decide), uI_ne (by decide)]; exact m2) (by rw [uI_ne (by decide)]; exact m3) (by rw [uI_ne (by decide)]; exact m4) (by rw [uI_ne (by decide)]; exact m5) (fun x x0 x1 => ?_)
        rw [uI_eq]
        by_cases e : x = c
        · rw [e, u1_eq]; exact hv
        · rw [u1_ne e]; exact m6 x x0 (by omega)
      refine x_iload_n (i := 3) dX12_town_279 rfl rfl ?_
      refine y_bi dX12_town_280 ⟨by decide, by decide⟩ ?_
      refine x_icmp_ge (tgt := 318) dX12_town_282 rfl (fun h282 => ?_) (fun h282 => ?_)
      · refine y_aln (i := 0) dX12_town_318 at91.ne0 rfl rfl ?_
        refine y_ic dX12_town_319 ⟨by decide, by decide⟩ ?_
        refine y_puti (z := 61) dX12_town_320 frX12_332 cfX12 at91 rfl rfl rfl ?_
        refine y_aln (i := 0) dX12_town_323 at91.ne0 rfl rfl ?_
        refine y_ic dX12_town_324 ⟨by decide, by decide⟩ ?_
        refine y_putz (z := 66) dX12_town_325 frX12_335 cfX12 at91 rfl rfl rfl (by omega) ?_
        refine y_aln (i := 0) dX12_town_328 at91.ne0 rfl rfl ?_
        refine y_ic dX12_town_329 ⟨by decide, by decide⟩ ?_
        refine y_puti (z := 76) dX12_town_330 frX12_338 cfX12 at91 rfl rfl rfl ?_
        refine y_aln (i := 0) dX12_town_333 at91.ne0 rfl rfl ?_
        refine y_ic dX12_town_334 ⟨by decide, by decide⟩ ?_
        refine y_putz (z := 89) dX12_town_335 frX12_341 cfX12 at91 rfl rfl rfl (by omega) ?_
        refine y_aln (i := 0) dX12_town_338 at91.ne0 rfl rfl ?_
        refine y_ic dX12_town_339 ⟨by decide, by decide⟩ ?_
        refine y_putz (z := 92) dX12_town_340 frX12_344 cfX12 at91 rfl rfl rfl (by omega) ?_
        refine y_ic dX12_town_343 ⟨by decide, by decide⟩ ?_
        refine x_iret dX12_town_344 rfl ?_
        obtain ⟨J, hJ⟩ : ∃ J, J = uI (uI (uI (uI (uI K 91 61 0) 91 66 0) 91 76 0) 91 89 0) 91 92 0 := ⟨_, rfl⟩
        have jk : ∀ k : Int, k ≠ 61 → k ≠ 66 → k ≠ 76 → k ≠ 89 → k ≠ 92 → J 91 k = K 91 k := fun k a1 a2 a3 a4 a5 => by rw [hJ, uI_eq, u1_ne a5, uI_eq, u1_ne a4, uI_eq, u1_ne a3, uI_eq, u1_ne a2, uI_eq, u1_ne a1]
        have ja : ∀ a, a ≠ 91 → J a = K a := fun a h => by rw [hJ, uI_ne h, uI_ne h, uI_ne h, uI_ne h, uI_ne h]
        have w61 : J 91 61 = 0 := by rw [hJ, uI_eq, u1_ne (by decide), uI_eq, u1_ne (by decide), uI_eq, u1_ne (by decide), uI_eq, u1_ne (by decide), uI_eq, u1_eq]
        have w66 : J 91 66 = 0 := by rw [hJ, uI_eq, u1_ne (by decide), uI_eq, u1_ne (by decide), uI_eq, u1_ne (by decide), uI_eq, u1_eq]
        have w76 : J 91 76 = 0 := by rw [hJ, uI_eq, u1_ne (by decide), uI_eq, u1_ne (by decide), uI_eq, u1_eq]
        have w89 : J 91 89 = 0 := by rw [hJ, uI_eq, u1_ne (by decide), uI_eq, u1_eq]
        have w92 : J 91 92 = 0 := by rw [hJ, uI_eq, u1_eq]
        have hFJ : Fr twS twF I J := by rw [hJ]; exact ((((hFr.uf (by decide)).uf (by decide)).uf (by decide)).uf (by decide)).uf (by decide)
        rw [← hJ, ← hR]
        refine ⟨rfl, Or.inr ⟨hnn, by rw [jk 0 (by decide) (by decide) (by decide) (by decide) (by decide)]; exact z0, by rw [jk 17 (by decide) (by decide) (by decide) (by decide) (by decide)]; exact z17, Or.inr ⟨r0, rfl, by rw [jk 19 (by decide) (by decide) (by decide) (by decide) (by decide)]; exact z19, ?_, w61, w66, w76, w89, w92, by rw [ja 99 (by decide)]; exact k99, hFJ⟩⟩⟩
        unfold MSt
        rw [ja 92 (by decide), ja 93 (by decide), ja 94 (by decide), ja 95 (by decide), ja 96 (by decide), ja 97 (by decide), ja 98 (by decide)]
        exact ⟨fun k k0 k1 => by rw [jk k (by omega) (by omega) (by omega) (by omega) (by omega)]; exact m0 k k0 k1, fun c c0 c1 => (m1 c c0 c1).1, m2, m3, m4, m5, fun x x0 x1 => m6 x x0 (by omega)⟩
      · refine y_aln (i := 0) dX12_town_285 at91.ne0 rfl rfl ?_
        refine y_getp (z := 14) (v := 98) dX12_town_286 frX12_38 cfX12 at91 rfl rfl (wp (v := 98) hW rfl rfl (by decide)) ?_
        refine x_iload_n (i := 3) dX12_town_289 rfl rfl ?_
        refine x_iload_n (i := 3) dX12_town_290 rfl rfl ?_
        refine y_bi dX12_town_291 ⟨by decide, by decide⟩ ?_
        refine y_aln (i := 0) dX12_town_293 at91.ne0 rfl rfl ?_
        refine y_geti (z := 1) dX12_town_294 frX12_316 cfX12 at91 rfl rfl ?_
        refine x_imul dX12_town_297 (by rw [e1]; exact ⟨by omega, by omega⟩) ?_
        refine x_icmp_ge (tgt := 310) dX12_town_298 rfl (fun h298 => ?_) (fun h298 => ?_)
        · have ge : ¬ c < 8 * R.2.2.2 0 1 := by omega
          refine y_ic dX12_town_310 ⟨by decide, by decide⟩ ?_
          refine x_iast dX12_town_311 ar98 ⟨by omega, by omega⟩ ?_
          refine x_iinc dX12_town_312 rfl ⟨by omega, by omega⟩ rfl (Nat.le_of_ble_eq_true rfl) ?_
          refine x_goto (tgt := 279) dX12_town_315 rfl ?_
          refine x_keep [1, 0, 0, 1] ?_
          first | (have z := ge; exact nx 0 (by rw [if_neg ge]) (by omega)) | (have z := lt; exact nx (K 107 c) (by rw [if_pos lt]; exact (m1 c hc lt).2) (by omega))
        · have lt : c < 8 * R.2.2.2 0 1 := by omega
          refine y_aln (i := 0) dX12_town_301 at91.ne0 rfl rfl ?_
          refine y_getp (z := 41) (v := 107) dX12_town_302 frX12_68 cfX12 at91 rfl rfl (wp (v := 107) hW rfl rfl (by decide)) ?_
          refine x_iload_n (i := 3) dX12_town_305 rfl rfl ?_
          refine x_iald dX12_town_306 ar107 ⟨by omega, by omega⟩ ?_
          refine x_goto (tgt := 311) dX12_town_307 rfl ?_
          refine x_iast dX12_town_311 ar98 ⟨by omega, by omega⟩ ?_
          refine x_iinc dX12_town_312 rfl ⟨by omega, by omega⟩ rfl (Nat.le_of_ble_eq_true rfl) ?_
          refine x_goto (tgt := 279) dX12_town_315 rfl ?_
          refine x_keep [1, 0, 0, 1] ?_
          first | (have z := ge; exact nx 0 (by rw [if_neg ge]) (by omega)) | (have z := lt; exact nx (K 107 c) (by rw [if_pos lt]; exact (m1 c hc lt).2) (by omega))
  have hGood : (0 ≤ n ∧ n ≤ I 91 17) → R.1 = 0 → ∀ (K : Mem) (i : Int), GD K (I 100) n i → RLn K R.2.2.2 → K 91 0 = 0 → K 91 17 = 0 → K 99 = I 99 → Fr (99 :: paS) (0 :: 17 :: 20 :: paF) I K → V G mX12_town (d + 6) 0 0 127 [some (.inr (.inl 91)), none, none, none] [] NO K P (qI NO (fun r I' P' => P' = P ∧ ((¬ (0 ≤ n ∧ n ≤ I 91 17) ∧ r = 0 ∧ I' = uI (uI I 91 0 0) 91 0 1) ∨ ((0 ≤ n ∧ n ≤ I 91 17) ∧ I' 91 0 = 0 ∧ I' 91 17 = 0 ∧ (((parR (tkS (I 100) n)).1 ≠ 0 ∧ r = (parR (tkS (I 100) n)).1 ∧ I' 91 19 = (parR (tkS (I 100) n)).2.1 ∧ I' 99 = u1 (I 99) 0 (I 99 0 + 1) ∧ Fr (99 :: paS) (0 :: 17 :: 20 :: paF) I I') ∨ ((parR (tkS (I 100) n)).1 = 0 ∧ r = 0 ∧ I' 91 19 = -1 ∧ MSt I' (parR (tkS (I 100) n)).2.2.2 ∧ I' 91 61 = 0 ∧ I' 91 66 = 0 ∧ I' 91 76 = 0 ∧ I' 91 89 = 0 ∧ I' 91 92 = 0 ∧ I' 99 = I 99 ∧ Fr twS twF I I')))))) := fun hnn r0 K i hG hS z0 z17 k99 hFr => by
    have hRg : RSt K (I 100) n (0, 0) i := RSt.o rfl hG
    obtain ⟨⟨m0, m1, m2, m3, m4, m5⟩, sb⟩ := hS
    refine y_aln (i := 0) dX12_town_127 at91.ne0 rfl rfl ?_
    refine x_callVI (c_X12_isGood hW hRg) dX12_town_128 lkX12_238 mfX12_isGood cfX12 at91 rfl rfl rfl rfl (Nat.le_of_ble_eq_true rfl) (fun r128 I128 P128 hr128 hf128 => ?_)
    obtain ⟨i128, p128, q128⟩ := hf128
    rw [i128, p128]
    refine x_if_ne (tgt := 149) dX12_town_131 rfl (fun h131 => ?_) (fun h131 => ?_)
    · refine y_aln (i := 0) dX12_town_149 at91.ne0 rfl rfl ?_
      refine y_aln (i := 0) dX12_town_150 at91.ne0 rfl rfl ?_
      refine y_geti (z := 27) dX12_town_151 frX12_254 cfX12 at91 rfl rfl ?_
      have hw : ∀ J : Mem, J = uI (uI (uI (uI (uI (uI (uI K 91 1 (K 91 27)) 91 2 (K 91 28)) 91 3 (K 91 29)) 91 4 (K 91 30)) 91 5 (K 91 31)) 91 6 (K 91 32)) 91 7 (K 91 33) → (∀ a, a ≠ 91 → J a = K a) ∧ (∀ k : Int, k < 1 ∨ 7 < k → J 91 k = K 91 k) ∧ (∀ k : Int, 1 ≤ k → k ≤ 7 → J 91 k = R.2.2.2 0 k) := fun J hJ => by
        refine ⟨fun a h => by rw [hJ, uI_ne h, uI_ne h, uI_ne h, uI_ne h, uI_ne h, uI_ne h, uI_ne h], fun k hk => by rw [hJ, uI_eq, u1_ne (by omega), uI_eq, u1_ne (by omega), uI_eq, u1_ne (by omega), uI_eq, u1_ne (by omega), uI_eq, u1_ne (by omega), uI_eq, u1_ne (by omega), uI_eq, u1_ne (by omega)], fun k k0 k1 => ?_⟩
        have : k = 1 ∨ k = 2 ∨ k = 3 ∨ k = 4 ∨ k = 5 ∨ k = 6 ∨ k = 7 := by omega
        rw [hJ]
        rcases this with rfl | rfl | rfl | rfl | rfl | rfl | rfl
        · simp only [uI_eq]; rw [u1_ne (by decide), u1_ne (by decide), u1_ne (by decide), u1_ne (by decide), u1_ne (by decide), u1_ne (by decide), u1_eq]; exact m0.1
        · simp only [uI_eq]; rw [u1_ne (by decide), u1_ne (by decide), u1_ne (by decide), u1_ne (by decide), u1_ne (by decide), u1_eq]; exact m0.2.1
        · simp only [uI_eq]; rw [u1_ne (by decide), u1_ne (by decide), u1_ne (by decide), u1_ne (by decide), u1_eq]; exact m0.2.2.1
        · simp only [uI_eq]; rw [u1_ne (by decide), u1_ne (by decide), u1_ne (by decide), u1_eq]; exact m0.2.2.2.1
        · simp only [uI_eq]; rw [u1_ne (by decide), u1_ne (by decide), u1_eq]; exact m0.2.2.2.2.1
        · simp only [uI_eq]; rw [u1_ne (by decide), u1_eq]; exact m0.2.2.2.2.2.1
        · simp only [uI_eq]; rw [u1_eq]; exact m0.2.2.2.2.2.2.1
      refine y_puti (z := 1) dX12_town_154 frX12_316 cfX12 at91 rfl rfl rfl ?_
      refine y_aln (i := 0) dX12_town_157 at91.ne0 rfl rfl ?_
      refine y_aln (i := 0) dX12_town_158 at91.ne0 rfl rfl ?_
      refine y_geti (z := 28) dX12_town_159 frX12_251 cfX12 at91 rfl rfl ?_
      rw [show uI K 91 1 (K 91 27) 91 28 = K 91 28 from by rw [uI_eq, u1_ne (by decide)]]
      refine y_puti (z := 2) dX12_town_162 frX12_7 cfX12 at91 rfl rfl rfl ?_
      refine y_aln (i := 0) dX12_town_165 at91.ne0 rfl rfl ?_
      refine y_aln (i := 0) dX12_town_166 at91.ne0 rfl rfl ?_
      refine y_geti (z := 29) dX12_town_167 frX12_278 cfX12 at91 rfl rfl ?_
      rw [show uI (uI K 91 1 (K 91 27)) 91 2 (K 91 28) 91 29 = K 91 29 from by rw [uI_eq, u1_ne (by decide), uI_eq, u1_ne (by decide)]]
      refine y_puti (z := 3) dX12_town_170 frX12_13 cfX12 at91 rfl rfl rfl ?_
      refine y_aln (i := 0) dX12_town_173 at91.ne0 rfl rfl ?_
      refine y_aln (i := 0) dX12_town_174 at91.ne0 rfl rfl ?_
      refine y_geti (z := 30) dX12_town_175 frX12_281 cfX12 at91 rfl rfl ?_
      rw [show uI (uI (uI K 91 1 (K 91 27)) 91 2 (K 91 28)) 91 3 (K 91 29) 91 30 = K 91 30 from by rw [uI_eq, u1_ne (by decide), uI_eq, u1_ne (by decide), uI_eq, u1_ne (by decide)]]
      refine y_puti (z := 4) dX12_town_178 frX12_16 cfX12 at91 rfl rfl rfl ?_
      refine y_aln (i := 0) dX12_town_181 at91.ne0 rfl rfl ?_
      refine y_aln (i := 0) dX12_town_182 at91.ne0 rfl rfl ?_
      refine y_geti (z := 31) dX12_town_183 frX12_287 cfX12 at91 rfl rfl ?_
      rw [show uI (uI (uI (uI K 91 1 (K 91 27)) 91 2 (K 91 28)) 91 3 (K 91 29)) 91 4 (K 91 30) 91 31 = K 91 31 from by rw [uI_eq, u1_ne (by decide), uI_eq, u1_ne (by decide), uI_eq, u1_ne (by decide), uI_eq, u1_ne (by decide)]]
      refine y_puti (z := 5) dX12_town_186 frX12_319 cfX12 at91 rfl rfl rfl ?_
      refine y_aln (i := 0) dX12_town_189 at91.ne0 rfl rfl ?_
      refine y_aln (i := 0) dX12_town_190 at91.ne0 rfl rfl ?_
      refine y_geti (z := 32) dX12_town_191 frX12_290 cfX12 at91 rfl rfl ?_
      rw [show uI (uI (uI (uI (uI K 91 1 (K 91 27)) 91 2 (K 91 28)) 91 3 (K 91 29)) 91 4 (K 91 30)) 91 5 (K 91 31) 91 32 = K 91 32 from by rw [uI_eq, u1_ne (by decide), uI_eq, u1_ne (by decide), uI_eq, u1_ne (by decide), uI_eq, u1_ne (by decide), uI_eq, u1_ne (by decide)]]
      refine y_puti (z := 6) dX12_town_194 frX12_322 cfX12 at91 rfl rfl rfl ?_
      refine y_aln (i := 0) dX12_town_197 at91.ne0 rfl rfl ?_
      refine y_aln (i := 0) dX12_town_198 at91.ne0 rfl rfl ?_
      refine y_geti (z := 33) dX12_town_199 frX12_284 cfX12 at91 rfl rfl ?_
      rw [show uI (uI (uI (uI (uI (uI K 91 1 (K 91 27)) 91 2 (K 91 28)) 91 3 (K 91 29)) 91 4 (K 91 30)) 91 5 (K 91 31)) 91 6 (K 91 32) 91 33 = K 91 33 from by rw [uI_eq, u1_ne (by decide), uI_eq, u1_ne (by decide), uI_eq, u1_ne (by decide), uI_eq, u1_ne (by decide), uI_eq, u1_ne (by decide), uI_eq, u1_ne (by decide)]]
      refine y_putz (z := 7) dX12_town_202 frX12_325 cfX12 at91 rfl rfl rfl (by have := sb.2.2.2.2.2.2.2.2; have := m0.2.2.2.2.2.2.1; omega) ?_
      obtain ⟨J, hJ⟩ : ∃ J, J = uI (uI (uI (uI (uI (uI (uI K 91 1 (K 91 27)) 91 2 (K 91 28)) 91 3 (K 91 29)) 91 4 (K 91 30)) 91 5 (K 91 31)) 91 6 (K 91 32)) 91 7 (K 91 33) := ⟨_, rfl⟩
      rw [← hJ]
      obtain ⟨ja, jk, jt⟩ := hw J hJ
      have hFJ : Fr twS twF I J := by rw [hJ]; exact (((((((hFr.mo (S' := twS) (F' := twF) (by decide) (by decide)).uf (by decide)).uf (by decide)).uf (by decide)).uf (by decide)).uf (by decide)).uf (by decide)).uf (by decide)
      refine y_aln (i := 0) dX12_town_205 at91.ne0 rfl rfl ?_
      refine y_aln (i := 0) dX12_town_206 at91.ne0 rfl rfl ?_
      refine y_getp (z := 35) (v := 101) dX12_town_207 frX12_50 cfX12 at91 rfl rfl (wp (v := 101) hW rfl rfl (by decide)) ?_
      refine y_aln (i := 0) dX12_town_210 at91.ne0 rfl rfl ?_
      refine y_getp (z := 8) (v := 92) dX12_town_211 frX12_19 cfX12 at91 rfl rfl (wp (v := 92) hW rfl rfl (by decide)) ?_
      refine x_callVV (c_X12_copies ar101 ar92 (by decide) (by decide) (by decide)) dX12_town_214 lkX12_328 mfX12_copies cfX12 at91 rfl rfl rfl rfl (Nat.le_of_ble_eq_true rfl) (fun n214 I214 P214 hf214 => ?_)
      obtain ⟨rfl, h214, rfl⟩ := hf214
      refine y_aln (i := 0) dX12_town_217 at91.ne0 rfl rfl ?_
      refine y_aln (i := 0) dX12_town_218 at91.ne0 rfl rfl ?_
      refine y_getp (z := 36) (v := 102) dX12_town_219 frX12_53 cfX12 at91 rfl rfl (wp (v := 102) hW rfl rfl (by decide)) ?_
      refine y_aln (i := 0) dX12_town_222 at91.ne0 rfl rfl ?_
      refine y_getp (z := 9) (v := 93) dX12_town_223 frX12_23 cfX12 at91 rfl rfl (wp (v := 93) hW rfl rfl (by decide)) ?_
      refine x_callVV (c_X12_copies ar102 ar93 (by decide) (by decide) (by decide)) dX12_town_226 lkX12_328 mfX12_copies cfX12 at91 rfl rfl rfl rfl (Nat.le_of_ble_eq_true rfl) (fun n226 I226 P226 hf226 => ?_)
      obtain ⟨rfl, h226, rfl⟩ := hf226
      refine y_aln (i := 0) dX12_town_229 at91.ne0 rfl rfl ?_
      refine y_aln (i := 0) dX12_town_230 at91.ne0 rfl rfl ?_
      refine y_getp (z := 37) (v := 103) dX12_town_231 frX12_56 cfX12 at91 rfl rfl (wp (v := 103) hW rfl rfl (by decide)) ?_
      refine y_aln (i := 0) dX12_town_234 at91.ne0 rfl rfl ?_
      refine y_getp (z := 10) (v := 94) dX12_town_235 frX12_26 cfX12 at91 rfl rfl (wp (v := 94) hW rfl rfl (by decide)) ?_
      refine x_callVV (c_X12_copies ar103 ar94 (by decide) (by decide) (by decide)) dX12_town_238 lkX12_328 mfX12_copies cfX12 at91 rfl rfl rfl rfl (Nat.le_of_ble_eq_true rfl) (fun n238 I238 P238 hf238 => ?_)
      obtain ⟨rfl, h238, rfl⟩ := hf238
      refine y_aln (i := 0) dX12_town_241 at91.ne0 rfl rfl ?_
      refine y_aln (i := 0) dX12_town_242 at91.ne0 rfl rfl ?_
      refine y_getp (z := 38) (v := 104) dX12_town_243 frX12_59 cfX12 at91 rfl rfl (wp (v := 104) hW rfl rfl (by decide)) ?_
      refine y_aln (i := 0) dX12_town_246 at91.ne0 rfl rfl ?_
      refine y_getp (z := 11) (v := 95) dX12_town_247 frX12_29 cfX12 at91 rfl rfl (wp (v := 95) hW rfl rfl (by decide)) ?_
      refine x_callVV (c_X12_copies ar104 ar95 (by decide) (by decide) (by decide)) dX12_town_250 lkX12_328 mfX12_copies cfX12 at91 rfl rfl rfl rfl (Nat.le_of_ble_eq_true rfl) (fun n250 I250 P250 hf250 => ?_)
      obtain ⟨rfl, h250, rfl⟩ := hf250
      refine y_aln (i := 0) dX12_town_253 at91.ne0 rfl rfl ?_
      refine y_aln (i := 0) dX12_town_254 at91.ne0 rfl rfl ?_
      refine y_getp (z := 39) (v := 105) dX12_town_255 frX12_62 cfX12 at91 rfl rfl (wp (v := 105) hW rfl rfl (by decide)) ?_
      refine y_aln (i := 0) dX12_town_258 at91.ne0 rfl rfl ?_
      refine y_getp (z := 12) (v := 96) dX12_town_259 frX12_32 cfX12 at91 rfl rfl (wp (v := 96) hW rfl rfl (by decide)) ?_
      refine x_callVV (c_X12_copies ar105 ar96 (by decide) (by decide) (by decide)) dX12_town_262 lkX12_328 mfX12_copies cfX12 at91 rfl rfl rfl rfl (Nat.le_of_ble_eq_true rfl) (fun n262 I262 P262 hf262 => ?_)
      obtain ⟨rfl, h262, rfl⟩ := hf262
      refine y_aln (i := 0) dX12_town_265 at91.ne0 rfl rfl ?_
      refine y_aln (i := 0) dX12_town_266 at91.ne0 rfl rfl ?_
      refine y_getp (z := 40) (v := 106) dX12_town_267 frX12_65 cfX12 at91 rfl rfl (wp (v := 106) hW rfl rfl (by decide)) ?_
      refine y_aln (i := 0) dX12_town_270 at91.ne0 rfl rfl ?_
      refine y_getp (z := 13) (v := 97) dX12_town_271 frX12_35 cfX12 at91 rfl rfl (wp (v := 97) hW rfl rfl (by decide)) ?_
      refine x_callVV (c_X12_copies ar106 ar97 (by decide) (by decide) (by decide)) dX12_town_274 lkX12_328 mfX12_copies cfX12 at91 rfl rfl rfl rfl (Nat.le_of_ble_eq_true rfl) (fun n274 I274 P274 hf274 => ?_)
      obtain ⟨rfl, h274, rfl⟩ := hf274
      refine y_ic dX12_town_277 ⟨by decide, by decide⟩ ?_
      refine x_istore_n (i := 3) dX12_town_278 rfl rfl (Nat.le_of_ble_eq_true rfl) ?_
      refine x_keep [1, 0, 0, 1] ?_
      have f0 : Fr [92, 93, 94, 95, 96, 97] [] J I274 := by
        rw [h274, h262, h250, h238, h226, h214]
        exact (((((Fr.rf.ua (by decide) (by decide)).ua (by decide) (by decide)).ua (by decide) (by decide)).ua (by decide) (by decide)).ua (by decide) (by decide)).ua (by decide) (by decide)
      have v92 : ∀ c, 0 ≤ c → c < 48 → I274 92 c = K 101 c := fun c c0 c1 => by rw [h274, uA_ne (by decide), h262, uA_ne (by decide), h250, uA_ne (by decide), h238, uA_ne (by decide), h226, uA_ne (by decide), h214, uA_eq, if_pos ⟨c0, c1⟩, ja 101 (by decide)]
      have v93 : ∀ c, 0 ≤ c → c < 6 → I274 93 c = K 102 c := fun c c0 c1 => by rw [h274, uA_ne (by decide), h262, uA_ne (by decide), h250, uA_ne (by decide), h238, uA_ne (by decide), h226, uA_eq, if_pos ⟨c0, c1⟩, h214, uA_ne (by decide), ja 102 (by decide)]
      have v94 : ∀ c, 0 ≤ c → c < 6 → I274 94 c = K 103 c := fun c c0 c1 => by rw [h274, uA_ne (by decide), h262, uA_ne (by decide), h250, uA_ne (by decide), h238, uA_eq, if_pos ⟨c0, c1⟩, h226, uA_ne (by decide), h214, uA_ne (by decide), ja 103 (by decide)]
      have v95 : ∀ c, 0 ≤ c → c < 108 → I274 95 c = K 104 c := fun c c0 c1 => by rw [h274, uA_ne (by decide), h262, uA_ne (by decide), h250, uA_eq, if_pos ⟨c0, c1⟩, h238, uA_ne (by decide), h226, uA_ne (by decide), h214, uA_ne (by decide), ja 104 (by decide)]
      have v96 : ∀ c, 0 ≤ c → c < 12 → I274 96 c = K 105 c := fun c c0 c1 => by rw [h274, uA_ne (by decide), h262, uA_eq, if_pos ⟨c0, c1⟩, h250, uA_ne (by decide), h238, uA_ne (by decide), h226, uA_ne (by decide), h214, uA_ne (by decide), ja 105 (by decide)]
      have v97 : ∀ c, 0 ≤ c → c < 16 → I274 97 c = K 106 c := fun c c0 c1 => by rw [h274, uA_eq, if_pos ⟨c0, c1⟩, h262, uA_ne (by decide), h250, uA_ne (by decide), h238, uA_ne (by decide), h226, uA_ne (by decide), h214, uA_ne (by decide), ja 106 (by decide)]
      have y107 : I274 107 = K 107 := by rw [f0.1 107 (by decide) (by decide)]; exact ja 107 (by decide)
      have yk : ∀ k : Int, I274 91 k = J 91 k := fun k => f0.2 k (by simp)
      obtain ⟨sb1, sb2, sb3, sb4, sb5, -⟩ := sb
      exact hNow hnn r0 _ 0 I274 (Nat.lt_succ_self _) (by decide) (by decide) (by rw [yk, jk 0 (by decide)]; exact z0) (by rw [yk, jk 17 (by decide)]; exact z17) (by rw [yk, jk 19 (by decide)]; exact hG.2.1) (by rw [f0.1 99 (by decide) (by decide), ja 99 (by decide)]; exact k99) (hFJ.tr (f0.mo (by decide) (by decide))) sb1 (fun k k0 k1 => by rw [yk]; exact jt k k0 k1) (fun c c0 c1 => by rw [v92 c c0 (by omega), y107]; exact m1 c c0 c1) (fun p p0 p1 => by rw [v93 p p0 (by omega), v94 p p0 (by omega)]; exact m2 p p0 p1) (fun p k j p0 p1 k0 k1 j0 j1 => by have := sb5 p; rw [v95 _ (by omega) (by omega)]; exact m3 p k j p0 p1 k0 k1 j0 j1) (fun t j t0 t1 j0 j1 => by rw [v96 _ (by omega) (by omega)]; exact m4 t j t0 t1 j0 j1) (fun t j t0 t1 j0 j1 => by rw [v97 _ (by omega) (by omega)]; exact m5 t j t0 t1 j0 j1) (fun x x0 x1 => by omega)
    · exact absurd rfl (q128.resolve_left (fun q => by have := q.1; omega)).2
  have hL : (0 ≤ n ∧ n ≤ I 91 17) → ∀ (f : Nat) (l i b : Int) (K : Mem) (S : Tn), R = townR (tkS (I 100) n) f l i S → n - i < (f : Int) → (0 ≤ i ∧ i ≤ n) → 0 ≤ l → (b ≠ 0 ↔ l = 0) → GD K (I 100) n i → RLn K S → K 91 0 = 0 → K 91 17 = 0 → K 99 = I 99 → Fr (99 :: paS) (0 :: 17 :: 20 :: paF) I K → V G mX12_town (d + 6) 0 0 103 [some (.inr (.inl 91)), none, some (.inl (b)), none] [] NO K P (qI NO (fun r I' P' => P' = P ∧ ((¬ (0 ≤ n ∧ n ≤ I 91 17) ∧ r = 0 ∧ I' = uI (uI I 91 0 0) 91 0 1) ∨ ((0 ≤ n ∧ n ≤ I 91 17) ∧ I' 91 0 = 0 ∧ I' 91 17 = 0 ∧ (((parR (tkS (I 100) n)).1 ≠ 0 ∧ r = (parR (tkS (I 100) n)).1 ∧ I' 91 19 = (parR (tkS (I 100) n)).2.1 ∧ I' 99 = u1 (I 99) 0 (I 99 0 + 1) ∧ Fr (99 :: paS) (0 :: 17 :: 20 :: paF) I I') ∨ ((parR (tkS (I 100) n)).1 = 0 ∧ r = 0 ∧ I' 91 19 = -1 ∧ MSt I' (parR (tkS (I 100) n)).2.2.2 ∧ I' 91 61 = 0 ∧ I' 91 66 = 0 ∧ I' 91 76 = 0 ∧ I' 91 89 = 0 ∧ I' 91 92 = 0 ∧ I' 99 = I 99 ∧ Fr twS twF I I')))))) := by
    intro hnn f
    induction f with
    | zero => intro l i b K S hZ hf hi; omega
    | succ f ih =>
      intro l i b K S hZ hf hi hl hb hG hS z0 z17 k99 hFr
      have hRg : RSt K (I 100) n (0, 0) i := RSt.o rfl hG
      have hK0 := hG.2.2.2.2.2.1
      have hx := fun (q : tkS (I 100) n 0 i ≠ 0) => (tk_lt (tp := I 100) hnn.1 hi.1 q).2
      have hbad : ∀ (Rl : Rs) (K' : Mem), Rl.1 ≠ 0 → R = Rl → K' 91 18 = Rl.1 → K' 91 19 = Rl.2.1 → K' 91 0 = 0 → K' 91 17 = 0 → K' 99 = I 99 → Fr (99 :: paS) (0 :: 17 :: 20 :: paF) I K' → V G mX12_town (d + 6) 0 0 103 [some (.inr (.inl 91)), none, some (.inl (0)), none] [] NO K' P (qI NO (fun r I' P' => P' = P ∧ ((¬ (0 ≤ n ∧ n ≤ I 91 17) ∧ r = 0 ∧ I' = uI (uI I 91 0 0) 91 0 1) ∨ ((0 ≤ n ∧ n ≤ I 91 17) ∧ I' 91 0 = 0 ∧ I' 91 17 = 0 ∧ (((parR (tkS (I 100) n)).1 ≠ 0 ∧ r = (parR (tkS (I 100) n)).1 ∧ I' 91 19 = (parR (tkS (I 100) n)).2.1 ∧ I' 99 = u1 (I 99) 0 (I 99 0 + 1) ∧ Fr (99 :: paS) (0 :: 17 :: 20 :: paF) I I') ∨ ((parR (tkS (I 100) n)).1 = 0 ∧ r = 0 ∧ I' 91 19 = -1 ∧ MSt I' (parR (tkS (I 100) n)).2.2.2 ∧ I' 91 61 = 0 ∧ I' 91 66 = 0 ∧ I' 91 76 = 0 ∧ I' 91 89 = 0 ∧ I' 91 92 = 0 ∧ I' 99 = I 99 ∧ Fr twS twF I I')))))) := fun Rl K' r0 hRR r1 r2 z0 z17 k99 hFr' => by
        have hRb : RSt K' (I 100) n (Rl.1, Rl.2.1) 0 := Or.inr ⟨r0, r1, r2⟩
        refine y_aln (i := 0) dX12_town_103 at91.ne0 rfl rfl ?_
        refine x_callVI (c_X12_isGood hW hRb) dX12_town_104 lkX12_238 mfX12_isGood cfX12 at91 rfl rfl rfl rfl (Nat.le_of_ble_eq_true rfl) (fun r104 I104 P104 hr104 hf104 => ?_)
        obtain ⟨i104, p104, q104⟩ := hf104
        rw [i104, p104]
        refine x_if_eq (tgt := 127) dX12_town_107 rfl (fun h107 => ?_) (fun h107 => ?_)
        · refine x_keep [1, 0, 0, 0] ?_
          exact hBad hnn K' (by rw [hRR]; exact r0) (by rw [hRR]; exact r1) (by rw [hRR]; exact r2) z0 z17 k99 hFr'
        · exact absurd (q104.resolve_right (fun q => by have := q.1; omega)).2 r0
      refine y_aln (i := 0) dX12_town_103 at91.ne0 rfl rfl ?_
      refine x_callVI (c_X12_isGood hW hRg) dX12_town_104 lkX12_238 mfX12_isGood cfX12 at91 rfl rfl rfl rfl (Nat.le_of_ble_eq_true rfl) (fun r104 I104 P104 hr104 hf104 => ?_)
      obtain ⟨i104, p104, q104⟩ := hf104
      rw [i104, p104]
      refine x_if_eq (tgt := 127) dX12_town_107 rfl (fun h107 => ?_) (fun h107 => ?_)
      · exact absurd rfl (q104.resolve_left (fun q => by have := q.1; omega)).2
      · refine y_aln (i := 0) dX12_town_110 at91.ne0 rfl rfl ?_
        refine y_geti (z := 22) dX12_town_111 frX12_214 cfX12 at91 rfl rfl ?_
        refine x_if_eq (tgt := 127) dX12_town_114 rfl (fun h114 => ?_) (fun h114 => ?_)
        · have hk0 : tkS (I 100) n 0 i = 0 := hK0.mp h114
          refine x_keep [1, 0, 0, 0] ?_
          have hR2 : R = okR i S := by rw [hZ]; unfold townR; rw [if_pos hk0]
          exact hGood hnn (by rw [hR2]; rfl) K i hG (by rw [hR2]; exact hS) z0 z17 k99 hFr
        · have hk1 : tkS (I 100) n 0 i ≠ 0 := fun q => h114 (hK0.mpr q)
          refine y_aln (i := 0) dX12_town_117 at91.ne0 rfl rfl ?_
          refine x_iload_n (i := 2) dX12_town_118 rfl rfl ?_
          refine x_callVV (c_X12_line (l := l) hW hi.1 (hx hk1) hb hG hS) dX12_town_119 lkX12_313 mfX12_line cfX12 at91 rfl rfl rfl rfl (Nat.le_of_ble_eq_true rfl) (fun n119 I119 P119 hf119 => ?_)
          obtain ⟨rfl, rfl, fr119, res119⟩ := hf119
          have hR2 : R = bnR (lineR (tkS (I 100) n) l i S) (townR (tkS (I 100) n) f (l + 1)) := by rw [hZ]; show (if tkS (I 100) n 0 i = 0 then _ else _) = _; rw [if_neg hk1]
          have w0 : I119 91 0 = 0 := (fr119.2 0 (by decide)).trans z0
          have w17 : I119 91 17 = 0 := (fr119.2 17 (by decide)).trans z17
          have w99 : I119 99 = I 99 := (fr119.1 99 (by decide) (by decide)).trans k99
          have hFr2 : Fr (99 :: paS) (0 :: 17 :: 20 :: paF) I I119 := hFr.tr (fr119.mo (by decide) (by decide))
          refine y_ic dX12_town_122 ⟨by decide, by decide⟩ ?_
          refine x_istore_n (i := 2) dX12_town_123 rfl rfl (Nat.le_of_ble_eq_true rfl) ?_
          refine x_goto (tgt := 103) dX12_town_124 rfl ?_
          refine x_keep [1, 0, 1, 0] ?_
          rcases res119 with ⟨r0, r1, r2⟩ | ⟨r0, r1, r2⟩
          · have hok := lineR_ok (tp := I 100) hnn.1 hi.1 r0
            exact ih (l + 1) _ 0 I119 _ (by rw [hR2, bnR_0 r0]) (by omega) (by omega) (by omega) ⟨fun q => absurd rfl q, fun q => by omega⟩ r1 r2 w0 w17 w99 hFr2
          · exact hbad _ I119 r0 (by rw [hR2, bnR_1 r0]) r1 r2 w0 w17 w99 hFr2
  have k17 : uI I 91 0 0 91 17 = I 91 17 := by rw [uI_eq, u1_ne (by decide)]
  have hgo : (0 ≤ n ∧ n ≤ I 91 17) → V G mX12_town (d + 6) 0 0 32 [some (.inr (.inl 91)), some (.inl (n)), none, none] [] NO (uI I 91 0 0) P (qI NO (fun r I' P' => P' = P ∧ ((¬ (0 ≤ n ∧ n ≤ I 91 17) ∧ r = 0 ∧ I' = uI (uI I 91 0 0) 91 0 1) ∨ ((0 ≤ n ∧ n ≤ I 91 17) ∧ I' 91 0 = 0 ∧ I' 91 17 = 0 ∧ (((parR (tkS (I 100) n)).1 ≠ 0 ∧ r = (parR (tkS (I 100) n)).1 ∧ I' 91 19 = (parR (tkS (I 100) n)).2.1 ∧ I' 99 = u1 (I 99) 0 (I 99 0 + 1) ∧ Fr (99 :: paS) (0 :: 17 :: 20 :: paF) I I') ∨ ((parR (tkS (I 100) n)).1 = 0 ∧ r = 0 ∧ I' 91 19 = -1 ∧ MSt I' (parR (tkS (I 100) n)).2.2.2 ∧ I' 91 61 = 0 ∧ I' 91 66 = 0 ∧ I' 91 76 = 0 ∧ I' 91 89 = 0 ∧ I' 91 92 = 0 ∧ I' 99 = I 99 ∧ Fr twS twF I I')))))) := fun hnn => by
    refine y_aln (i := 0) dX12_town_32 at91.ne0 rfl rfl ?_
    refine y_ic dX12_town_33 ⟨by decide, by decide⟩ ?_
    refine y_puti (z := 17) dX12_town_34 frX12_187 cfX12 at91 rfl rfl rfl ?_
    refine y_aln (i := 0) dX12_town_37 at91.ne0 rfl rfl ?_
    refine y_ic dX12_town_38 ⟨by decide, by decide⟩ ?_
    refine y_puti (z := 19) dX12_town_39 frX12_47 cfX12 at91 rfl rfl rfl ?_
    refine y_aln (i := 0) dX12_town_42 at91.ne0 rfl rfl ?_
    refine y_ic dX12_town_43 ⟨by decide, by decide⟩ ?_
    refine y_puti (z := 18) dX12_town_44 frX12_235 cfX12 at91 rfl rfl rfl ?_
    refine y_aln (i := 0) dX12_town_47 at91.ne0 rfl rfl ?_
    refine x_iload_n (i := 1) dX12_town_48 rfl rfl ?_
    refine y_puti (z := 20) dX12_town_49 frX12_194 cfX12 at91 rfl rfl rfl ?_
    refine y_aln (i := 0) dX12_town_52 at91.ne0 rfl rfl ?_
    refine y_ic dX12_town_53 ⟨by decide, by decide⟩ ?_
    refine y_puti (z := 21) dX12_town_54 frX12_197 cfX12 at91 rfl rfl rfl ?_
    refine y_aln (i := 0) dX12_town_57 at91.ne0 rfl rfl ?_
    refine y_ic dX12_town_58 ⟨by decide, by decide⟩ ?_
    refine y_puti (z := 27) dX12_town_59 frX12_254 cfX12 at91 rfl rfl rfl ?_
    refine y_aln (i := 0) dX12_town_62 at91.ne0 rfl rfl ?_
    refine y_ic dX12_town_63 ⟨by decide, by decide⟩ ?_
    refine y_puti (z := 28) dX12_town_64 frX12_251 cfX12 at91 rfl rfl rfl ?_
    refine y_aln (i := 0) dX12_town_67 at91.ne0 rfl rfl ?_
    refine y_ic dX12_town_68 ⟨by decide, by decide⟩ ?_
    refine y_puti (z := 29) dX12_town_69 frX12_278 cfX12 at91 rfl rfl rfl ?_
    refine y_aln (i := 0) dX12_town_72 at91.ne0 rfl rfl ?_
    refine y_ic dX12_town_73 ⟨by decide, by decide⟩ ?_
    refine y_puti (z := 30) dX12_town_74 frX12_281 cfX12 at91 rfl rfl rfl ?_
    refine y_aln (i := 0) dX12_town_77 at91.ne0 rfl rfl ?_
    refine y_ic dX12_town_78 ⟨by decide, by decide⟩ ?_
    refine y_puti (z := 31) dX12_town_79 frX12_287 cfX12 at91 rfl rfl rfl ?_
    refine y_aln (i := 0) dX12_town_82 at91.ne0 rfl rfl ?_
    refine y_ic dX12_town_83 ⟨by decide, by decide⟩ ?_
    refine y_puti (z := 32) dX12_town_84 frX12_290 cfX12 at91 rfl rfl rfl ?_
    refine y_aln (i := 0) dX12_town_87 at91.ne0 rfl rfl ?_
    refine y_ic dX12_town_88 ⟨by decide, by decide⟩ ?_
    refine y_putz (z := 33) dX12_town_89 frX12_284 cfX12 at91 rfl rfl rfl (by omega) ?_
    refine y_aln (i := 0) dX12_town_92 at91.ne0 rfl rfl ?_
    refine y_ic dX12_town_93 ⟨by decide, by decide⟩ ?_
    refine y_putz (z := 34) dX12_town_94 frX12_274 cfX12 at91 rfl rfl rfl (by omega) ?_
    refine y_aln (i := 0) dX12_town_97 at91.ne0 rfl rfl ?_
    obtain ⟨J, hJ⟩ : ∃ J, J = uI (uI (uI (uI (uI (uI (uI (uI (uI (uI (uI (uI (uI (uI I 91 0 0) 91 17 0) 91 19 (-1)) 91 18 0) 91 20 n) 91 21 0) 91 27 0) 91 28 1) 91 29 2) 91 30 (-1)) 91 31 0) 91 32 0) 91 33 0) 91 34 0 := ⟨_, rfl⟩
    rw [← hJ]
    have hFJ : Fr [] [0, 17, 19, 18, 20, 21, 27, 28, 29, 30, 31, 32, 33, 34] I J := by rw [hJ]; exact (((((((((((((Fr.rf.uf (by decide)).uf (by decide)).uf (by decide)).uf (by decide)).uf (by decide)).uf (by decide)).uf (by decide)).uf (by decide)).uf (by decide)).uf (by decide)).uf (by decide)).uf (by decide)).uf (by decide)).uf (by decide)
    have jv : J 91 0 = 0 ∧ J 91 17 = 0 ∧ J 91 19 = -1 ∧ J 91 18 = 0 ∧ J 91 20 = n ∧ J 91 21 = 0 ∧ J 91 27 = 0 ∧ J 91 28 = 1 ∧ J 91 29 = 2 ∧ J 91 30 = -1 ∧ J 91 31 = 0 ∧ J 91 32 = 0 ∧ J 91 33 = 0 ∧ J 91 34 = 0 := by
      rw [hJ]
      simp only [uI_eq, u1]
      simp
    obtain ⟨v0, v17, v19, v18, v20, v21, v27, v28, v29, v30, v31, v32, v33, v34⟩ := jv
    have hLX : LX J (I 100) n := ⟨v20, by omega, fun c c0 c1 => by rw [hFJ.1 100 (by decide) (by decide)]; have := htp c c0 (by omega); exact ⟨rfl, this⟩⟩
    refine x_callVV (c_X12_goes hW hLX (Int.le_refl 0) (by rw [v21]; rfl)) dX12_town_98 lkX12_242 mfX12_goes cfX12 at91 rfl rfl rfl rfl (Nat.le_of_ble_eq_true rfl) (fun n98 I98 P98 hf98 => ?_)
    obtain ⟨rfl, rfl, fr98, tk98⟩ := hf98
    have hG : GD I98 (I 100) n 0 := ⟨(fr98.2 18 (by decide)).trans v18, (fr98.2 19 (by decide)).trans v19, tk98⟩
    have hS : RLn I98 iniR := RLn.ini ⟨(fr98.2 27 (by decide)).trans v27, (fr98.2 28 (by decide)).trans v28, (fr98.2 29 (by decide)).trans v29, (fr98.2 30 (by decide)).trans v30, (fr98.2 31 (by decide)).trans v31, (fr98.2 32 (by decide)).trans v32, (fr98.2 33 (by decide)).trans v33, (fr98.2 34 (by decide)).trans v34⟩
    refine y_ic dX12_town_101 ⟨by decide, by decide⟩ ?_
    refine x_istore_n (i := 2) dX12_town_102 rfl rfl (Nat.le_of_ble_eq_true rfl) ?_
    refine x_keep [1, 0, 1, 0] ?_
    exact hL hnn 800 0 0 1 I98 iniR hR (by omega) ⟨Int.le_refl _, hnn.1⟩ (Int.le_refl _) ⟨fun _ => rfl, fun _ => by decide⟩ hG hS ((fr98.2 0 (by decide)).trans v0) ((fr98.2 17 (by decide)).trans v17) (by rw [fr98.1 99 (by decide) (by decide), hFJ.1 99 (by decide) (by decide)]) ((hFJ.mo (by decide) (by decide)).tr (fr98.mo (by decide) (by decide)))
  refine y_aln (i := 0) dX12_town_0 at91.ne0 rfl rfl ?_
  refine y_ic dX12_town_1 ⟨by decide, by decide⟩ ?_
  refine y_puti (z := 0) dX12_town_2 frX12_184 cfX12 at91 rfl rfl rfl ?_
  refine y_aln (i := 0) dX12_town_5 at91.ne0 rfl rfl ?_
  refine x_iload_n (i := 1) dX12_town_6 rfl rfl ?_
  refine x_if_lt (tgt := 22) dX12_town_7 rfl (fun h7 => ?_) (fun h7 => ?_)
  · refine y_ic dX12_town_22 ⟨by decide, by decide⟩ ?_
    refine y_ic dX12_town_23 ⟨by decide, by decide⟩ ?_
    refine x_callVI (c_X12_right hW z_0 (by omega) (by decide)) dX12_town_24 lkX12_309 mfX12_right cfX12 at91 rfl rfl rfl rfl (Nat.le_of_ble_eq_true rfl) (fun r24 I24 P24 hr24 hf24 => ?_)
    obtain ⟨rfl, h24⟩ := hf24
    refine x_if_ne (tgt := 32) dX12_town_27 rfl (fun h27 => ?_) (fun h27 => ?_)
    · obtain ⟨a1, a2, a3⟩ := h24.resolve_right (fun q => by have := q.2.1; omega)
      refine x_keep [1, 1, 0, 0] ?_
      rw [a3]
      first | exact hgo ⟨by omega, by omega⟩ | exact absurd a1 (by decide)
    · obtain ⟨a1, a2, a3⟩ := h24.resolve_left (fun q => by have := q.2.1; omega)
      refine y_ic dX12_town_30 ⟨by decide, by decide⟩ ?_
      refine x_iret dX12_town_31 rfl ?_
      first | exact ⟨rfl, Or.inl ⟨by omega, rfl, a3⟩⟩ | exact absurd a1 (by decide)
  · refine x_iload_n (i := 1) dX12_town_10 rfl rfl ?_
    refine y_aln (i := 0) dX12_town_11 at91.ne0 rfl rfl ?_
    refine y_geti (z := 17) dX12_town_12 frX12_187 cfX12 at91 rfl rfl ?_
    rw [k17]
    refine x_icmp_gt (tgt := 22) dX12_town_15 rfl (fun h15 => ?_) (fun h15 => ?_)
    · refine y_ic dX12_town_22 ⟨by decide, by decide⟩ ?_
      refine y_ic dX12_town_23 ⟨by decide, by decide⟩ ?_
      refine x_callVI (c_X12_right hW z_0 (by omega) (by decide)) dX12_town_24 lkX12_309 mfX12_right cfX12 at91 rfl rfl rfl rfl (Nat.le_of_ble_eq_true rfl) (fun r24 I24 P24 hr24 hf24 => ?_)
      obtain ⟨rfl, h24⟩ := hf24
      refine x_if_ne (tgt := 32) dX12_town_27 rfl (fun h27 => ?_) (fun h27 => ?_)
      · obtain ⟨a1, a2, a3⟩ := h24.resolve_right (fun q => by have := q.2.1; omega)
        refine x_keep [1, 1, 0, 0] ?_
        rw [a3]
        first | exact hgo ⟨by omega, by omega⟩ | exact absurd a1 (by decide)
      · obtain ⟨a1, a2, a3⟩ := h24.resolve_left (fun q => by have := q.2.1; omega)
        refine y_ic dX12_town_30 ⟨by decide, by decide⟩ ?_
        refine x_iret dX12_town_31 rfl ?_
        first | exact ⟨rfl, Or.inl ⟨by omega, rfl, a3⟩⟩ | exact absurd a1 (by decide)
    · refine y_ic dX12_town_18 ⟨by decide, by decide⟩ ?_
      refine x_goto (tgt := 23) dX12_town_19 rfl ?_
      refine y_ic dX12_town_23 ⟨by decide, by decide⟩ ?_
      refine x_callVI (c_X12_right hW z_0 (by omega) (by decide)) dX12_town_24 lkX12_309 mfX12_right cfX12 at91 rfl rfl rfl rfl (Nat.le_of_ble_eq_true rfl) (fun r24 I24 P24 hr24 hf24 => ?_)
      obtain ⟨rfl, h24⟩ := hf24
      refine x_if_ne (tgt := 32) dX12_town_27 rfl (fun h27 => ?_) (fun h27 => ?_)
      · obtain ⟨a1, a2, a3⟩ := h24.resolve_right (fun q => by have := q.2.1; omega)
        refine x_keep [1, 1, 0, 0] ?_
        rw [a3]
        first | exact hgo ⟨by omega, by omega⟩ | exact absurd a1 (by decide)
      · obtain ⟨a1, a2, a3⟩ := h24.resolve_left (fun q => by have := q.2.1; omega)
        refine y_ic dX12_town_30 ⟨by decide, by decide⟩ ?_
        refine x_iret dX12_town_31 rfl ?_
        first | exact ⟨rfl, Or.inl ⟨by omega, rfl, a3⟩⟩ | exact absurd a1 (by decide)
end

