/-! ===== the class: the reader's persons, lines, towns ===== -/
theorem toldR_p {k : Tn} {a b : Nat} {h i : Int} {S : Tn} (ha : a ≠ 0) (hb : b ≠ 0) (hz : (toldR k a b h i S).1 = 0) : (toldR k a b h i S).2.2.2 0 1 = S 0 1 := by
  unfold toldR at hz ⊢
  have h1 := ck_z hz
  rw [h1.2] at hz ⊢
  have h2 := ck_z hz
  rw [h2.2] at hz ⊢
  have h3 := ck_z hz
  rw [h3.2]
  show uI (uI S b (k 2 i) 1) a (8 * S 0 1 + k 2 i) (k 2 (i + 1)) 0 1 = S 0 1
  rw [uI_ne (Ne.symm ha), uI_ne (Ne.symm hb)]
theorem pairR_p {k : Tn} {i : Int} {S : Tn} (hz : (pairR k i S).1 = 0) : (pairR k i S).2.2.2 0 1 = S 0 1 := by
  unfold pairR at hz ⊢
  have h1 := ck_z hz
  rw [h1.2] at hz ⊢
  have h2 := ck_z hz
  rw [h2.2] at hz ⊢
  have h3 := ck_z hz
  rw [h3.2] at hz ⊢
  have h4 := ck_z hz
  rw [h4.2] at hz ⊢
  have h5 := ck_z hz
  rw [h5.2]
  show pairW S (k 2 i) (k 2 (i + 1)) (k 2 (i + 2)) 0 1 = S 0 1
  unfold pairW
  rw [uI_ne (by decide), uI_ne (by decide), uI_ne (by decide), uI_ne (by decide)]
theorem fallR_p {k : Tn} {i : Int} {S : Tn} (hz : (fallR k i S).1 = 0) : (fallR k i S).2.2.2 0 1 = S 0 1 := by
  unfold fallR at hz ⊢
  have h1 := ck_z hz
  rw [h1.2] at hz ⊢
  have h2 := ck_z hz
  rw [h2.2]
  show uI (uI S 10 0 1) 2 (S 0 1) (k 2 i) 0 1 = S 0 1
  rw [uI_ne (by decide), uI_ne (by decide)]
theorem CP.fl {I J : Mem} {t : Nat} {S : Tn} (h : CP I t S) (ht : isT NO t) (hf : FL rF I J) : CP J t S := ⟨h.1.fl ht hf, h.2.1, by rw [hf.f7 8 (by decide)]; exact h.2.2.1, by rw [hf.f7 9 (by decide)]; exact h.2.2.2.1, by rw [hf.f7 10 (by decide)]; exact h.2.2.2.2⟩
/-- a told sort's bit put back -/
theorem RSQ.p9 {I K : Mem} {r : Int} {t : Nat} {k : Tn} {m : Int} {h i : Int} {S : Tn} (hP : CP I t S) (ht : isT NO t) (hq : RSQ I K r t 8 k m (toldR k 7 8 h i S)) : RSP (uI K 41 9 r) t k m (toldR k 7 8 h i S) := by
  obtain ⟨j, q⟩ := hq
  rcases q with ⟨r0, r6, r2, rC, rB⟩ | ⟨r0, r6, r3⟩
  · have e1 := toldR_p (by decide) (by decide) r0
    have e2 : (toldR k 7 8 h i S).2.2.2 10 = S 10 ∧ (toldR k 7 8 h i S).2.2.2 9 = S 9 := by
      have hz := r0
      unfold toldR at hz ⊢
      have h1 := ck_z hz
      rw [h1.2] at hz ⊢
      have h2 := ck_z hz
      rw [h2.2] at hz ⊢
      have h3 := ck_z hz
      rw [h3.2]
      exact ⟨rfl, rfl⟩
    refine Or.inl ⟨r0, by rw [uI_eq, u1_ne (by decide)]; exact r6, by rw [uI_eq, u1_ne (by decide)]; exact r2, rC.r ht (by decide), by rw [e1]; exact hP.2.1, ?_, ?_, ?_⟩
    · rw [uI_eq, u1_ne (by decide), e2.1, j 8 (by decide)]; exact hP.2.2.1
    · rw [uI_eq, u1_eq]; exact rB
    · rw [uI_eq, u1_ne (by decide), e2.2, j 10 (by decide)]; exact hP.2.2.2.2
  · exact Or.inr ⟨r0, by rw [uI_eq, u1_ne (by decide)]; exact r6, by rw [uI_eq, u1_ne (by decide)]; exact r3⟩
theorem RSQ.p10 {I K : Mem} {r : Int} {t : Nat} {k : Tn} {m : Int} {h i : Int} {S : Tn} (hP : CP I t S) (ht : isT NO t) (hq : RSQ I K r t 9 k m (toldR k 1 9 h i S)) : RSP (uI K 41 10 r) t k m (toldR k 1 9 h i S) := by
  obtain ⟨j, q⟩ := hq
  rcases q with ⟨r0, r6, r2, rC, rB⟩ | ⟨r0, r6, r3⟩
  · have e1 := toldR_p (by decide) (by decide) r0
    have e2 : (toldR k 1 9 h i S).2.2.2 10 = S 10 ∧ (toldR k 1 9 h i S).2.2.2 8 = S 8 := by
      have hz := r0
      unfold toldR at hz ⊢
      have h1 := ck_z hz
      rw [h1.2] at hz ⊢
      have h2 := ck_z hz
      rw [h2.2] at hz ⊢
      have h3 := ck_z hz
      rw [h3.2]
      exact ⟨rfl, rfl⟩
    refine Or.inl ⟨r0, by rw [uI_eq, u1_ne (by decide)]; exact r6, by rw [uI_eq, u1_ne (by decide)]; exact r2, rC.r ht (by decide), by rw [e1]; exact hP.2.1, ?_, ?_, ?_⟩
    · rw [uI_eq, u1_ne (by decide), e2.1, j 8 (by decide)]; exact hP.2.2.1
    · rw [uI_eq, u1_ne (by decide), e2.2, j 9 (by decide)]; exact hP.2.2.2.1
    · rw [uI_eq, u1_eq]; exact rB
  · exact Or.inr ⟨r0, by rw [uI_eq, u1_ne (by decide)]; exact r6, by rw [uI_eq, u1_ne (by decide)]; exact r3⟩
theorem TKC.lt {K : Mem} {k : Tn} {m i : Int} (h : TKC K k m) (hk : k 0 i ≠ 0) : i < m := by
  by_cases z : i < m
  · exact z
  · exact absurd (h.2.2.2 i (by omega)).1 hk
section
variable {G : HX} {d : Nat} {I : Mem} {P : Ptr} {S : Tn} {m i n : Int} {t : Nat} {tp : Rw}
theorem c_X6_readPerson (hn : 0 ≤ n ∧ n ≤ 700) (hW : WP P) (hTo : isT NO t) (hpt : P 41 1 = t) (hk : TKC I (tkS tp n) m) (hi : 1 ≤ i) (hin : i ≤ n) (ha : ATK I (tkS tp n) m (i - 1)) (h6 : I 41 6 = 0) (hS : CR I t S 0) : Cv G mX6_readPerson (d + 3) 0 0 [.inr (.inl 41)] NO I P (qV (fun n' I' P' => n' = NO ∧ P' = P ∧ Fc (sR t) I I' ∧ RSC I' t (tkS tp n) m (persR (tkS tp n) i S))) := by
  have wT := wp_T hW hTo
  have ht1 := hTo.1
  have hsb := hS.sb.1
  refine x_enter mfX6_readPerson rfl (Nat.le_of_ble_eq_true rfl) (fun _ => ?_)
  have hE : ∀ (J : Mem) (more kk : Int), Fc (sR t) I J → RSC J t (tkS tp n) m (persR (tkS tp n) i S) → (more = 0 ∨ J 41 6 ≠ 0) → V G mX6_readPerson (d + 3) 0 0 53 [some (.inr (.inl 41)), some (.inl (S 0 1)), some (.inl (more)), some (.inl (kk))] [] NO J P (qV (fun n' I' P' => n' = NO ∧ P' = P ∧ Fc (sR t) I I' ∧ RSC I' t (tkS tp n) m (persR (tkS tp n) i S))) := fun J more kk fJ rJ mJ => by
    refine x_iload_n (i := 3) dX6_readPerson_53 rfl rfl ?_
    refine y_si dX6_readPerson_54 ⟨by decide, by decide⟩ ?_
    refine x_icmp_gt (tgt := 211) dX6_readPerson_57 rfl (fun h57 => ?_) (fun h57 => ?_)
    · refine x_vret dX6_readPerson_211 rfl ?_
      exact ⟨rfl, rfl, fJ, rJ⟩
    · refine x_iload_n (i := 2) dX6_readPerson_60 rfl rfl ?_
      refine x_if_eq (tgt := 211) dX6_readPerson_61 rfl (fun h61 => ?_) (fun h61 => ?_)
      · refine x_vret dX6_readPerson_211 rfl ?_
        exact ⟨rfl, rfl, fJ, rJ⟩
      · refine y_aln (i := 0) dX6_readPerson_64 at41.ne0 rfl rfl ?_
        refine y_geti (z := 6) dX6_readPerson_65 frX6_34 cfX6 at41 rfl rfl ?_
        refine x_if_ne (tgt := 211) dX6_readPerson_68 rfl (fun h68 => ?_) (fun h68 => ?_)
        · refine x_vret dX6_readPerson_211 rfl ?_
          exact ⟨rfl, rfl, fJ, rJ⟩
        · exact absurd mJ (by omega)
  have hL : ∀ (j : Nat) (kk i' : Int) (f : Nat) (S' : Tn) (J : Mem), (n - i').toNat < j → 0 ≤ kk → kk + 1 ≤ i' → i' ≤ n → 800 - kk ≤ (f : Int) → persR (tkS tp n) i S = perR (tkS tp n) f i' S' → Fc (sR t) I J → TKC J (tkS tp n) m → J 41 2 = min i' m → J 41 6 = 0 → CP J t S' → S' 0 1 = S 0 1 → V G mX6_readPerson (d + 3) 0 0 53 [some (.inr (.inl 41)), some (.inl (S 0 1)), some (.inl (1)), some (.inl (kk))] [] NO J P (qV (fun n' I' P' => n' = NO ∧ P' = P ∧ Fc (sR t) I I' ∧ RSC I' t (tkS tp n) m (persR (tkS tp n) i S))) := by
    intro j
    induction j with
    | zero => intro kk i' f S' J hj; omega
    | succ j ih =>
      intro kk i' f S' J hj hk0 hki hin' hf e0 fJ kJ bJ z6 hP hq
      obtain ⟨f1, rfl⟩ : ∃ f1, f = f1 + 1 := ⟨f - 1, by omega⟩
      have hG : ∀ (R : Rs) (K : Mem), persR (tkS tp n) i S = bnR R (perR (tkS tp n) f1) → Fc (sR t) I K → TKC K (tkS tp n) m → (R.1 = 0 → (i' + 2 ≤ R.2.2.1 ∧ R.2.2.1 ≤ n) ∧ R.2.2.2 0 1 = S' 0 1) → RSP K t (tkS tp n) m R → V G mX6_readPerson (d + 3) 0 0 53 [some (.inr (.inl 41)), some (.inl (S 0 1)), some (.inl (1)), some (.inl (kk + 1))] [] NO K P (qV (fun n' I' P' => n' = NO ∧ P' = P ∧ Fc (sR t) I I' ∧ RSC I' t (tkS tp n) m (persR (tkS tp n) i S))) := by
        intro R K e1 fK kK hR rK
        rcases rK with ⟨r0, r6, r2, rC⟩ | ⟨r0, r6, r3⟩
        · have h1 := hR r0
          exact ih (kk + 1) R.2.2.1 f1 R.2.2.2 K (by omega) (by omega) (by omega) h1.1.2 (by omega) (by rw [e1, bnR_0 r0]) fK kK r2 r6 rC (h1.2.trans hq)
        · exact hE K 1 (kk + 1) fK (by rw [e1, bnR_1 r0]; exact Or.inr ⟨r0, r6, r3⟩) (Or.inr (by rw [r6]; exact r0))
      refine x_iload_n (i := 3) dX6_readPerson_53 rfl rfl ?_
      refine y_si dX6_readPerson_54 ⟨by decide, by decide⟩ ?_
      refine x_icmp_gt (tgt := 211) dX6_readPerson_57 rfl (fun h57 => ?_) (fun h57 => ?_)
      · exact absurd h57 (by omega)
      · refine x_iload_n (i := 2) dX6_readPerson_60 rfl rfl ?_
        refine x_if_eq (tgt := 211) dX6_readPerson_61 rfl (fun h61 => ?_) (fun h61 => ?_)
        · exact absurd h61 (by decide)
        · refine y_aln (i := 0) dX6_readPerson_64 at41.ne0 rfl rfl ?_
          refine y_geti (z := 6) dX6_readPerson_65 frX6_34 cfX6 at41 rfl rfl ?_
          rw [z6]
          refine x_if_ne (tgt := 211) dX6_readPerson_68 rfl (fun h68 => ?_) (fun h68 => ?_)
          · exact absurd rfl h68
          · refine y_aln (i := 0) dX6_readPerson_71 at41.ne0 rfl rfl ?_
            refine x_callVV (c_X6_advance hW kJ (by omega) bJ) dX6_readPerson_72 lkX6_41 mfX6_advance cfX6 at41 rfl rfl rfl rfl (Nat.le_of_ble_eq_true rfl) (fun n72 I72 P72 hf72 => ?_)
            obtain ⟨rfl, rfl, f72, a72⟩ := hf72
            have c72 := hP.fl hTo (f72.mo (by decide))
            have k72 := kJ.fl f72
            have z72 : I72 41 6 = 0 := (f72.2 6 (by decide)).trans z6
            have g72 := fJ.tr (f72.fc (t := t))
            have a72' : ATK I72 (tkS tp n) m (i' + 1 - 1) := by rw [Int.add_sub_cancel]; exact a72
            refine y_aln (i := 0) dX6_readPerson_75 at41.ne0 rfl rfl ?_
            refine y_geti (z := 4) dX6_readPerson_76 frX6_44 cfX6 at41 rfl rfl ?_
            rw [a72.2.2.1]
            refine y_tsw (td := 199) dX6_readPerson_79 (fun j off tgt hx79 ho79 ht79 hle79 => ?_) (by decide) (by decide) (by decide) (fun h79 => ?_)
            · have hj79 : j = 0 ∨ j = 1 ∨ j = 2 ∨ j = 3 ∨ j = 4 ∨ j = 5 ∨ j = 6 ∨ j = 7 ∨ j = 8 := by omega
              rcases hj79 with rfl | rfl | rfl | rfl | rfl | rfl | rfl | rfl | rfl
              · have eo79 : off = 115 := Option.some.inj (ho79.symm.trans rfl)
                obtain rfl : tgt = 194 := by omega
                have x194 : tkS tp n 0 i' = 1 := by omega
                have g194 := hE I72 0 (kk + 1) g72 (by rw [e0]; unfold perR; rw [if_neg (by omega), if_neg (by omega), if_neg (by omega), if_neg (by omega)]; exact RSC.sgn (r := 1) a72 (by omega) (c72.1.done c72.2.1) (Or.inl ⟨rfl, x194, z72⟩)) (Or.inl rfl)
                refine y_ic dX6_readPerson_194 ⟨by decide, by decide⟩ ?_
                refine x_istore_n (i := 2) dX6_readPerson_195 rfl rfl (Nat.le_of_ble_eq_true rfl) ?_
                refine x_goto (tgt := 205) dX6_readPerson_196 rfl ?_
                refine x_iinc dX6_readPerson_205 rfl ⟨by omega, by omega⟩ rfl (Nat.le_of_ble_eq_true rfl) ?_
                refine x_goto (tgt := 53) dX6_readPerson_208 rfl ?_
                refine x_keep [1, 1, 1, 1] ?_
                first | (have z := g144; rw [hq]; exact g144) | (have z := g169; rw [hq]; exact g169) | (have z := g180; rw [hq]; exact g180) | (have z := g188; rw [hq]; exact g188) | exact g194 | exact g201 | fail "none"
              · have eo79 : off = 120 := Option.some.inj (ho79.symm.trans rfl)
                obtain rfl : tgt = 199 := by omega
                refine y_aln (i := 0) dX6_readPerson_199 at41.ne0 rfl rfl ?_
                refine y_ic dX6_readPerson_200 ⟨by decide, by decide⟩ ?_
                refine x_callVI (c_X6_refuse hW) dX6_readPerson_201 lkX6_77 mfX6_refuse cfX6 at41 rfl rfl rfl rfl (Nat.le_of_ble_eq_true rfl) (fun r201 I201 P201 hr201 hf201 => ?_)
                obtain ⟨rfl, rfl, rfl⟩ := hf201
                have x201 : tkS tp n 0 i' ≠ 6 ∧ tkS tp n 0 i' ≠ 7 ∧ tkS tp n 0 i' ≠ 8 ∧ tkS tp n 0 i' ≠ 9 ∧ tkS tp n 0 i' ≠ 1 := by omega
                have g201 := hE (uI I72 41 6 1) 1 (kk + 1) g72.r (by rw [e0]; unfold perR; rw [if_neg x201.1, if_neg x201.2.1, if_neg x201.2.2.1, if_neg x201.2.2.2.1]; exact RSC.sgn (r := 0) a72.w (by omega) ((c72.1.done c72.2.1).r hTo (by decide)) (Or.inr ⟨rfl, x201.2.2.2.2, by rw [uI_eq, u1_eq]⟩)) (Or.inr (by rw [uI_eq, u1_eq]; decide))
                refine x_pop dX6_readPerson_204 rfl ?_
                refine x_iinc dX6_readPerson_205 rfl ⟨by omega, by omega⟩ rfl (Nat.le_of_ble_eq_true rfl) ?_
                refine x_goto (tgt := 53) dX6_readPerson_208 rfl ?_
                refine x_keep [1, 1, 1, 1] ?_
                first | (have z := g144; rw [hq]; exact g144) | (have z := g169; rw [hq]; exact g169) | (have z := g180; rw [hq]; exact g180) | (have z := g188; rw [hq]; exact g188) | exact g194 | exact g201 | fail "none"
              · have eo79 : off = 120 := Option.some.inj (ho79.symm.trans rfl)
                obtain rfl : tgt = 199 := by omega
                refine y_aln (i := 0) dX6_readPerson_199 at41.ne0 rfl rfl ?_
                refine y_ic dX6_readPerson_200 ⟨by decide, by decide⟩ ?_
                refine x_callVI (c_X6_refuse hW) dX6_readPerson_201 lkX6_77 mfX6_refuse cfX6 at41 rfl rfl rfl rfl (Nat.le_of_ble_eq_true rfl) (fun r201 I201 P201 hr201 hf201 => ?_)
                obtain ⟨rfl, rfl, rfl⟩ := hf201
                have x201 : tkS tp n 0 i' ≠ 6 ∧ tkS tp n 0 i' ≠ 7 ∧ tkS tp n 0 i' ≠ 8 ∧ tkS tp n 0 i' ≠ 9 ∧ tkS tp n 0 i' ≠ 1 := by omega
                have g201 := hE (uI I72 41 6 1) 1 (kk + 1) g72.r (by rw [e0]; unfold perR; rw [if_neg x201.1, if_neg x201.2.1, if_neg x201.2.2.1, if_neg x201.2.2.2.1]; exact RSC.sgn (r := 0) a72.w (by omega) ((c72.1.done c72.2.1).r hTo (by decide)) (Or.inr ⟨rfl, x201.2.2.2.2, by rw [uI_eq, u1_eq]⟩)) (Or.inr (by rw [uI_eq, u1_eq]; decide))
                refine x_pop dX6_readPerson_204 rfl ?_
                refine x_iinc dX6_readPerson_205 rfl ⟨by omega, by omega⟩ rfl (Nat.le_of_ble_eq_true rfl) ?_
                refine x_goto (tgt := 53) dX6_readPerson_208 rfl ?_
                refine x_keep [1, 1, 1, 1] ?_
                first | (have z := g144; rw [hq]; exact g144) | (have z := g169; rw [hq]; exact g169) | (have z := g180; rw [hq]; exact g180) | (have z := g188; rw [hq]; exact g188) | exact g194 | exact g201 | fail "none"
              · have eo79 : off = 120 := Option.some.inj (ho79.symm.trans rfl)
                obtain rfl : tgt = 199 := by omega
                refine y_aln (i := 0) dX6_readPerson_199 at41.ne0 rfl rfl ?_
                refine y_ic dX6_readPerson_200 ⟨by decide, by decide⟩ ?_
                refine x_callVI (c_X6_refuse hW) dX6_readPerson_201 lkX6_77 mfX6_refuse cfX6 at41 rfl rfl rfl rfl (Nat.le_of_ble_eq_true rfl) (fun r201 I201 P201 hr201 hf201 => ?_)
                obtain ⟨rfl, rfl, rfl⟩ := hf201
                have x201 : tkS tp n 0 i' ≠ 6 ∧ tkS tp n 0 i' ≠ 7 ∧ tkS tp n 0 i' ≠ 8 ∧ tkS tp n 0 i' ≠ 9 ∧ tkS tp n 0 i' ≠ 1 := by omega
                have g201 := hE (uI I72 41 6 1) 1 (kk + 1) g72.r (by rw [e0]; unfold perR; rw [if_neg x201.1, if_neg x201.2.1, if_neg x201.2.2.1, if_neg x201.2.2.2.1]; exact RSC.sgn (r := 0) a72.w (by omega) ((c72.1.done c72.2.1).r hTo (by decide)) (Or.inr ⟨rfl, x201.2.2.2.2, by rw [uI_eq, u1_eq]⟩)) (Or.inr (by rw [uI_eq, u1_eq]; decide))
                refine x_pop dX6_readPerson_204 rfl ?_
                refine x_iinc dX6_readPerson_205 rfl ⟨by omega, by omega⟩ rfl (Nat.le_of_ble_eq_true rfl) ?_
                refine x_goto (tgt := 53) dX6_readPerson_208 rfl ?_
                refine x_keep [1, 1, 1, 1] ?_
                first | (have z := g144; rw [hq]; exact g144) | (have z := g169; rw [hq]; exact g169) | (have z := g180; rw [hq]; exact g180) | (have z := g188; rw [hq]; exact g188) | exact g194 | exact g201 | fail "none"
              · have eo79 : off = 120 := Option.some.inj (ho79.symm.trans rfl)
                obtain rfl : tgt = 199 := by omega
                refine y_aln (i := 0) dX6_readPerson_199 at41.ne0 rfl rfl ?_
                refine y_ic dX6_readPerson_200 ⟨by decide, by decide⟩ ?_
                refine x_callVI (c_X6_refuse hW) dX6_readPerson_201 lkX6_77 mfX6_refuse cfX6 at41 rfl rfl rfl rfl (Nat.le_of_ble_eq_true rfl) (fun r201 I201 P201 hr201 hf201 => ?_)
                obtain ⟨rfl, rfl, rfl⟩ := hf201
                have x201 : tkS tp n 0 i' ≠ 6 ∧ tkS tp n 0 i' ≠ 7 ∧ tkS tp n 0 i' ≠ 8 ∧ tkS tp n 0 i' ≠ 9 ∧ tkS tp n 0 i' ≠ 1 := by omega
                have g201 := hE (uI I72 41 6 1) 1 (kk + 1) g72.r (by rw [e0]; unfold perR; rw [if_neg x201.1, if_neg x201.2.1, if_neg x201.2.2.1, if_neg x201.2.2.2.1]; exact RSC.sgn (r := 0) a72.w (by omega) ((c72.1.done c72.2.1).r hTo (by decide)) (Or.inr ⟨rfl, x201.2.2.2.2, by rw [uI_eq, u1_eq]⟩)) (Or.inr (by rw [uI_eq, u1_eq]; decide))
                refine x_pop dX6_readPerson_204 rfl ?_
                refine x_iinc dX6_readPerson_205 rfl ⟨by omega, by omega⟩ rfl (Nat.le_of_ble_eq_true rfl) ?_
                refine x_goto (tgt := 53) dX6_readPerson_208 rfl ?_
                refine x_keep [1, 1, 1, 1] ?_
                first | (have z := g144; rw [hq]; exact g144) | (have z := g169; rw [hq]; exact g169) | (have z := g180; rw [hq]; exact g180) | (have z := g188; rw [hq]; exact g188) | exact g194 | exact g201 | fail "none"
              · have eo79 : off = 49 := Option.some.inj (ho79.symm.trans rfl)
                obtain rfl : tgt = 128 := by omega
                have x128 : tkS tp n 0 i' = 6 := by omega
                refine y_aln (i := 0) dX6_readPerson_128 at41.ne0 rfl rfl ?_
                refine y_aln (i := 0) dX6_readPerson_129 at41.ne0 rfl rfl ?_
                refine y_aln (i := 0) dX6_readPerson_130 at41.ne0 rfl rfl ?_
                refine y_getp (z := 1) (v := t) dX6_readPerson_131 frX6_15 cfX6 at41 rfl rfl hpt ?_
                refine y_getp (z := 4) (v := (t + 1)) dX6_readPerson_134 frX6_104 cfX10 hTo.at rfl rfl (p10_4 wT hTo) ?_
                refine x_iload_n (i := 1) dX6_readPerson_137 rfl rfl ?_
                refine y_aln (i := 0) dX6_readPerson_138 at41.ne0 rfl rfl ?_
                refine y_geti (z := 9) dX6_readPerson_139 frX6_95 cfX6 at41 rfl rfl ?_
                refine y_bi dX6_readPerson_142 ⟨by decide, by decide⟩ ?_
                rw [← hq]
                refine x_callVI (c_X6_readOfSort (A := t + 1) (a := 7) (b := 8) (i := i' + 1) hW hTo hpt (a10_4 hTo) (Or.inl ⟨rfl, rfl, rfl⟩) k72 (by omega) a72' z72 c72.1 c72.2.1 c72.2.2.2.1) dX6_readPerson_144 lkX6_108 mfX6_readOfSort cfX6 at41 rfl rfl rfl rfl (Nat.le_of_ble_eq_true rfl) (fun r144 I144 P144 hr144 hf144 => ?_)
                obtain ⟨rfl, f144, q144⟩ := hf144
                have g144 := hG (toldR (tkS tp n) 7 8 20 (i' + 1) S') (uI I144 41 9 r144) (by rw [e0]; unfold perR; rw [if_pos x128]) (g72.tr f144).r (k72.fc hTo f144).r (fun z => ⟨by have := toldR_ok hn.1 (by omega) z; omega, toldR_p (by decide) (by decide) z⟩) (RSQ.p9 c72 hTo q144)
                refine y_puti (z := 9) dX6_readPerson_147 frX6_95 cfX6 at41 rfl rfl rfl ?_
                refine x_goto (tgt := 205) dX6_readPerson_150 rfl ?_
                refine x_iinc dX6_readPerson_205 rfl ⟨by omega, by omega⟩ rfl (Nat.le_of_ble_eq_true rfl) ?_
                refine x_goto (tgt := 53) dX6_readPerson_208 rfl ?_
                refine x_keep [1, 1, 1, 1] ?_
                first | (have z := g144; rw [hq]; exact g144) | (have z := g169; rw [hq]; exact g169) | (have z := g180; rw [hq]; exact g180) | (have z := g188; rw [hq]; exact g188) | exact g194 | exact g201 | fail "none"
              · have eo79 : off = 74 := Option.some.inj (ho79.symm.trans rfl)
                obtain rfl : tgt = 153 := by omega
                have x153 : tkS tp n 0 i' = 7 := by omega
                refine y_aln (i := 0) dX6_readPerson_153 at41.ne0 rfl rfl ?_
                refine y_aln (i := 0) dX6_readPerson_154 at41.ne0 rfl rfl ?_
                refine y_aln (i := 0) dX6_readPerson_155 at41.ne0 rfl rfl ?_
                refine y_getp (z := 1) (v := t) dX6_readPerson_156 frX6_15 cfX6 at41 rfl rfl hpt ?_
                refine y_getp (z := 5) (v := (t + 2)) dX6_readPerson_159 frX6_112 cfX10 hTo.at rfl rfl (p10_5 wT hTo) ?_
                refine x_iload_n (i := 1) dX6_readPerson_162 rfl rfl ?_
                refine y_aln (i := 0) dX6_readPerson_163 at41.ne0 rfl rfl ?_
                refine y_geti (z := 10) dX6_readPerson_164 frX6_98 cfX6 at41 rfl rfl ?_
                refine y_bi dX6_readPerson_167 ⟨by decide, by decide⟩ ?_
                rw [← hq]
                refine x_callVI (c_X6_readOfSort (A := t + 2) (a := 1) (b := 9) (i := i' + 1) hW hTo hpt (a10_5 hTo) (Or.inr ⟨rfl, rfl, rfl⟩) k72 (by omega) a72' z72 c72.1 c72.2.1 c72.2.2.2.2) dX6_readPerson_169 lkX6_108 mfX6_readOfSort cfX6 at41 rfl rfl rfl rfl (Nat.le_of_ble_eq_true rfl) (fun r169 I169 P169 hr169 hf169 => ?_)
                obtain ⟨rfl, f169, q169⟩ := hf169
                have g169 := hG (toldR (tkS tp n) 1 9 99 (i' + 1) S') (uI I169 41 10 r169) (by rw [e0]; unfold perR; rw [if_neg (by omega), if_pos x153]) (g72.tr f169).r (k72.fc hTo f169).r (fun z => ⟨by have := toldR_ok hn.1 (by omega) z; omega, toldR_p (by decide) (by decide) z⟩) (RSQ.p10 c72 hTo q169)
                refine y_puti (z := 10) dX6_readPerson_172 frX6_98 cfX6 at41 rfl rfl rfl ?_
                refine x_goto (tgt := 205) dX6_readPerson_175 rfl ?_
                refine x_iinc dX6_readPerson_205 rfl ⟨by omega, by omega⟩ rfl (Nat.le_of_ble_eq_true rfl) ?_
                refine x_goto (tgt := 53) dX6_readPerson_208 rfl ?_
                refine x_keep [1, 1, 1, 1] ?_
                first | (have z := g144; rw [hq]; exact g144) | (have z := g169; rw [hq]; exact g169) | (have z := g180; rw [hq]; exact g180) | (have z := g188; rw [hq]; exact g188) | exact g194 | exact g201 | fail "none"
              · have eo79 : off = 99 := Option.some.inj (ho79.symm.trans rfl)
                obtain rfl : tgt = 178 := by omega
                have x178 : tkS tp n 0 i' = 8 := by omega
                refine y_aln (i := 0) dX6_readPerson_178 at41.ne0 rfl rfl ?_
                refine x_iload_n (i := 1) dX6_readPerson_179 rfl rfl ?_
                rw [← hq]
                refine x_callVV (c_X6_readPair (i := i' + 1) hW hTo hpt k72 (by omega) a72' z72 c72) dX6_readPerson_180 lkX6_115 mfX6_readPair cfX6 at41 rfl rfl rfl rfl (Nat.le_of_ble_eq_true rfl) (fun n180 I180 P180 hf180 => ?_)
                obtain ⟨rfl, rfl, f180, q180⟩ := hf180
                have g180 := hG (pairR (tkS tp n) (i' + 1) S') I180 (by rw [e0]; unfold perR; rw [if_neg (by omega), if_neg (by omega), if_pos x178]) (g72.tr f180) (k72.fc hTo f180) (fun z => ⟨by have := pairR_ok hn.1 (by omega) z; omega, pairR_p z⟩) q180
                refine x_goto (tgt := 205) dX6_readPerson_183 rfl ?_
                refine x_iinc dX6_readPerson_205 rfl ⟨by omega, by omega⟩ rfl (Nat.le_of_ble_eq_true rfl) ?_
                refine x_goto (tgt := 53) dX6_readPerson_208 rfl ?_
                refine x_keep [1, 1, 1, 1] ?_
                first | (have z := g144; rw [hq]; exact g144) | (have z := g169; rw [hq]; exact g169) | (have z := g180; rw [hq]; exact g180) | (have z := g188; rw [hq]; exact g188) | exact g194 | exact g201 | fail "none"
              · have eo79 : off = 107 := Option.some.inj (ho79.symm.trans rfl)
                obtain rfl : tgt = 186 := by omega
                have x186 : tkS tp n 0 i' = 9 := by omega
                refine y_aln (i := 0) dX6_readPerson_186 at41.ne0 rfl rfl ?_
                refine x_iload_n (i := 1) dX6_readPerson_187 rfl rfl ?_
                rw [← hq]
                refine x_callVV (c_X6_readFalls (i := i' + 1) hW hTo hpt k72 (by omega) a72' z72 c72) dX6_readPerson_188 lkX6_118 mfX6_readFalls cfX6 at41 rfl rfl rfl rfl (Nat.le_of_ble_eq_true rfl) (fun n188 I188 P188 hf188 => ?_)
                obtain ⟨rfl, rfl, f188, q188⟩ := hf188
                have g188 := hG (fallR (tkS tp n) (i' + 1) S') I188 (by rw [e0]; unfold perR; rw [if_neg (by omega), if_neg (by omega), if_neg (by omega), if_pos x186]) (g72.tr f188) (k72.fc hTo f188) (fun z => ⟨by have := fallR_ok hn.1 (by omega) z; omega, fallR_p z⟩) q188
                refine x_goto (tgt := 205) dX6_readPerson_191 rfl ?_
                refine x_iinc dX6_readPerson_205 rfl ⟨by omega, by omega⟩ rfl (Nat.le_of_ble_eq_true rfl) ?_
                refine x_goto (tgt := 53) dX6_readPerson_208 rfl ?_
                refine x_keep [1, 1, 1, 1] ?_
                first | (have z := g144; rw [hq]; exact g144) | (have z := g169; rw [hq]; exact g169) | (have z := g180; rw [hq]; exact g180) | (have z := g188; rw [hq]; exact g188) | exact g194 | exact g201 | fail "none"
            · refine y_aln (i := 0) dX6_readPerson_199 at41.ne0 rfl rfl ?_
              refine y_ic dX6_readPerson_200 ⟨by decide, by decide⟩ ?_
              refine x_callVI (c_X6_refuse hW) dX6_readPerson_201 lkX6_77 mfX6_refuse cfX6 at41 rfl rfl rfl rfl (Nat.le_of_ble_eq_true rfl) (fun r201 I201 P201 hr201 hf201 => ?_)
              obtain ⟨rfl, rfl, rfl⟩ := hf201
              have x201 : tkS tp n 0 i' ≠ 6 ∧ tkS tp n 0 i' ≠ 7 ∧ tkS tp n 0 i' ≠ 8 ∧ tkS tp n 0 i' ≠ 9 ∧ tkS tp n 0 i' ≠ 1 := by omega
              have g201 := hE (uI I72 41 6 1) 1 (kk + 1) g72.r (by rw [e0]; unfold perR; rw [if_neg x201.1, if_neg x201.2.1, if_neg x201.2.2.1, if_neg x201.2.2.2.1]; exact RSC.sgn (r := 0) a72.w (by omega) ((c72.1.done c72.2.1).r hTo (by decide)) (Or.inr ⟨rfl, x201.2.2.2.2, by rw [uI_eq, u1_eq]⟩)) (Or.inr (by rw [uI_eq, u1_eq]; decide))
              refine x_pop dX6_readPerson_204 rfl ?_
              refine x_iinc dX6_readPerson_205 rfl ⟨by omega, by omega⟩ rfl (Nat.le_of_ble_eq_true rfl) ?_
              refine x_goto (tgt := 53) dX6_readPerson_208 rfl ?_
              refine x_keep [1, 1, 1, 1] ?_
              first | (have z := g144; rw [hq]; exact g144) | (have z := g169; rw [hq]; exact g169) | (have z := g180; rw [hq]; exact g180) | (have z := g188; rw [hq]; exact g188) | exact g194 | exact g201 | fail "none"
  refine y_aln (i := 0) dX6_readPerson_0 at41.ne0 rfl rfl ?_
  refine y_getp (z := 1) (v := t) dX6_readPerson_1 frX6_15 cfX6 at41 rfl rfl hpt ?_
  refine y_geti (z := 0) dX6_readPerson_4 frX6_92 cfX10 hTo.at rfl rfl ?_
  rw [hS.a.1, Int.add_zero]
  refine x_istore_n (i := 1) dX6_readPerson_7 rfl rfl (Nat.le_of_ble_eq_true rfl) ?_
  refine x_iload_n (i := 1) dX6_readPerson_8 rfl rfl ?_
  refine y_bi dX6_readPerson_9 ⟨by decide, by decide⟩ ?_
  refine x_icmp_lt (tgt := 21) dX6_readPerson_11 rfl (fun h11 => ?_) (fun h11 => ?_)
  · refine y_aln (i := 0) dX6_readPerson_21 at41.ne0 rfl rfl ?_
    refine y_getp (z := 1) (v := t) dX6_readPerson_22 frX6_15 cfX6 at41 rfl rfl hpt ?_
    refine x_dup dX6_readPerson_25 rfl ?_
    refine y_geti (z := 0) dX6_readPerson_26 frX6_92 cfX10 hTo.at rfl rfl ?_
    rw [hS.a.1, Int.add_zero]
    refine y_ic dX6_readPerson_29 ⟨by decide, by decide⟩ ?_
    refine x_iadd dX6_readPerson_30 ⟨by omega, by omega⟩ ?_
    refine y_puti (z := 0) dX6_readPerson_31 frX6_92 cfX10 hTo.at rfl rfl rfl ?_
    refine y_aln (i := 0) dX6_readPerson_34 at41.ne0 rfl rfl ?_
    refine y_ic dX6_readPerson_35 ⟨by decide, by decide⟩ ?_
    refine y_puti (z := 9) dX6_readPerson_36 frX6_95 cfX6 at41 rfl rfl rfl ?_
    refine y_aln (i := 0) dX6_readPerson_39 at41.ne0 rfl rfl ?_
    refine y_ic dX6_readPerson_40 ⟨by decide, by decide⟩ ?_
    refine y_puti (z := 10) dX6_readPerson_41 frX6_98 cfX6 at41 rfl rfl rfl ?_
    refine y_aln (i := 0) dX6_readPerson_44 at41.ne0 rfl rfl ?_
    refine y_ic dX6_readPerson_45 ⟨by decide, by decide⟩ ?_
    refine y_putz (z := 8) dX6_readPerson_46 frX6_101 cfX6 at41 rfl rfl rfl (by omega) ?_
    refine y_ic dX6_readPerson_49 ⟨by decide, by decide⟩ ?_
    refine x_istore_n (i := 2) dX6_readPerson_50 rfl rfl (Nat.le_of_ble_eq_true rfl) ?_
    refine y_ic dX6_readPerson_51 ⟨by decide, by decide⟩ ?_
    refine x_istore_n (i := 3) dX6_readPerson_52 rfl rfl (Nat.le_of_ble_eq_true rfl) ?_
    refine x_keep [1, 1, 1, 1] ?_
    exact hL _ 0 i 800 (newP S) _ (Nat.lt_succ_self _) (by decide) (by omega) hin (by decide) (by unfold persR; rw [ckR_0 (if_neg (by omega))]) ((((Fc.rf (S := sR t)).t ⟨Nat.le_refl _, by omega⟩).r).r).r (((hk.t hTo ⟨Nat.le_refl _, by omega⟩).r).r).r (by rw [uI_eq, u1_ne (by decide), uI_eq, u1_ne (by decide), uI_eq, u1_ne (by decide), r41 hTo ⟨Nat.le_refl _, by omega⟩]; exact ha.b) (by rw [uI_eq, u1_ne (by decide), uI_eq, u1_ne (by decide), uI_eq, u1_ne (by decide), r41 hTo ⟨Nat.le_refl _, by omega⟩]; exact h6) (CP.new hS hTo (by omega) (fun a a0 a1 => by rw [uI_ne a1, uI_ne a1, uI_ne a1, uI_ne a0]) (by rw [nT hTo t _ _ ⟨Nat.le_refl _, by omega⟩, nT hTo t _ _ ⟨Nat.le_refl _, by omega⟩, nT hTo t _ _ ⟨Nat.le_refl _, by omega⟩, uI_eq]) (by rw [uI_eq, u1_ne (by decide), uI_eq, u1_ne (by decide), uI_eq, u1_ne (by decide), r41 hTo ⟨Nat.le_refl _, by omega⟩]) (by rw [uI_eq, u1_eq]) (by rw [uI_eq, u1_ne (by decide), uI_eq, u1_ne (by decide), uI_eq, u1_eq]) (by rw [uI_eq, u1_ne (by decide), uI_eq, u1_eq])) (by unfold newP; rw [if_neg (by omega), if_neg (by decide), if_neg (by omega)])
  · refine y_aln (i := 0) dX6_readPerson_14 at41.ne0 rfl rfl ?_
    refine y_ic dX6_readPerson_15 ⟨by decide, by decide⟩ ?_
    refine x_callVI (c_X6_refuse hW) dX6_readPerson_16 lkX6_77 mfX6_refuse cfX6 at41 rfl rfl rfl rfl (Nat.le_of_ble_eq_true rfl) (fun r16 I16 P16 hr16 hf16 => ?_)
    obtain ⟨rfl, rfl, rfl⟩ := hf16
    refine x_pop dX6_readPerson_19 rfl ?_
    refine x_vret dX6_readPerson_20 rfl ?_
    refine ⟨rfl, rfl, Fc.rf.r, ?_⟩
    unfold persR
    exact RSC.n2 (v := 2) (if_pos (by omega)) (by decide) (by rw [uI_eq, u1_eq]) (by rw [uI_eq, u1_ne (by decide)]; exact ha.2.1)
theorem c_X6_readLine {l : Int} (hn : 0 ≤ n ∧ n ≤ 700) (hW : WP P) (hTo : isT NO t) (hpt : P 41 1 = t) (hk : TKC I (tkS tp n) m) (hi : 0 ≤ i) (hin : i < n) (ha : ATK I (tkS tp n) m i) (h6 : I 41 6 = 0) (hS : CR I t S 0) (hl : 0 ≤ l) : Cv G mX6_readLine (d + 4) 0 0 [.inr (.inl 41), .inl l] NO I P (qV (fun n' I' P' => n' = NO ∧ P' = P ∧ Fc (sR t) I I' ∧ RSC I' t (tkS tp n) m (lineR (tkS tp n) l i S))) := by
  have ht1 := hTo.1
  have ha' : ATK I (tkS tp n) m (i + 1 - 1) := by rw [Int.add_sub_cancel]; exact ha
  refine x_enter mfX6_readLine rfl (Nat.le_of_ble_eq_true rfl) (fun _ => ?_)
  refine y_aln (i := 0) dX6_readLine_0 at41.ne0 rfl rfl ?_
  refine y_geti (z := 4) dX6_readLine_1 frX6_44 cfX6 at41 rfl rfl ?_
  rw [ha.2.2.1]
  refine y_tsw (td := 100) dX6_readLine_4 (fun j off tgt hx4 ho4 ht4 hle4 => ?_) (by decide) (by decide) (by decide) (fun h4 => ?_)
  · have hj4 : j = 0 ∨ j = 1 ∨ j = 2 ∨ j = 3 ∨ j = 4 ∨ j = 5 ∨ j = 6 ∨ j = 7 ∨ j = 8 ∨ j = 9 ∨ j = 10 := by omega
    rcases hj4 with rfl | rfl | rfl | rfl | rfl | rfl | rfl | rfl | rfl | rfl | rfl
    · have eo4 : off = 60 := Option.some.inj (ho4.symm.trans rfl)
      obtain rfl : tgt = 64 := by omega
      have x64 : tkS tp n 0 i = 4 := by omega
      refine y_aln (i := 0) dX6_readLine_64 at41.ne0 rfl rfl ?_
      refine x_iload_n (i := 1) dX6_readLine_65 rfl rfl ?_
      refine x_callVV (c_X6_readSorts (d := d + 1) (i := i + 1) (k := tkS tp n) hW hTo hpt hk (by omega) ha' h6 hS hl) dX6_readLine_66 lkX6_62 mfX6_readSorts cfX6 at41 rfl rfl rfl rfl (Nat.le_of_ble_eq_true rfl) (fun n66 I66 P66 hf66 => ?_)
      obtain ⟨rfl, rfl, f66, q66⟩ := hf66
      have g66 : RSC I66 t (tkS tp n) m (lineR (tkS tp n) l i S) := by unfold lineR; rw [if_pos x64]; exact q66
      refine x_goto (tgt := 106) dX6_readLine_69 rfl ?_
      refine x_vret dX6_readLine_106 rfl ?_
      first | (have z := g66; exact ⟨rfl, rfl, f66, g66⟩) | (have z := g73; exact ⟨rfl, rfl, f73, g73⟩) | (have z := g80; exact ⟨rfl, rfl, f80, g80⟩) | (have z := g87; exact ⟨rfl, rfl, f87, g87⟩) | (have z := g94; exact ⟨rfl, rfl, f94, g94⟩) | (have z := g102; exact ⟨rfl, rfl, Fc.rf.r, g102⟩) | fail "none"
    · have eo4 : off = 68 := Option.some.inj (ho4.symm.trans rfl)
      obtain rfl : tgt = 72 := by omega
      have x72 : tkS tp n 0 i = 5 := by omega
      refine y_aln (i := 0) dX6_readLine_72 at41.ne0 rfl rfl ?_
      refine x_callVV (c_X6_readPerson (i := i + 1) hn hW hTo hpt hk (by omega) (by omega) ha' h6 hS) dX6_readLine_73 lkX6_65 mfX6_readPerson cfX6 at41 rfl rfl rfl rfl (Nat.le_of_ble_eq_true rfl) (fun n73 I73 P73 hf73 => ?_)
      obtain ⟨rfl, rfl, f73, q73⟩ := hf73
      have g73 : RSC I73 t (tkS tp n) m (lineR (tkS tp n) l i S) := by unfold lineR; rw [if_neg (by omega), if_pos x72]; exact q73
      refine x_goto (tgt := 106) dX6_readLine_76 rfl ?_
      refine x_vret dX6_readLine_106 rfl ?_
      first | (have z := g66; exact ⟨rfl, rfl, f66, g66⟩) | (have z := g73; exact ⟨rfl, rfl, f73, g73⟩) | (have z := g80; exact ⟨rfl, rfl, f80, g80⟩) | (have z := g87; exact ⟨rfl, rfl, f87, g87⟩) | (have z := g94; exact ⟨rfl, rfl, f94, g94⟩) | (have z := g102; exact ⟨rfl, rfl, Fc.rf.r, g102⟩) | fail "none"
    · have eo4 : off = 96 := Option.some.inj (ho4.symm.trans rfl)
      obtain rfl : tgt = 100 := by omega
      refine y_aln (i := 0) dX6_readLine_100 at41.ne0 rfl rfl ?_
      refine y_ic dX6_readLine_101 ⟨by decide, by decide⟩ ?_
      refine x_callVI (c_X6_refuse hW) dX6_readLine_102 lkX6_77 mfX6_refuse cfX6 at41 rfl rfl rfl rfl (Nat.le_of_ble_eq_true rfl) (fun r102 I102 P102 hr102 hf102 => ?_)
      obtain ⟨rfl, rfl, rfl⟩ := hf102
      have x102 : tkS tp n 0 i ≠ 4 ∧ tkS tp n 0 i ≠ 5 ∧ tkS tp n 0 i ≠ 10 ∧ tkS tp n 0 i ≠ 13 ∧ tkS tp n 0 i ≠ 14 := by omega
      have g102 : RSC (uI I 41 6 1) t (tkS tp n) m (lineR (tkS tp n) l i S) := by unfold lineR; rw [if_neg x102.1, if_neg x102.2.1, if_neg x102.2.2.1, if_neg x102.2.2.2.1, if_neg x102.2.2.2.2]; exact Or.inr ⟨by show (1 : Int) ≠ 0; decide, by rw [uI_eq, u1_eq]; rfl, by rw [uI_eq, u1_ne (by decide)]; exact ha.2.1⟩
      refine x_pop dX6_readLine_105 rfl ?_
      refine x_vret dX6_readLine_106 rfl ?_
      first | (have z := g66; exact ⟨rfl, rfl, f66, g66⟩) | (have z := g73; exact ⟨rfl, rfl, f73, g73⟩) | (have z := g80; exact ⟨rfl, rfl, f80, g80⟩) | (have z := g87; exact ⟨rfl, rfl, f87, g87⟩) | (have z := g94; exact ⟨rfl, rfl, f94, g94⟩) | (have z := g102; exact ⟨rfl, rfl, Fc.rf.r, g102⟩) | fail "none"
    · have eo4 : off = 96 := Option.some.inj (ho4.symm.trans rfl)
      obtain rfl : tgt = 100 := by omega
      refine y_aln (i := 0) dX6_readLine_100 at41.ne0 rfl rfl ?_
      refine y_ic dX6_readLine_101 ⟨by decide, by decide⟩ ?_
      refine x_callVI (c_X6_refuse hW) dX6_readLine_102 lkX6_77 mfX6_refuse cfX6 at41 rfl rfl rfl rfl (Nat.le_of_ble_eq_true rfl) (fun r102 I102 P102 hr102 hf102 => ?_)
      obtain ⟨rfl, rfl, rfl⟩ := hf102
      have x102 : tkS tp n 0 i ≠ 4 ∧ tkS tp n 0 i ≠ 5 ∧ tkS tp n 0 i ≠ 10 ∧ tkS tp n 0 i ≠ 13 ∧ tkS tp n 0 i ≠ 14 := by omega
      have g102 : RSC (uI I 41 6 1) t (tkS tp n) m (lineR (tkS tp n) l i S) := by unfold lineR; rw [if_neg x102.1, if_neg x102.2.1, if_neg x102.2.2.1, if_neg x102.2.2.2.1, if_neg x102.2.2.2.2]; exact Or.inr ⟨by show (1 : Int) ≠ 0; decide, by rw [uI_eq, u1_eq]; rfl, by rw [uI_eq, u1_ne (by decide)]; exact ha.2.1⟩
      refine x_pop dX6_readLine_105 rfl ?_
      refine x_vret dX6_readLine_106 rfl ?_
      first | (have z := g66; exact ⟨rfl, rfl, f66, g66⟩) | (have z := g73; exact ⟨rfl, rfl, f73, g73⟩) | (have z := g80; exact ⟨rfl, rfl, f80, g80⟩) | (have z := g87; exact ⟨rfl, rfl, f87, g87⟩) | (have z := g94; exact ⟨rfl, rfl, f94, g94⟩) | (have z := g102; exact ⟨rfl, rfl, Fc.rf.r, g102⟩) | fail "none"
    · have eo4 : off = 96 := Option.some.inj (ho4.symm.trans rfl)
      obtain rfl : tgt = 100 := by omega
      refine y_aln (i := 0) dX6_readLine_100 at41.ne0 rfl rfl ?_
      refine y_ic dX6_readLine_101 ⟨by decide, by decide⟩ ?_
      refine x_callVI (c_X6_refuse hW) dX6_readLine_102 lkX6_77 mfX6_refuse cfX6 at41 rfl rfl rfl rfl (Nat.le_of_ble_eq_true rfl) (fun r102 I102 P102 hr102 hf102 => ?_)
      obtain ⟨rfl, rfl, rfl⟩ := hf102
      have x102 : tkS tp n 0 i ≠ 4 ∧ tkS tp n 0 i ≠ 5 ∧ tkS tp n 0 i ≠ 10 ∧ tkS tp n 0 i ≠ 13 ∧ tkS tp n 0 i ≠ 14 := by omega
      have g102 : RSC (uI I 41 6 1) t (tkS tp n) m (lineR (tkS tp n) l i S) := by unfold lineR; rw [if_neg x102.1, if_neg x102.2.1, if_neg x102.2.2.1, if_neg x102.2.2.2.1, if_neg x102.2.2.2.2]; exact Or.inr ⟨by show (1 : Int) ≠ 0; decide, by rw [uI_eq, u1_eq]; rfl, by rw [uI_eq, u1_ne (by decide)]; exact ha.2.1⟩
      refine x_pop dX6_readLine_105 rfl ?_
      refine x_vret dX6_readLine_106 rfl ?_
      first | (have z := g66; exact ⟨rfl, rfl, f66, g66⟩) | (have z := g73; exact ⟨rfl, rfl, f73, g73⟩) | (have z := g80; exact ⟨rfl, rfl, f80, g80⟩) | (have z := g87; exact ⟨rfl, rfl, f87, g87⟩) | (have z := g94; exact ⟨rfl, rfl, f94, g94⟩) | (have z := g102; exact ⟨rfl, rfl, Fc.rf.r, g102⟩) | fail "none"
    · have eo4 : off = 96 := Option.some.inj (ho4.symm.trans rfl)
      obtain rfl : tgt = 100 := by omega
      refine y_aln (i := 0) dX6_readLine_100 at41.ne0 rfl rfl ?_
      refine y_ic dX6_readLine_101 ⟨by decide, by decide⟩ ?_
      refine x_callVI (c_X6_refuse hW) dX6_readLine_102 lkX6_77 mfX6_refuse cfX6 at41 rfl rfl rfl rfl (Nat.le_of_ble_eq_true rfl) (fun r102 I102 P102 hr102 hf102 => ?_)
      obtain ⟨rfl, rfl, rfl⟩ := hf102
      have x102 : tkS tp n 0 i ≠ 4 ∧ tkS tp n 0 i ≠ 5 ∧ tkS tp n 0 i ≠ 10 ∧ tkS tp n 0 i ≠ 13 ∧ tkS tp n 0 i ≠ 14 := by omega
      have g102 : RSC (uI I 41 6 1) t (tkS tp n) m (lineR (tkS tp n) l i S) := by unfold lineR; rw [if_neg x102.1, if_neg x102.2.1, if_neg x102.2.2.1, if_neg x102.2.2.2.1, if_neg x102.2.2.2.2]; exact Or.inr ⟨by show (1 : Int) ≠ 0; decide, by rw [uI_eq, u1_eq]; rfl, by rw [uI_eq, u1_ne (by decide)]; exact ha.2.1⟩
      refine x_pop dX6_readLine_105 rfl ?_
      refine x_vret dX6_readLine_106 rfl ?_
      first | (have z := g66; exact ⟨rfl, rfl, f66, g66⟩) | (have z := g73; exact ⟨rfl, rfl, f73, g73⟩) | (have z := g80; exact ⟨rfl, rfl, f80, g80⟩) | (have z := g87; exact ⟨rfl, rfl, f87, g87⟩) | (have z := g94; exact ⟨rfl, rfl, f94, g94⟩) | (have z := g102; exact ⟨rfl, rfl, Fc.rf.r, g102⟩) | fail "none"
    · have eo4 : off = 75 := Option.some.inj (ho4.symm.trans rfl)
      obtain rfl : tgt = 79 := by omega
      have x79 : tkS tp n 0 i = 10 := by omega
      refine y_aln (i := 0) dX6_readLine_79 at41.ne0 rfl rfl ?_
      refine x_callVV (c_X6_readLaw (d := d + 1) (i := i + 1) (k := tkS tp n) hW hTo hpt hk (by omega) ha' h6 hS) dX6_readLine_80 lkX6_68 mfX6_readLaw cfX6 at41 rfl rfl rfl rfl (Nat.le_of_ble_eq_true rfl) (fun n80 I80 P80 hf80 => ?_)
      obtain ⟨rfl, rfl, f80, q80⟩ := hf80
      have g80 : RSC I80 t (tkS tp n) m (lineR (tkS tp n) l i S) := by unfold lineR; rw [if_neg (by omega), if_neg (by omega), if_pos x79]; exact q80
      refine x_goto (tgt := 106) dX6_readLine_83 rfl ?_
      refine x_vret dX6_readLine_106 rfl ?_
      first | (have z := g66; exact ⟨rfl, rfl, f66, g66⟩) | (have z := g73; exact ⟨rfl, rfl, f73, g73⟩) | (have z := g80; exact ⟨rfl, rfl, f80, g80⟩) | (have z := g87; exact ⟨rfl, rfl, f87, g87⟩) | (have z := g94; exact ⟨rfl, rfl, f94, g94⟩) | (have z := g102; exact ⟨rfl, rfl, Fc.rf.r, g102⟩) | fail "none"
    · have eo4 : off = 96 := Option.some.inj (ho4.symm.trans rfl)
      obtain rfl : tgt = 100 := by omega
      refine y_aln (i := 0) dX6_readLine_100 at41.ne0 rfl rfl ?_
      refine y_ic dX6_readLine_101 ⟨by decide, by decide⟩ ?_
      refine x_callVI (c_X6_refuse hW) dX6_readLine_102 lkX6_77 mfX6_refuse cfX6 at41 rfl rfl rfl rfl (Nat.le_of_ble_eq_true rfl) (fun r102 I102 P102 hr102 hf102 => ?_)
      obtain ⟨rfl, rfl, rfl⟩ := hf102
      have x102 : tkS tp n 0 i ≠ 4 ∧ tkS tp n 0 i ≠ 5 ∧ tkS tp n 0 i ≠ 10 ∧ tkS tp n 0 i ≠ 13 ∧ tkS tp n 0 i ≠ 14 := by omega
      have g102 : RSC (uI I 41 6 1) t (tkS tp n) m (lineR (tkS tp n) l i S) := by unfold lineR; rw [if_neg x102.1, if_neg x102.2.1, if_neg x102.2.2.1, if_neg x102.2.2.2.1, if_neg x102.2.2.2.2]; exact Or.inr ⟨by show (1 : Int) ≠ 0; decide, by rw [uI_eq, u1_eq]; rfl, by rw [uI_eq, u1_ne (by decide)]; exact ha.2.1⟩
      refine x_pop dX6_readLine_105 rfl ?_
      refine x_vret dX6_readLine_106 rfl ?_
      first | (have z := g66; exact ⟨rfl, rfl, f66, g66⟩) | (have z := g73; exact ⟨rfl, rfl, f73, g73⟩) | (have z := g80; exact ⟨rfl, rfl, f80, g80⟩) | (have z := g87; exact ⟨rfl, rfl, f87, g87⟩) | (have z := g94; exact ⟨rfl, rfl, f94, g94⟩) | (have z := g102; exact ⟨rfl, rfl, Fc.rf.r, g102⟩) | fail "none"
    · have eo4 : off = 96 := Option.some.inj (ho4.symm.trans rfl)
      obtain rfl : tgt = 100 := by omega
      refine y_aln (i := 0) dX6_readLine_100 at41.ne0 rfl rfl ?_
      refine y_ic dX6_readLine_101 ⟨by decide, by decide⟩ ?_
      refine x_callVI (c_X6_refuse hW) dX6_readLine_102 lkX6_77 mfX6_refuse cfX6 at41 rfl rfl rfl rfl (Nat.le_of_ble_eq_true rfl) (fun r102 I102 P102 hr102 hf102 => ?_)
      obtain ⟨rfl, rfl, rfl⟩ := hf102
      have x102 : tkS tp n 0 i ≠ 4 ∧ tkS tp n 0 i ≠ 5 ∧ tkS tp n 0 i ≠ 10 ∧ tkS tp n 0 i ≠ 13 ∧ tkS tp n 0 i ≠ 14 := by omega
      have g102 : RSC (uI I 41 6 1) t (tkS tp n) m (lineR (tkS tp n) l i S) := by unfold lineR; rw [if_neg x102.1, if_neg x102.2.1, if_neg x102.2.2.1, if_neg x102.2.2.2.1, if_neg x102.2.2.2.2]; exact Or.inr ⟨by show (1 : Int) ≠ 0; decide, by rw [uI_eq, u1_eq]; rfl, by rw [uI_eq, u1_ne (by decide)]; exact ha.2.1⟩
      refine x_pop dX6_readLine_105 rfl ?_
      refine x_vret dX6_readLine_106 rfl ?_
      first | (have z := g66; exact ⟨rfl, rfl, f66, g66⟩) | (have z := g73; exact ⟨rfl, rfl, f73, g73⟩) | (have z := g80; exact ⟨rfl, rfl, f80, g80⟩) | (have z := g87; exact ⟨rfl, rfl, f87, g87⟩) | (have z := g94; exact ⟨rfl, rfl, f94, g94⟩) | (have z := g102; exact ⟨rfl, rfl, Fc.rf.r, g102⟩) | fail "none"
    · have eo4 : off = 82 := Option.some.inj (ho4.symm.trans rfl)
      obtain rfl : tgt = 86 := by omega
      have x86 : tkS tp n 0 i = 13 := by omega
      refine y_aln (i := 0) dX6_readLine_86 at41.ne0 rfl rfl ?_
      refine x_callVV (c_X6_readTie (d := d + 1) (i := i + 1) (k := tkS tp n) hW hTo hpt hk (by omega) ha' h6 hS) dX6_readLine_87 lkX6_71 mfX6_readTie cfX6 at41 rfl rfl rfl rfl (Nat.le_of_ble_eq_true rfl) (fun n87 I87 P87 hf87 => ?_)
      obtain ⟨rfl, rfl, f87, q87⟩ := hf87
      have g87 : RSC I87 t (tkS tp n) m (lineR (tkS tp n) l i S) := by unfold lineR; rw [if_neg (by omega), if_neg (by omega), if_neg (by omega), if_pos x86]; exact q87
      refine x_goto (tgt := 106) dX6_readLine_90 rfl ?_
      refine x_vret dX6_readLine_106 rfl ?_
      first | (have z := g66; exact ⟨rfl, rfl, f66, g66⟩) | (have z := g73; exact ⟨rfl, rfl, f73, g73⟩) | (have z := g80; exact ⟨rfl, rfl, f80, g80⟩) | (have z := g87; exact ⟨rfl, rfl, f87, g87⟩) | (have z := g94; exact ⟨rfl, rfl, f94, g94⟩) | (have z := g102; exact ⟨rfl, rfl, Fc.rf.r, g102⟩) | fail "none"
    · have eo4 : off = 89 := Option.some.inj (ho4.symm.trans rfl)
      obtain rfl : tgt = 93 := by omega
      have x93 : tkS tp n 0 i = 14 := by omega
      refine y_aln (i := 0) dX6_readLine_93 at41.ne0 rfl rfl ?_
      refine x_callVV (c_X6_readMeeting (d := d + 1) (i := i + 1) (k := tkS tp n) hW hTo hpt hk (by omega) ha' h6 hS) dX6_readLine_94 lkX6_74 mfX6_readMeeting cfX6 at41 rfl rfl rfl rfl (Nat.le_of_ble_eq_true rfl) (fun n94 I94 P94 hf94 => ?_)
      obtain ⟨rfl, rfl, f94, q94⟩ := hf94
      have g94 : RSC I94 t (tkS tp n) m (lineR (tkS tp n) l i S) := by unfold lineR; rw [if_neg (by omega), if_neg (by omega), if_neg (by omega), if_neg (by omega), if_pos x93]; exact q94
      refine x_goto (tgt := 106) dX6_readLine_97 rfl ?_
      refine x_vret dX6_readLine_106 rfl ?_
      first | (have z := g66; exact ⟨rfl, rfl, f66, g66⟩) | (have z := g73; exact ⟨rfl, rfl, f73, g73⟩) | (have z := g80; exact ⟨rfl, rfl, f80, g80⟩) | (have z := g87; exact ⟨rfl, rfl, f87, g87⟩) | (have z := g94; exact ⟨rfl, rfl, f94, g94⟩) | (have z := g102; exact ⟨rfl, rfl, Fc.rf.r, g102⟩) | fail "none"
  · refine y_aln (i := 0) dX6_readLine_100 at41.ne0 rfl rfl ?_
    refine y_ic dX6_readLine_101 ⟨by decide, by decide⟩ ?_
    refine x_callVI (c_X6_refuse hW) dX6_readLine_102 lkX6_77 mfX6_refuse cfX6 at41 rfl rfl rfl rfl (Nat.le_of_ble_eq_true rfl) (fun r102 I102 P102 hr102 hf102 => ?_)
    obtain ⟨rfl, rfl, rfl⟩ := hf102
    have x102 : tkS tp n 0 i ≠ 4 ∧ tkS tp n 0 i ≠ 5 ∧ tkS tp n 0 i ≠ 10 ∧ tkS tp n 0 i ≠ 13 ∧ tkS tp n 0 i ≠ 14 := by omega
    have g102 : RSC (uI I 41 6 1) t (tkS tp n) m (lineR (tkS tp n) l i S) := by unfold lineR; rw [if_neg x102.1, if_neg x102.2.1, if_neg x102.2.2.1, if_neg x102.2.2.2.1, if_neg x102.2.2.2.2]; exact Or.inr ⟨by show (1 : Int) ≠ 0; decide, by rw [uI_eq, u1_eq]; rfl, by rw [uI_eq, u1_ne (by decide)]; exact ha.2.1⟩
    refine x_pop dX6_readLine_105 rfl ?_
    refine x_vret dX6_readLine_106 rfl ?_
    first | (have z := g66; exact ⟨rfl, rfl, f66, g66⟩) | (have z := g73; exact ⟨rfl, rfl, f73, g73⟩) | (have z := g80; exact ⟨rfl, rfl, f80, g80⟩) | (have z := g87; exact ⟨rfl, rfl, f87, g87⟩) | (have z := g94; exact ⟨rfl, rfl, f94, g94⟩) | (have z := g102; exact ⟨rfl, rfl, Fc.rf.r, g102⟩) | fail "none"
end

