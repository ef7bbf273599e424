/-! ===== the reference's small methods ===== -/
section
variable {G : HX} {d : Nat} {I : Mem} {P : Ptr} {T : Tn}
theorem c_X12_right {b w : Int} (hW : WP P) (h0 : I 91 0 = 0) (hb : b = 0 ∨ b = 1) (hw : w ≠ 0) : Cv G mX12_right d 0 0 [.inr (.inl 91), .inl b, .inl w] NO I P (qI NO (fun r I' P' => P' = P ∧ ((b = 1 ∧ r = 1 ∧ I' = I) ∨ (b = 0 ∧ r = 0 ∧ I' = uI I 91 0 w)))) := by
  refine x_enter mfX12_right rfl (Nat.le_of_ble_eq_true rfl) (fun hok => ?_)
  refine y_aln (i := 0) dX12_right_0 at91.ne0 rfl rfl ?_
  refine y_geti (z := 0) dX12_right_1 frX12_184 cfX12 at91 rfl rfl ?_
  refine x_if_ne (tgt := 16) dX12_right_4 rfl (fun h4 => ?_) (fun h4 => ?_)
  · exact absurd h0 h4
  · refine x_iload_n (i := 1) dX12_right_7 rfl rfl ?_
    refine x_if_ne (tgt := 16) dX12_right_8 rfl (fun h8 => ?_) (fun h8 => ?_)
    · refine y_aln (i := 0) dX12_right_16 at91.ne0 rfl rfl ?_
      refine y_geti (z := 0) dX12_right_17 frX12_184 cfX12 at91 rfl rfl ?_
      refine x_if_ne (tgt := 27) dX12_right_20 rfl (fun h20 => ?_) (fun h20 => ?_)
      · try simp only [uI_eq, u1_eq] at h20
        refine y_ic dX12_right_27 ⟨by decide, by decide⟩ ?_
        refine x_zret dX12_right_28 (by omega) rfl ?_
        first | exact ⟨rfl, Or.inl ⟨by omega, rfl, rfl⟩⟩ | exact ⟨rfl, Or.inr ⟨by omega, rfl, rfl⟩⟩ | exact absurd h0 (by assumption) | (simp only [uI_eq, u1_eq] at h20; exact absurd h20 (by omega)) | exact absurd h20 (by omega)
      · refine y_ic dX12_right_23 ⟨by decide, by decide⟩ ?_
        refine x_goto (tgt := 28) dX12_right_24 rfl ?_
        refine x_zret dX12_right_28 (by omega) rfl ?_
        first | exact ⟨rfl, Or.inl ⟨by omega, rfl, rfl⟩⟩ | exact ⟨rfl, Or.inr ⟨by omega, rfl, rfl⟩⟩ | exact absurd h0 (by assumption) | (simp only [uI_eq, u1_eq] at h20; exact absurd h20 (by omega)) | exact absurd h20 (by omega)
    · refine y_aln (i := 0) dX12_right_11 at91.ne0 rfl rfl ?_
      refine x_iload_n (i := 2) dX12_right_12 rfl rfl ?_
      refine y_puti (z := 0) dX12_right_13 frX12_184 cfX12 at91 rfl rfl rfl ?_
      refine y_aln (i := 0) dX12_right_16 at91.ne0 rfl rfl ?_
      refine y_geti (z := 0) dX12_right_17 frX12_184 cfX12 at91 rfl rfl ?_
      refine x_if_ne (tgt := 27) dX12_right_20 rfl (fun h20 => ?_) (fun h20 => ?_)
      · try simp only [uI_eq, u1_eq] at h20
        refine y_ic dX12_right_27 ⟨by decide, by decide⟩ ?_
        refine x_zret dX12_right_28 (by omega) rfl ?_
        first | exact ⟨rfl, Or.inl ⟨by omega, rfl, rfl⟩⟩ | exact ⟨rfl, Or.inr ⟨by omega, rfl, rfl⟩⟩ | exact absurd h0 (by assumption) | (simp only [uI_eq, u1_eq] at h20; exact absurd h20 (by omega)) | exact absurd h20 (by omega)
      · refine y_ic dX12_right_23 ⟨by decide, by decide⟩ ?_
        refine x_goto (tgt := 28) dX12_right_24 rfl ?_
        refine x_zret dX12_right_28 (by omega) rfl ?_
        first | exact ⟨rfl, Or.inl ⟨by omega, rfl, rfl⟩⟩ | exact ⟨rfl, Or.inr ⟨by omega, rfl, rfl⟩⟩ | exact absurd h0 (by assumption) | (simp only [uI_eq, u1_eq] at h20; exact absurd h20 (by omega)) | exact absurd h20 (by omega)
theorem c_X12_within {v lo hi : Int} : Cv G mX12_within d 0 0 [.inl v, .inl lo, .inl hi] NO I P (qI NO (fun r I' P' => I' = I ∧ P' = P ∧ ((r = 1 ∧ lo ≤ v ∧ v ≤ hi) ∨ (r = 0 ∧ ¬ (lo ≤ v ∧ v ≤ hi))))) := by
  refine x_enter mfX12_within rfl (Nat.le_of_ble_eq_true rfl) (fun hok => ?_)
  refine x_iload_n (i := 0) dX12_within_0 rfl rfl ?_
  refine x_iload_n (i := 1) dX12_within_1 rfl rfl ?_
  refine x_icmp_lt (tgt := 14) dX12_within_2 rfl (fun h2 => ?_) (fun h2 => ?_)
  · refine y_ic dX12_within_14 ⟨by decide, by decide⟩ ?_
    refine x_zret dX12_within_15 (by omega) rfl ?_
    exact ⟨rfl, rfl, by omega⟩
  · refine x_iload_n (i := 0) dX12_within_5 rfl rfl ?_
    refine x_iload_n (i := 2) dX12_within_6 rfl rfl ?_
    refine x_icmp_gt (tgt := 14) dX12_within_7 rfl (fun h7 => ?_) (fun h7 => ?_)
    · refine y_ic dX12_within_14 ⟨by decide, by decide⟩ ?_
      refine x_zret dX12_within_15 (by omega) rfl ?_
      exact ⟨rfl, rfl, by omega⟩
    · refine y_ic dX12_within_10 ⟨by decide, by decide⟩ ?_
      refine x_goto (tgt := 15) dX12_within_11 rfl ?_
      refine x_zret dX12_within_15 (by omega) rfl ?_
      exact ⟨rfl, rfl, by omega⟩
theorem c_X12_isPerson {p : Int} (hW : WP P) (hT : MT I T) (h0 : I 91 0 = 0) : Cv G mX12_isPerson (d + 1) 0 0 [.inr (.inl 91), .inl p] NO I P (qI NO (fun r I' P' => P' = P ∧ ((r = 1 ∧ (0 ≤ p ∧ p < T 0 1) ∧ I' = I) ∨ (r = 0 ∧ ¬ (0 ≤ p ∧ p < T 0 1) ∧ I' = uI I 91 0 1)))) := by
  have e1 := hT.1 1 (by decide) (by decide)
  refine x_enter mfX12_isPerson rfl (Nat.le_of_ble_eq_true rfl) (fun hok => ?_)
  refine y_aln (i := 0) dX12_isPerson_0 at91.ne0 rfl rfl ?_
  refine x_iload_n (i := 1) dX12_isPerson_1 rfl rfl ?_
  refine x_if_lt (tgt := 17) dX12_isPerson_2 rfl (fun h2 => ?_) (fun h2 => ?_)
  · refine y_ic dX12_isPerson_17 ⟨by decide, by decide⟩ ?_
    refine y_ic dX12_isPerson_18 ⟨by decide, by decide⟩ ?_
    refine x_callVI (c_X12_right hW h0 (by omega) (by decide)) dX12_isPerson_19 lkX12_309 mfX12_right cfX12 at91 rfl rfl rfl rfl (Nat.le_of_ble_eq_true rfl) (fun r19 I19 P19 hr19 hf19 => ?_)
    refine x_zret dX12_isPerson_22 (by omega) rfl ?_
    obtain ⟨hp, h | h⟩ := hf19
    · exact ⟨hp, Or.inl ⟨h.2.1, by omega, h.2.2⟩⟩
    · exact ⟨hp, Or.inr ⟨h.2.1, by omega, h.2.2⟩⟩
  · refine x_iload_n (i := 1) dX12_isPerson_5 rfl rfl ?_
    refine y_aln (i := 0) dX12_isPerson_6 at91.ne0 rfl rfl ?_
    refine y_geti (z := 1) dX12_isPerson_7 frX12_316 cfX12 at91 rfl rfl ?_
    refine x_icmp_ge (tgt := 17) dX12_isPerson_10 rfl (fun h10 => ?_) (fun h10 => ?_)
    · refine y_ic dX12_isPerson_17 ⟨by decide, by decide⟩ ?_
      refine y_ic dX12_isPerson_18 ⟨by decide, by decide⟩ ?_
      refine x_callVI (c_X12_right hW h0 (by omega) (by decide)) dX12_isPerson_19 lkX12_309 mfX12_right cfX12 at91 rfl rfl rfl rfl (Nat.le_of_ble_eq_true rfl) (fun r19 I19 P19 hr19 hf19 => ?_)
      refine x_zret dX12_isPerson_22 (by omega) rfl ?_
      obtain ⟨hp, h | h⟩ := hf19
      · exact ⟨hp, Or.inl ⟨h.2.1, by omega, h.2.2⟩⟩
      · exact ⟨hp, Or.inr ⟨h.2.1, by omega, h.2.2⟩⟩
    · refine y_ic dX12_isPerson_13 ⟨by decide, by decide⟩ ?_
      refine x_goto (tgt := 18) dX12_isPerson_14 rfl ?_
      refine y_ic dX12_isPerson_18 ⟨by decide, by decide⟩ ?_
      refine x_callVI (c_X12_right hW h0 (by omega) (by decide)) dX12_isPerson_19 lkX12_309 mfX12_right cfX12 at91 rfl rfl rfl rfl (Nat.le_of_ble_eq_true rfl) (fun r19 I19 P19 hr19 hf19 => ?_)
      refine x_zret dX12_isPerson_22 (by omega) rfl ?_
      obtain ⟨hp, h | h⟩ := hf19
      · exact ⟨hp, Or.inl ⟨h.2.1, by omega, h.2.2⟩⟩
      · exact ⟨hp, Or.inr ⟨h.2.1, by omega, h.2.2⟩⟩
theorem c_X12_isSort {s : Int} (hW : WP P) (hT : MT I T) (h0 : I 91 0 = 0) : Cv G mX12_isSort (d + 1) 0 0 [.inr (.inl 91), .inl s] NO I P (qI NO (fun r I' P' => P' = P ∧ ((r = 1 ∧ (0 ≤ s ∧ s < T 0 2) ∧ I' = I) ∨ (r = 0 ∧ ¬ (0 ≤ s ∧ s < T 0 2) ∧ I' = uI I 91 0 1)))) := by
  have e1 := hT.1 2 (by decide) (by decide)
  refine x_enter mfX12_isSort rfl (Nat.le_of_ble_eq_true rfl) (fun hok => ?_)
  refine y_aln (i := 0) dX12_isSort_0 at91.ne0 rfl rfl ?_
  refine x_iload_n (i := 1) dX12_isSort_1 rfl rfl ?_
  refine x_if_lt (tgt := 17) dX12_isSort_2 rfl (fun h2 => ?_) (fun h2 => ?_)
  · refine y_ic dX12_isSort_17 ⟨by decide, by decide⟩ ?_
    refine y_ic dX12_isSort_18 ⟨by decide, by decide⟩ ?_
    refine x_callVI (c_X12_right hW h0 (by omega) (by decide)) dX12_isSort_19 lkX12_309 mfX12_right cfX12 at91 rfl rfl rfl rfl (Nat.le_of_ble_eq_true rfl) (fun r19 I19 P19 hr19 hf19 => ?_)
    refine x_zret dX12_isSort_22 (by omega) rfl ?_
    obtain ⟨hp, h | h⟩ := hf19
    · exact ⟨hp, Or.inl ⟨h.2.1, by omega, h.2.2⟩⟩
    · exact ⟨hp, Or.inr ⟨h.2.1, by omega, h.2.2⟩⟩
  · refine x_iload_n (i := 1) dX12_isSort_5 rfl rfl ?_
    refine y_aln (i := 0) dX12_isSort_6 at91.ne0 rfl rfl ?_
    refine y_geti (z := 2) dX12_isSort_7 frX12_7 cfX12 at91 rfl rfl ?_
    refine x_icmp_ge (tgt := 17) dX12_isSort_10 rfl (fun h10 => ?_) (fun h10 => ?_)
    · refine y_ic dX12_isSort_17 ⟨by decide, by decide⟩ ?_
      refine y_ic dX12_isSort_18 ⟨by decide, by decide⟩ ?_
      refine x_callVI (c_X12_right hW h0 (by omega) (by decide)) dX12_isSort_19 lkX12_309 mfX12_right cfX12 at91 rfl rfl rfl rfl (Nat.le_of_ble_eq_true rfl) (fun r19 I19 P19 hr19 hf19 => ?_)
      refine x_zret dX12_isSort_22 (by omega) rfl ?_
      obtain ⟨hp, h | h⟩ := hf19
      · exact ⟨hp, Or.inl ⟨h.2.1, by omega, h.2.2⟩⟩
      · exact ⟨hp, Or.inr ⟨h.2.1, by omega, h.2.2⟩⟩
    · refine y_ic dX12_isSort_13 ⟨by decide, by decide⟩ ?_
      refine x_goto (tgt := 18) dX12_isSort_14 rfl ?_
      refine y_ic dX12_isSort_18 ⟨by decide, by decide⟩ ?_
      refine x_callVI (c_X12_right hW h0 (by omega) (by decide)) dX12_isSort_19 lkX12_309 mfX12_right cfX12 at91 rfl rfl rfl rfl (Nat.le_of_ble_eq_true rfl) (fun r19 I19 P19 hr19 hf19 => ?_)
      refine x_zret dX12_isSort_22 (by omega) rfl ?_
      obtain ⟨hp, h | h⟩ := hf19
      · exact ⟨hp, Or.inl ⟨h.2.1, by omega, h.2.2⟩⟩
      · exact ⟨hp, Or.inr ⟨h.2.1, by omega, h.2.2⟩⟩
theorem c_X12_leftOf {of : Nat} {s : Int} (hW : WP P) (hT : MT I T) (hF : WF T) (hA : AR NO of 20 48) (hr : RC (I of)) (hs : 0 ≤ s ∧ s < 8) : Cv G mX12_leftOf d 0 0 [.inr (.inl 91), .inr (.inl of), .inl s] NO I P (qI NO (fun r I' P' => I' = I ∧ P' = P ∧ r = leftS T (I of) s)) := by
  have e1 := hT.1 1 (by decide) (by decide)
  have f1 := hF.1
  refine x_enter mfX12_leftOf rfl (Nat.le_of_ble_eq_true rfl) (fun hok => ?_)
  have hL : ∀ (j : Nat) (p v : Int), (T 0 1 - p).toNat < j → 0 ≤ p → p ≤ T 0 1 → v = sumN (fun p => I of (8 * p + s)) p → 0 ≤ v → v ≤ p * 960 → V G mX12_leftOf d 0 0 5 [some (.inr (.inl 91)), some (.inr (.inl of)), some (.inl (s)), some (.inl (v)), some (.inl (p))] [] NO I P (qI NO (fun r I' P' => I' = I ∧ P' = P ∧ r = leftS T (I of) s)) := by
    intro j
    induction j with
    | zero => intro p s hj; omega
    | succ j ih =>
      intro p v hj hp hp2 hv0 hv1 hv2
      refine x_iload (i := 4) dX12_leftOf_5 rfl ?_
      refine y_aln (i := 0) dX12_leftOf_7 at91.ne0 rfl rfl ?_
      refine y_geti (z := 1) dX12_leftOf_8 frX12_316 cfX12 at91 rfl rfl ?_
      refine x_icmp_ge (tgt := 32) dX12_leftOf_11 rfl (fun h11 => ?_) (fun h11 => ?_)
      · refine x_iload_n (i := 3) dX12_leftOf_32 rfl rfl ?_
        refine x_iret dX12_leftOf_33 rfl ?_
        exact ⟨rfl, rfl, by rw [hv0, show p = T 0 1 by omega]; rfl⟩
      · have hrr := hr (8 * p + s) (by omega) (by omega)
        refine x_iload_n (i := 3) dX12_leftOf_14 rfl rfl ?_
        refine y_aln (i := 1) dX12_leftOf_15 hA.ne0 rfl rfl ?_
        refine y_bi dX12_leftOf_16 ⟨by decide, by decide⟩ ?_
        refine x_iload (i := 4) dX12_leftOf_18 rfl ?_
        refine x_imul dX12_leftOf_20 ⟨by omega, by omega⟩ ?_
        refine x_iload_n (i := 2) dX12_leftOf_21 rfl rfl ?_
        refine x_iadd dX12_leftOf_22 ⟨by omega, by omega⟩ ?_
        refine x_iald dX12_leftOf_23 hA ⟨by omega, by omega⟩ ?_
        refine x_iadd dX12_leftOf_24 ⟨by omega, by omega⟩ ?_
        refine x_istore_n (i := 3) dX12_leftOf_25 rfl rfl (Nat.le_of_ble_eq_true rfl) ?_
        refine x_iinc dX12_leftOf_26 rfl ⟨by omega, by omega⟩ rfl (Nat.le_of_ble_eq_true rfl) ?_
        refine x_goto (tgt := 5) dX12_leftOf_29 rfl ?_
        refine x_keep [1, 1, 1, 1, 1] ?_
        exact ih _ _ (by omega) (by omega) (by omega) (by rw [sumN_s _ hp, hv0]) (by omega) (by omega)
  refine y_ic dX12_leftOf_0 ⟨by decide, by decide⟩ ?_
  refine x_istore_n (i := 3) dX12_leftOf_1 rfl rfl (Nat.le_of_ble_eq_true rfl) ?_
  refine y_ic dX12_leftOf_2 ⟨by decide, by decide⟩ ?_
  refine x_istore (i := 4) dX12_leftOf_3 rfl (Nat.le_of_ble_eq_true rfl) ?_
  refine x_keep [1, 1, 1, 1, 1] ?_
  exact hL _ _ _ (Nat.lt_succ_self _) (by omega) (by omega) (sumN_0 _).symm (by omega) (by omega)
theorem c_X12_allThings {of : Nat} (hW : WP P) (hT : MT I T) (hF : WF T) (hA : AR NO of 20 48) (hr : RC (I of)) : Cv G mX12_allThings (d + 1) 0 0 [.inr (.inl 91), .inr (.inl of)] NO I P (qI NO (fun r I' P' => I' = I ∧ P' = P ∧ r = allS T (I of))) := by
  have e1 := hT.1 2 (by decide) (by decide)
  have f1 := hF.2.1
  refine x_enter mfX12_allThings rfl (Nat.le_of_ble_eq_true rfl) (fun hok => ?_)
  have hL : ∀ (j : Nat) (p v : Int), (T 0 2 - p).toNat < j → 0 ≤ p → p ≤ T 0 2 → v = sumN (fun s => leftS T (I of) s) p → 0 ≤ v → v ≤ p * 5760 → V G mX12_allThings (d + 1) 0 0 4 [some (.inr (.inl 91)), some (.inr (.inl of)), some (.inl (v)), some (.inl (p))] [] NO I P (qI NO (fun r I' P' => I' = I ∧ P' = P ∧ r = allS T (I of))) := by
    intro j
    induction j with
    | zero => intro p s hj; omega
    | succ j ih =>
      intro p v hj hp hp2 hv0 hv1 hv2
      refine x_iload_n (i := 3) dX12_allThings_4 rfl rfl ?_
      refine y_aln (i := 0) dX12_allThings_5 at91.ne0 rfl rfl ?_
      refine y_geti (z := 2) dX12_allThings_6 frX12_7 cfX12 at91 rfl rfl ?_
      refine x_icmp_ge (tgt := 27) dX12_allThings_9 rfl (fun h9 => ?_) (fun h9 => ?_)
      · refine x_iload_n (i := 2) dX12_allThings_27 rfl rfl ?_
        refine x_iret dX12_allThings_28 rfl ?_
        exact ⟨rfl, rfl, by rw [hv0, show p = T 0 2 by omega]; rfl⟩
      · have hrr := leftS_bd (s := p) hF hr (by omega)
        refine x_iload_n (i := 2) dX12_allThings_12 rfl rfl ?_
        refine y_aln (i := 0) dX12_allThings_13 at91.ne0 rfl rfl ?_
        refine y_aln (i := 1) dX12_allThings_14 hA.ne0 rfl rfl ?_
        refine x_iload_n (i := 3) dX12_allThings_15 rfl rfl ?_
        refine x_callVI (c_X12_leftOf hW hT hF hA hr (by omega)) dX12_allThings_16 lkX12_347 mfX12_leftOf cfX12 at91 rfl rfl rfl rfl (Nat.le_of_ble_eq_true rfl) (fun r16 I16 P16 hr16 hf16 => ?_)
        obtain ⟨rfl, rfl, rfl⟩ := hf16
        refine x_iadd dX12_allThings_19 ⟨by omega, by omega⟩ ?_
        refine x_istore_n (i := 2) dX12_allThings_20 rfl rfl (Nat.le_of_ble_eq_true rfl) ?_
        refine x_iinc dX12_allThings_21 rfl ⟨by omega, by omega⟩ rfl (Nat.le_of_ble_eq_true rfl) ?_
        refine x_goto (tgt := 4) dX12_allThings_24 rfl ?_
        refine x_keep [1, 1, 1, 1] ?_
        exact ih _ _ (by omega) (by omega) (by omega) (by rw [sumN_s _ hp, hv0]) (by omega) (by omega)
  refine y_ic dX12_allThings_0 ⟨by decide, by decide⟩ ?_
  refine x_istore_n (i := 2) dX12_allThings_1 rfl rfl (Nat.le_of_ble_eq_true rfl) ?_
  refine y_ic dX12_allThings_2 ⟨by decide, by decide⟩ ?_
  refine x_istore_n (i := 3) dX12_allThings_3 rfl rfl (Nat.le_of_ble_eq_true rfl) ?_
  refine x_keep [1, 1, 1, 1] ?_
  exact hL _ _ _ (Nat.lt_succ_self _) (by omega) (by omega) (sumN_0 _).symm (by omega) (by omega)
theorem c_X12_bagOf {of : Nat} {p : Int} (hW : WP P) (hT : MT I T) (hF : WF T) (hA : AR NO of 20 48) (hr : RC (I of)) (hp : 0 ≤ p ∧ p < T 0 1) : Cv G mX12_bagOf d 0 0 [.inr (.inl 91), .inr (.inl of), .inl p] NO I P (qI NO (fun r I' P' => I' = I ∧ P' = P ∧ r = bagS T (I of) p)) := by
  have e2 := hT.1 2 (by decide) (by decide)
  have f1 := hF.1
  have f2 := hF.2.1
  have f8 := hF.2.2.2.2.2.2.2.1
  have f9 := hF.2.2.2.2.2.2.2.2.1 p hp.1 hp.2
  have f10 := hF.2.2.2.2.2.2.2.2.2.1 p hp.1 hp.2
  have f11 := hF.2.2.2.2.2.2.2.2.2.2.1 p
  obtain ⟨-, g1, g2, g3, g4, -, -⟩ := id hT
  have h93 : I 93 p = T 2 p := by rw [g2]
  have h94 : I 94 p = T 3 p := by rw [g3]
  refine x_enter mfX12_bagOf rfl (Nat.le_of_ble_eq_true rfl) (fun hok => ?_)
  have hP : ∀ (j : Nat) (k v : Int), (T 3 p - k).toNat < j → 0 ≤ k → k ≤ T 3 p → v = sumN (fun s => wcell (T 1 (8 * p + s)) (T 2 p) (I of (8 * p + s))) (T 0 2) + sumN (fun k => pairS T (I of) p k) k → 0 ≤ v → v ≤ 76032000 + k * 9900 → V G mX12_bagOf d 0 0 87 [some (.inr (.inl 91)), some (.inr (.inl of)), some (.inl (p)), some (.inl (v)), some (.inl (k)), none, none] [] NO I P (qI NO (fun r I' P' => I' = I ∧ P' = P ∧ r = bagS T (I of) p)) := by
    intro j
    induction j with
    | zero => intro k v hj; omega
    | succ j ih =>
      intro k v hj hk hk2 hv0 hv1 hv2
      refine x_iload (i := 4) dX12_bagOf_87 rfl ?_
      refine y_aln (i := 0) dX12_bagOf_89 at91.ne0 rfl rfl ?_
      refine y_getp (z := 10) (v := 94) dX12_bagOf_90 frX12_26 cfX12 at91 rfl rfl (wp (v := 94) hW rfl rfl (by decide)) ?_
      refine x_iload_n (i := 2) dX12_bagOf_93 rfl rfl ?_
      refine x_iald dX12_bagOf_94 ar94 ⟨by omega, by omega⟩ ?_
      refine x_icmp_ge (tgt := 170) dX12_bagOf_95 rfl (fun h95 => ?_) (fun h95 => ?_)
      · refine x_iload_n (i := 3) dX12_bagOf_170 rfl rfl ?_
        refine x_iret dX12_bagOf_171 rfl ?_
        exact ⟨rfl, rfl, by rw [hv0, show k = T 3 p by omega]; rfl⟩
      · have hb := f11 k hp.1 hp.2 hk (by omega)
        have q0 : I 95 (18 * p + 3 * k) = T 4 (18 * p + 3 * k) := by rw [g4]
        have q1 : I 95 (18 * p + 3 * k + 1) = T 4 (18 * p + 3 * k + 1) := by rw [g4]
        have q2 : I 95 (18 * p + 3 * k + 2) = T 4 (18 * p + 3 * k + 2) := by rw [g4]
        have ep : pairS T (I of) p k = if 0 < I of (8 * p + I 95 (18 * p + 3 * k)) ∧ 0 < I of (8 * p + I 95 (18 * p + 3 * k + 1)) then 100 * I 95 (18 * p + 3 * k + 2) else 0 := by rw [q0, q1, q2]; rfl
        have es := sumN_s (fun k => pairS T (I of) p k) hk
        refine y_bi dX12_bagOf_98 ⟨by decide, by decide⟩ ?_
        refine x_iload_n (i := 2) dX12_bagOf_100 rfl rfl ?_
        refine x_imul dX12_bagOf_101 ⟨by omega, by omega⟩ ?_
        refine y_ic dX12_bagOf_102 ⟨by decide, by decide⟩ ?_
        refine x_iload (i := 4) dX12_bagOf_103 rfl ?_
        refine x_imul dX12_bagOf_105 ⟨by omega, by omega⟩ ?_
        refine x_iadd dX12_bagOf_106 ⟨by omega, by omega⟩ ?_
        refine x_istore (i := 5) dX12_bagOf_107 rfl (Nat.le_of_ble_eq_true rfl) ?_
        refine x_iload_n (i := 3) dX12_bagOf_109 rfl rfl ?_
        refine y_aln (i := 1) dX12_bagOf_110 hA.ne0 rfl rfl ?_
        refine y_bi dX12_bagOf_111 ⟨by decide, by decide⟩ ?_
        refine x_iload_n (i := 2) dX12_bagOf_113 rfl rfl ?_
        refine x_imul dX12_bagOf_114 ⟨by omega, by omega⟩ ?_
        refine y_aln (i := 0) dX12_bagOf_115 at91.ne0 rfl rfl ?_
        refine y_getp (z := 11) (v := 95) dX12_bagOf_116 frX12_29 cfX12 at91 rfl rfl (wp (v := 95) hW rfl rfl (by decide)) ?_
        refine x_iload (i := 5) dX12_bagOf_119 rfl ?_
        refine x_iald dX12_bagOf_121 ar95 ⟨by omega, by omega⟩ ?_
        refine x_iadd dX12_bagOf_122 ⟨by omega, by omega⟩ ?_
        refine x_iald dX12_bagOf_123 hA ⟨by omega, by omega⟩ ?_
        refine x_if_le (tgt := 161) dX12_bagOf_124 rfl (fun h124 => ?_) (fun h124 => ?_)
        · rw [if_neg (by omega)] at ep
          refine y_ic dX12_bagOf_161 ⟨by decide, by decide⟩ ?_
          refine x_iadd dX12_bagOf_162 ⟨by omega, by omega⟩ ?_
          refine x_istore_n (i := 3) dX12_bagOf_163 rfl rfl (Nat.le_of_ble_eq_true rfl) ?_
          refine x_iinc dX12_bagOf_164 rfl ⟨by omega, by omega⟩ rfl (Nat.le_of_ble_eq_true rfl) ?_
          refine x_goto (tgt := 87) dX12_bagOf_167 rfl ?_
          refine x_keep [1, 1, 1, 1, 1, 0, 0] ?_
          exact ih _ _ (by omega) (by omega) (by omega) (by rw [es, hv0, ep]; omega) (by omega) (by omega)
        · refine y_aln (i := 1) dX12_bagOf_127 hA.ne0 rfl rfl ?_
          refine y_bi dX12_bagOf_128 ⟨by decide, by decide⟩ ?_
          refine x_iload_n (i := 2) dX12_bagOf_130 rfl rfl ?_
          refine x_imul dX12_bagOf_131 ⟨by omega, by omega⟩ ?_
          refine y_aln (i := 0) dX12_bagOf_132 at91.ne0 rfl rfl ?_
          refine y_getp (z := 11) (v := 95) dX12_bagOf_133 frX12_29 cfX12 at91 rfl rfl (wp (v := 95) hW rfl rfl (by decide)) ?_
          refine x_iload (i := 5) dX12_bagOf_136 rfl ?_
          refine y_ic dX12_bagOf_138 ⟨by decide, by decide⟩ ?_
          refine x_iadd dX12_bagOf_139 ⟨by omega, by omega⟩ ?_
          refine x_iald dX12_bagOf_140 ar95 ⟨by omega, by omega⟩ ?_
          refine x_iadd dX12_bagOf_141 ⟨by omega, by omega⟩ ?_
          refine x_iald dX12_bagOf_142 hA ⟨by omega, by omega⟩ ?_
          refine x_if_le (tgt := 161) dX12_bagOf_143 rfl (fun h143 => ?_) (fun h143 => ?_)
          · rw [if_neg (by omega)] at ep
            refine y_ic dX12_bagOf_161 ⟨by decide, by decide⟩ ?_
            refine x_iadd dX12_bagOf_162 ⟨by omega, by omega⟩ ?_
            refine x_istore_n (i := 3) dX12_bagOf_163 rfl rfl (Nat.le_of_ble_eq_true rfl) ?_
            refine x_iinc dX12_bagOf_164 rfl ⟨by omega, by omega⟩ rfl (Nat.le_of_ble_eq_true rfl) ?_
            refine x_goto (tgt := 87) dX12_bagOf_167 rfl ?_
            refine x_keep [1, 1, 1, 1, 1, 0, 0] ?_
            exact ih _ _ (by omega) (by omega) (by omega) (by rw [es, hv0, ep]; omega) (by omega) (by omega)
          · rw [if_pos (by omega)] at ep
            refine y_bi dX12_bagOf_146 ⟨by decide, by decide⟩ ?_
            refine y_aln (i := 0) dX12_bagOf_148 at91.ne0 rfl rfl ?_
            refine y_getp (z := 11) (v := 95) dX12_bagOf_149 frX12_29 cfX12 at91 rfl rfl (wp (v := 95) hW rfl rfl (by decide)) ?_
            refine x_iload (i := 5) dX12_bagOf_152 rfl ?_
            refine y_ic dX12_bagOf_154 ⟨by decide, by decide⟩ ?_
            refine x_iadd dX12_bagOf_155 ⟨by omega, by omega⟩ ?_
            refine x_iald dX12_bagOf_156 ar95 ⟨by omega, by omega⟩ ?_
            refine x_imul dX12_bagOf_157 ⟨by omega, by omega⟩ ?_
            refine x_goto (tgt := 162) dX12_bagOf_158 rfl ?_
            refine x_iadd dX12_bagOf_162 ⟨by omega, by omega⟩ ?_
            refine x_istore_n (i := 3) dX12_bagOf_163 rfl rfl (Nat.le_of_ble_eq_true rfl) ?_
            refine x_iinc dX12_bagOf_164 rfl ⟨by omega, by omega⟩ rfl (Nat.le_of_ble_eq_true rfl) ?_
            refine x_goto (tgt := 87) dX12_bagOf_167 rfl ?_
            refine x_keep [1, 1, 1, 1, 1, 0, 0] ?_
            exact ih _ _ (by omega) (by omega) (by omega) (by rw [es, hv0, ep]; omega) (by omega) (by omega)
  have hS : ∀ (j : Nat) (s v : Int), (T 0 2 - s).toNat < j → 0 ≤ s → s ≤ T 0 2 → v = sumN (fun s => wcell (T 1 (8 * p + s)) (T 2 p) (I of (8 * p + s))) s → 0 ≤ v → v ≤ s * 9504000 → V G mX12_bagOf d 0 0 5 [some (.inr (.inl 91)), some (.inr (.inl of)), some (.inl (p)), some (.inl (v)), some (.inl (s)), none, none] [] NO I P (qI NO (fun r I' P' => I' = I ∧ P' = P ∧ r = bagS T (I of) p)) := by
    intro j
    induction j with
    | zero => intro s v hj; omega
    | succ j ih =>
      intro s v hj hs hs2 hv0 hv1 hv2
      have hI : ∀ (j : Nat) (i w : Int), (I of (8 * p + s) - i).toNat < j → s < T 0 2 → 0 ≤ i → i ≤ I of (8 * p + s) → w = v + wcell (T 1 (8 * p + s)) (T 2 p) i → v ≤ w → w ≤ v + i * 9900 → V G mX12_bagOf d 0 0 17 [some (.inr (.inl 91)), some (.inr (.inl of)), some (.inl (p)), some (.inl (w)), some (.inl (s)), some (.inl (i)), none] [] NO I P (qI NO (fun r I' P' => I' = I ∧ P' = P ∧ r = bagS T (I of) p)) := by
        intro j
        induction j with
        | zero => intro i w hj; omega
        | succ j ih2 =>
          intro i w hj hs3 hi hi2 hw0 hw1 hw2
          have hc := hr (8 * p + s) (by omega) (by omega)
          have hw := f8 p s hp.1 hp.2 hs (by omega)
          have q1 : I 92 (8 * p + s) = T 1 (8 * p + s) := by rw [g1]
          have ew : wcell (T 1 (8 * p + s)) (T 2 p) (i + 1) = _ := sumN_s _ hi
          have es := sumN_s (fun s => wcell (T 1 (8 * p + s)) (T 2 p) (I of (8 * p + s))) hs
          have hm : 0 ≤ T 2 p * i ∧ T 2 p * i ≤ 100 * 960 := ⟨Int.mul_nonneg f9.1 hi, Int.le_trans (Int.mul_le_mul_of_nonneg_right f9.2 hi) (by omega)⟩
          have hm2 : I 93 p * i = T 2 p * i := by rw [h93]
          have hb : 0 < 100 - T 2 p * i → 0 ≤ T 1 (8 * p + s) * (100 - T 2 p * i) ∧ T 1 (8 * p + s) * (100 - T 2 p * i) ≤ 9900 := fun z => ⟨Int.mul_nonneg hw.1 (by omega), Int.le_trans (Int.mul_le_mul_of_nonneg_right hw.2 (by omega)) (by omega)⟩
          have hb2 : I 92 (8 * p + s) * (100 - I 93 p * i) = T 1 (8 * p + s) * (100 - T 2 p * i) := by rw [q1, h93]
          refine x_iload (i := 5) dX12_bagOf_17 rfl ?_
          refine y_aln (i := 1) dX12_bagOf_19 hA.ne0 rfl rfl ?_
          refine y_bi dX12_bagOf_20 ⟨by decide, by decide⟩ ?_
          refine x_iload_n (i := 2) dX12_bagOf_22 rfl rfl ?_
          refine x_imul dX12_bagOf_23 ⟨by omega, by omega⟩ ?_
          refine x_iload (i := 4) dX12_bagOf_24 rfl ?_
          refine x_iadd dX12_bagOf_26 ⟨by omega, by omega⟩ ?_
          refine x_iald dX12_bagOf_27 hA ⟨by omega, by omega⟩ ?_
          refine x_icmp_ge (tgt := 78) dX12_bagOf_28 rfl (fun h28 => ?_) (fun h28 => ?_)
          · rw [show i = I of (8 * p + s) by omega] at hw0
            refine x_iinc dX12_bagOf_78 rfl ⟨by omega, by omega⟩ rfl (Nat.le_of_ble_eq_true rfl) ?_
            refine x_goto (tgt := 5) dX12_bagOf_81 rfl ?_
            refine x_keep [1, 1, 1, 1, 1, 0, 0] ?_
            exact ih _ _ (by omega) (by omega) (by omega) (by rw [es, hw0, hv0]) (by omega) (by omega)
          · rw [show sumN (fun i => if 0 < 100 - T 2 p * i then T 1 (8 * p + s) * (100 - T 2 p * i) else 0) i = wcell (T 1 (8 * p + s)) (T 2 p) i from rfl] at ew
            refine y_bi dX12_bagOf_31 ⟨by decide, by decide⟩ ?_
            refine y_aln (i := 0) dX12_bagOf_33 at91.ne0 rfl rfl ?_
            refine y_getp (z := 9) (v := 93) dX12_bagOf_34 frX12_23 cfX12 at91 rfl rfl (wp (v := 93) hW rfl rfl (by decide)) ?_
            refine x_iload_n (i := 2) dX12_bagOf_37 rfl rfl ?_
            refine x_iald dX12_bagOf_38 ar93 ⟨by omega, by omega⟩ ?_
            refine x_iload (i := 5) dX12_bagOf_39 rfl ?_
            refine x_imul dX12_bagOf_41 ⟨by omega, by omega⟩ ?_
            refine x_isub dX12_bagOf_42 ⟨by omega, by omega⟩ ?_
            refine x_istore (i := 6) dX12_bagOf_43 rfl (Nat.le_of_ble_eq_true rfl) ?_
            refine x_iload_n (i := 3) dX12_bagOf_45 rfl rfl ?_
            refine x_iload (i := 6) dX12_bagOf_46 rfl ?_
            refine x_if_le (tgt := 69) dX12_bagOf_48 rfl (fun h48 => ?_) (fun h48 => ?_)
            · rw [if_neg (by omega)] at ew
              refine y_ic dX12_bagOf_69 ⟨by decide, by decide⟩ ?_
              refine x_iadd dX12_bagOf_70 ⟨by omega, by omega⟩ ?_
              refine x_istore_n (i := 3) dX12_bagOf_71 rfl rfl (Nat.le_of_ble_eq_true rfl) ?_
              refine x_iinc dX12_bagOf_72 rfl ⟨by omega, by omega⟩ rfl (Nat.le_of_ble_eq_true rfl) ?_
              refine x_goto (tgt := 17) dX12_bagOf_75 rfl ?_
              refine x_keep [1, 1, 1, 1, 1, 1, 0] ?_
              exact ih2 _ _ (by omega) (by omega) (by omega) (by omega) (by rw [ew, hw0]; omega) (by omega) (by omega)
            · rw [if_pos (by omega)] at ew
              have hb3 := hb (by omega)
              refine y_aln (i := 0) dX12_bagOf_51 at91.ne0 rfl rfl ?_
              refine y_getp (z := 8) (v := 92) dX12_bagOf_52 frX12_19 cfX12 at91 rfl rfl (wp (v := 92) hW rfl rfl (by decide)) ?_
              refine y_bi dX12_bagOf_55 ⟨by decide, by decide⟩ ?_
              refine x_iload_n (i := 2) dX12_bagOf_57 rfl rfl ?_
              refine x_imul dX12_bagOf_58 ⟨by omega, by omega⟩ ?_
              refine x_iload (i := 4) dX12_bagOf_59 rfl ?_
              refine x_iadd dX12_bagOf_61 ⟨by omega, by omega⟩ ?_
              refine x_iald dX12_bagOf_62 ar92 ⟨by omega, by omega⟩ ?_
              refine x_iload (i := 6) dX12_bagOf_63 rfl ?_
              refine x_imul dX12_bagOf_65 ⟨by omega, by omega⟩ ?_
              refine x_goto (tgt := 70) dX12_bagOf_66 rfl ?_
              refine x_iadd dX12_bagOf_70 ⟨by omega, by omega⟩ ?_
              refine x_istore_n (i := 3) dX12_bagOf_71 rfl rfl (Nat.le_of_ble_eq_true rfl) ?_
              refine x_iinc dX12_bagOf_72 rfl ⟨by omega, by omega⟩ rfl (Nat.le_of_ble_eq_true rfl) ?_
              refine x_goto (tgt := 17) dX12_bagOf_75 rfl ?_
              refine x_keep [1, 1, 1, 1, 1, 1, 0] ?_
              exact ih2 _ _ (by omega) (by omega) (by omega) (by omega) (by rw [ew, hw0]; omega) (by omega) (by omega)
      refine x_iload (i := 4) dX12_bagOf_5 rfl ?_
      refine y_aln (i := 0) dX12_bagOf_7 at91.ne0 rfl rfl ?_
      refine y_geti (z := 2) dX12_bagOf_8 frX12_7 cfX12 at91 rfl rfl ?_
      refine x_icmp_ge (tgt := 84) dX12_bagOf_11 rfl (fun h11 => ?_) (fun h11 => ?_)
      · refine y_ic dX12_bagOf_84 ⟨by decide, by decide⟩ ?_
        refine x_istore (i := 4) dX12_bagOf_85 rfl (Nat.le_of_ble_eq_true rfl) ?_
        refine x_keep [1, 1, 1, 1, 1, 0, 0] ?_
        exact hP _ _ _ (Nat.lt_succ_self _) (by omega) (by omega) (by rw [hv0, show s = T 0 2 by omega, sumN_0]; omega) (by omega) (by omega)
      · refine y_ic dX12_bagOf_14 ⟨by decide, by decide⟩ ?_
        refine x_istore (i := 5) dX12_bagOf_15 rfl (Nat.le_of_ble_eq_true rfl) ?_
        refine x_keep [1, 1, 1, 1, 1, 1, 0] ?_
        exact hI _ _ _ (Nat.lt_succ_self _) (by omega) (by omega) ((hr (8 * p + s) (by omega) (by omega)).1) (by rw [show wcell (T 1 (8 * p + s)) (T 2 p) 0 = 0 from rfl]; omega) (by omega) (by omega)
  refine y_ic dX12_bagOf_0 ⟨by decide, by decide⟩ ?_
  refine x_istore_n (i := 3) dX12_bagOf_1 rfl rfl (Nat.le_of_ble_eq_true rfl) ?_
  refine y_ic dX12_bagOf_2 ⟨by decide, by decide⟩ ?_
  refine x_istore (i := 4) dX12_bagOf_3 rfl (Nat.le_of_ble_eq_true rfl) ?_
  refine x_keep [1, 1, 1, 1, 1, 0, 0] ?_
  exact hS _ _ _ (Nat.lt_succ_self _) (by omega) (by omega) (sumN_0 _).symm (by omega) (by omega)
theorem c_X12_allWorth {of : Nat} (hW : WP P) (hT : MT I T) (hF : WF T) (hA : AR NO of 20 48) (hr : RC (I of)) : Cv G mX12_allWorth (d + 1) 0 0 [.inr (.inl 91), .inr (.inl of)] NO I P (qI NO (fun r I' P' => I' = I ∧ P' = P ∧ r = worthS T (I of))) := by
  have e1 := hT.1 1 (by decide) (by decide)
  have f1 := hF.1
  refine x_enter mfX12_allWorth rfl (Nat.le_of_ble_eq_true rfl) (fun hok => ?_)
  have hL : ∀ (j : Nat) (p v : Int), (T 0 1 - p).toNat < j → 0 ≤ p → p ≤ T 0 1 → v = sumN (fun s => bagS T (I of) s) p → 0 ≤ v → v ≤ p * 76100000 → V G mX12_allWorth (d + 1) 0 0 4 [some (.inr (.inl 91)), some (.inr (.inl of)), some (.inl (v)), some (.inl (p))] [] NO I P (qI NO (fun r I' P' => I' = I ∧ P' = P ∧ r = worthS T (I of))) := by
    intro j
    induction j with
    | zero => intro p s hj; omega
    | succ j ih =>
      intro p v hj hp hp2 hv0 hv1 hv2
      refine x_iload_n (i := 3) dX12_allWorth_4 rfl rfl ?_
      refine y_aln (i := 0) dX12_allWorth_5 at91.ne0 rfl rfl ?_
      refine y_geti (z := 1) dX12_allWorth_6 frX12_316 cfX12 at91 rfl rfl ?_
      refine x_icmp_ge (tgt := 27) dX12_allWorth_9 rfl (fun h9 => ?_) (fun h9 => ?_)
      · refine x_iload_n (i := 2) dX12_allWorth_27 rfl rfl ?_
        refine x_iret dX12_allWorth_28 rfl ?_
        exact ⟨rfl, rfl, by rw [hv0, show p = T 0 1 by omega]; rfl⟩
      · have hrr := bagS_bd (p := p) hF hr (by omega)
        refine x_iload_n (i := 2) dX12_allWorth_12 rfl rfl ?_
        refine y_aln (i := 0) dX12_allWorth_13 at91.ne0 rfl rfl ?_
        refine y_aln (i := 1) dX12_allWorth_14 hA.ne0 rfl rfl ?_
        refine x_iload_n (i := 3) dX12_allWorth_15 rfl rfl ?_
        refine x_callVI (c_X12_bagOf hW hT hF hA hr (by omega)) dX12_allWorth_16 lkX12_351 mfX12_bagOf cfX12 at91 rfl rfl rfl rfl (Nat.le_of_ble_eq_true rfl) (fun r16 I16 P16 hr16 hf16 => ?_)
        obtain ⟨rfl, rfl, rfl⟩ := hf16
        refine x_iadd dX12_allWorth_19 ⟨by omega, by omega⟩ ?_
        refine x_istore_n (i := 2) dX12_allWorth_20 rfl rfl (Nat.le_of_ble_eq_true rfl) ?_
        refine x_iinc dX12_allWorth_21 rfl ⟨by omega, by omega⟩ rfl (Nat.le_of_ble_eq_true rfl) ?_
        refine x_goto (tgt := 4) dX12_allWorth_24 rfl ?_
        refine x_keep [1, 1, 1, 1] ?_
        exact ih _ _ (by omega) (by omega) (by omega) (by rw [sumN_s _ hp, hv0]) (by omega) (by omega)
  refine y_ic dX12_allWorth_0 ⟨by decide, by decide⟩ ?_
  refine x_istore_n (i := 2) dX12_allWorth_1 rfl rfl (Nat.le_of_ble_eq_true rfl) ?_
  refine y_ic dX12_allWorth_2 ⟨by decide, by decide⟩ ?_
  refine x_istore_n (i := 3) dX12_allWorth_3 rfl rfl (Nat.le_of_ble_eq_true rfl) ?_
  refine x_keep [1, 1, 1, 1] ?_
  exact hL _ _ _ (Nat.lt_succ_self _) (by omega) (by omega) (sumN_0 _).symm (by omega) (by omega)
end

