/-! ===== the reference: calls that only ask ===== -/
section
variable {G : HX} {d : Nat} {I : Mem} {P : Ptr} {T : Tn}
theorem fin_1 {p : Prop} {x y : Int} {P' : Ptr} (h : p) (e : x = y) : P' = P' ∧ uI I 91 0 0 = uI I 91 0 (aif p y).1 ∧ x = (aif p y).2 := by rw [aif_1 h]; exact ⟨rfl, rfl, e⟩
theorem fin_0 {p : Prop} {y : Int} {J : Mem} {P' : Ptr} (hJ : J = uI (uI I 91 0 0) 91 0 1) (h : ¬ p) : P' = P' ∧ J = uI I 91 0 (aif p y).1 ∧ 0 = (aif p y).2 := by rw [aif_0 h, hJ, uI_uI]; exact ⟨rfl, rfl, rfl⟩
theorem z_0 : uI I 91 0 0 91 0 = 0 := by rw [uI_eq, u1_eq]
theorem c_X12_thrown (hW : WP P) : Cv G mX12_thrown d 0 0 [.inr (.inl 91)] NO I P (qI NO (fun r I' P' => P' = P ∧ I' = I ∧ r = I 91 0)) := by
  refine x_enter mfX12_thrown rfl (Nat.le_of_ble_eq_true rfl) (fun _ => ?_)
  refine y_aln (i := 0) dX12_thrown_0 at91.ne0 rfl rfl ?_
  refine y_geti (z := 0) dX12_thrown_1 frX12_184 cfX12 at91 rfl rfl ?_
  refine x_iret dX12_thrown_4 rfl ?_
  exact ⟨rfl, rfl, rfl⟩
theorem c_X12_fault (hW : WP P) : Cv G mX12_fault d 0 0 [.inr (.inl 91)] NO I P (qI NO (fun r I' P' => P' = P ∧ I' = uI I 91 0 0 ∧ r = I 91 19)) := by
  refine x_enter mfX12_fault rfl (Nat.le_of_ble_eq_true rfl) (fun _ => ?_)
  refine y_aln (i := 0) dX12_fault_0 at91.ne0 rfl rfl ?_
  refine y_ic dX12_fault_1 ⟨by decide, by decide⟩ ?_
  refine y_puti (z := 0) dX12_fault_2 frX12_184 cfX12 at91 rfl rfl rfl ?_
  refine y_aln (i := 0) dX12_fault_5 at91.ne0 rfl rfl ?_
  refine y_geti (z := 19) dX12_fault_6 frX12_47 cfX12 at91 rfl rfl ?_
  refine x_iret dX12_fault_9 rfl ?_
  exact ⟨rfl, rfl, by rw [uI_eq, u1_ne (by decide)]⟩
theorem c_X12_has {p s : Int} (hW : WP P) (hT : MT I T) (hF : WF T) : Cv G mX12_has (d + 2) 0 0 [.inr (.inl 91), .inl p, .inl s] NO I P (qI NO (fun r I' P' => P' = P ∧ I' = uI I 91 0 (aif (okPS T p s) (I 98 (8 * p + s))).1 ∧ r = (aif (okPS T p s) (I 98 (8 * p + s))).2)) := by
  have hT0 : MT (uI I 91 0 0) T := hT.uf (by decide)
  have f1 := hF.1
  have f2 := hF.2.1
  refine x_enter mfX12_has rfl (Nat.le_of_ble_eq_true rfl) (fun _ => ?_)
  have hN : ∀ K : Mem, K = uI (uI I 91 0 0) 91 0 1 → ¬ okPS T p s → V G mX12_has (d + 2) 0 0 35 [none, none, none] [] NO K P (qI NO (fun r I' P' => P' = P ∧ I' = uI I 91 0 (aif (okPS T p s) (I 98 (8 * p + s))).1 ∧ r = (aif (okPS T p s) (I 98 (8 * p + s))).2)) := fun K hK hno => by
    refine y_ic dX12_has_35 ⟨by decide, by decide⟩ ?_
    refine x_iret dX12_has_36 rfl ?_
    exact fin_0 hK hno
  refine y_aln (i := 0) dX12_has_0 at91.ne0 rfl rfl ?_
  refine y_ic dX12_has_1 ⟨by decide, by decide⟩ ?_
  refine y_puti (z := 0) dX12_has_2 frX12_184 cfX12 at91 rfl rfl rfl ?_
  refine y_aln (i := 0) dX12_has_5 at91.ne0 rfl rfl ?_
  refine x_iload_n (i := 1) dX12_has_6 rfl rfl ?_
  refine x_callVI (c_X12_isPerson hW hT0 z_0) dX12_has_7 lkX12_362 mfX12_isPerson cfX12 at91 rfl rfl rfl rfl (Nat.le_of_ble_eq_true rfl) (fun r7 I7 P7 hr7 hf7 => ?_)
  obtain ⟨rfl, hr7⟩ := hf7
  refine x_if_eq (tgt := 35) dX12_has_10 rfl (fun h10 => ?_) (fun h10 => ?_)
  · obtain ⟨-, no, hI7⟩ := hr7.resolve_left (fun q => by have := q.1; omega)
    refine x_keep [0, 0, 0] ?_
    first | exact hN _ hI7 (fun q => no q.1) | exact hN _ hI15 (fun q => no q.2)
  · obtain ⟨-, op, hI7⟩ := hr7.resolve_right (fun q => by have := q.1; omega)
    rw [hI7]
    refine y_aln (i := 0) dX12_has_13 at91.ne0 rfl rfl ?_
    refine x_iload_n (i := 2) dX12_has_14 rfl rfl ?_
    refine x_callVI (c_X12_isSort hW hT0 z_0) dX12_has_15 lkX12_365 mfX12_isSort cfX12 at91 rfl rfl rfl rfl (Nat.le_of_ble_eq_true rfl) (fun r15 I15 P15 hr15 hf15 => ?_)
    obtain ⟨rfl, hr15⟩ := hf15
    refine x_if_eq (tgt := 35) dX12_has_18 rfl (fun h18 => ?_) (fun h18 => ?_)
    · obtain ⟨-, no, hI15⟩ := hr15.resolve_left (fun q => by have := q.1; omega)
      refine x_keep [0, 0, 0] ?_
      first | exact hN _ hI7 (fun q => no q.1) | exact hN _ hI15 (fun q => no q.2)
    · obtain ⟨-, os, hI15⟩ := hr15.resolve_right (fun q => by have := q.1; omega)
      rw [hI15]
      refine y_aln (i := 0) dX12_has_21 at91.ne0 rfl rfl ?_
      refine y_getp (z := 14) (v := 98) dX12_has_22 frX12_38 cfX12 at91 rfl rfl (wp (v := 98) hW rfl rfl (by decide)) ?_
      refine y_bi dX12_has_25 ⟨by decide, by decide⟩ ?_
      refine x_iload_n (i := 1) dX12_has_27 rfl rfl ?_
      refine x_imul dX12_has_28 ⟨by omega, by omega⟩ ?_
      refine x_iload_n (i := 2) dX12_has_29 rfl rfl ?_
      refine x_iadd dX12_has_30 ⟨by omega, by omega⟩ ?_
      refine x_iald dX12_has_31 ar98 ⟨by omega, by omega⟩ ?_
      refine x_goto (tgt := 36) dX12_has_32 rfl ?_
      refine x_iret dX12_has_36 rfl ?_
      exact fin_1 ⟨op, os⟩ (by rw [uI_ne (by decide)])
theorem c_X12_likes {p s : Int} (hW : WP P) (hT : MT I T) (hF : WF T) : Cv G mX12_likes (d + 2) 0 0 [.inr (.inl 91), .inl p, .inl s] NO I P (qI NO (fun r I' P' => P' = P ∧ I' = uI I 91 0 (aif (okPS T p s) (T 1 (8 * p + s))).1 ∧ r = (aif (okPS T p s) (T 1 (8 * p + s))).2)) := by
  have hT0 : MT (uI I 91 0 0) T := hT.uf (by decide)
  have f1 := hF.1
  have f2 := hF.2.1
  refine x_enter mfX12_likes rfl (Nat.le_of_ble_eq_true rfl) (fun _ => ?_)
  have hN : ∀ K : Mem, K = uI (uI I 91 0 0) 91 0 1 → ¬ okPS T p s → V G mX12_likes (d + 2) 0 0 35 [none, none, none] [] NO K P (qI NO (fun r I' P' => P' = P ∧ I' = uI I 91 0 (aif (okPS T p s) (T 1 (8 * p + s))).1 ∧ r = (aif (okPS T p s) (T 1 (8 * p + s))).2)) := fun K hK hno => by
    refine y_ic dX12_likes_35 ⟨by decide, by decide⟩ ?_
    refine x_iret dX12_likes_36 rfl ?_
    exact fin_0 hK hno
  refine y_aln (i := 0) dX12_likes_0 at91.ne0 rfl rfl ?_
  refine y_ic dX12_likes_1 ⟨by decide, by decide⟩ ?_
  refine y_puti (z := 0) dX12_likes_2 frX12_184 cfX12 at91 rfl rfl rfl ?_
  refine y_aln (i := 0) dX12_likes_5 at91.ne0 rfl rfl ?_
  refine x_iload_n (i := 1) dX12_likes_6 rfl rfl ?_
  refine x_callVI (c_X12_isPerson hW hT0 z_0) dX12_likes_7 lkX12_362 mfX12_isPerson cfX12 at91 rfl rfl rfl rfl (Nat.le_of_ble_eq_true rfl) (fun r7 I7 P7 hr7 hf7 => ?_)
  obtain ⟨rfl, hr7⟩ := hf7
  refine x_if_eq (tgt := 35) dX12_likes_10 rfl (fun h10 => ?_) (fun h10 => ?_)
  · obtain ⟨-, no, hI7⟩ := hr7.resolve_left (fun q => by have := q.1; omega)
    refine x_keep [0, 0, 0] ?_
    first | exact hN _ hI7 (fun q => no q.1) | exact hN _ hI15 (fun q => no q.2)
  · obtain ⟨-, op, hI7⟩ := hr7.resolve_right (fun q => by have := q.1; omega)
    rw [hI7]
    refine y_aln (i := 0) dX12_likes_13 at91.ne0 rfl rfl ?_
    refine x_iload_n (i := 2) dX12_likes_14 rfl rfl ?_
    refine x_callVI (c_X12_isSort hW hT0 z_0) dX12_likes_15 lkX12_365 mfX12_isSort cfX12 at91 rfl rfl rfl rfl (Nat.le_of_ble_eq_true rfl) (fun r15 I15 P15 hr15 hf15 => ?_)
    obtain ⟨rfl, hr15⟩ := hf15
    refine x_if_eq (tgt := 35) dX12_likes_18 rfl (fun h18 => ?_) (fun h18 => ?_)
    · obtain ⟨-, no, hI15⟩ := hr15.resolve_left (fun q => by have := q.1; omega)
      refine x_keep [0, 0, 0] ?_
      first | exact hN _ hI7 (fun q => no q.1) | exact hN _ hI15 (fun q => no q.2)
    · obtain ⟨-, os, hI15⟩ := hr15.resolve_right (fun q => by have := q.1; omega)
      rw [hI15]
      refine y_aln (i := 0) dX12_likes_21 at91.ne0 rfl rfl ?_
      refine y_getp (z := 8) (v := 92) dX12_likes_22 frX12_19 cfX12 at91 rfl rfl (wp (v := 92) hW rfl rfl (by decide)) ?_
      refine y_bi dX12_likes_25 ⟨by decide, by decide⟩ ?_
      refine x_iload_n (i := 1) dX12_likes_27 rfl rfl ?_
      refine x_imul dX12_likes_28 ⟨by omega, by omega⟩ ?_
      refine x_iload_n (i := 2) dX12_likes_29 rfl rfl ?_
      refine x_iadd dX12_likes_30 ⟨by omega, by omega⟩ ?_
      refine x_iald dX12_likes_31 ar92 ⟨by omega, by omega⟩ ?_
      refine x_goto (tgt := 36) dX12_likes_32 rfl ?_
      refine x_iret dX12_likes_36 rfl ?_
      exact fin_1 ⟨op, os⟩ (by rw [hT0.2.1])
theorem c_X12_worth {p : Int} (hW : WP P) (hT : MT I T) (hF : WF T) (hr : RW T (I 98)) : Cv G mX12_worth (d + 2) 0 0 [.inr (.inl 91), .inl p] NO I P (qI NO (fun r I' P' => P' = P ∧ I' = uI I 91 0 (aif (p = -1 ∨ (0 ≤ p ∧ p < T 0 1)) (if p = -1 then worthS T (I 98) else bagS T (I 98) p)).1 ∧ r = (aif (p = -1 ∨ (0 ≤ p ∧ p < T 0 1)) (if p = -1 then worthS T (I 98) else bagS T (I 98) p)).2)) := by
  have hT0 : MT (uI I 91 0 0) T := hT.uf (by decide)
  have e98 : uI I 91 0 0 98 = I 98 := uI_ne (by decide)
  refine x_enter mfX12_worth rfl (Nat.le_of_ble_eq_true rfl) (fun _ => ?_)
  refine y_aln (i := 0) dX12_worth_0 at91.ne0 rfl rfl ?_
  refine y_ic dX12_worth_1 ⟨by decide, by decide⟩ ?_
  refine y_puti (z := 0) dX12_worth_2 frX12_184 cfX12 at91 rfl rfl rfl ?_
  refine x_iload_n (i := 1) dX12_worth_5 rfl rfl ?_
  refine y_ic dX12_worth_6 ⟨by decide, by decide⟩ ?_
  refine x_icmp_ne (tgt := 19) dX12_worth_7 rfl (fun h7 => ?_) (fun h7 => ?_)
  · refine y_aln (i := 0) dX12_worth_19 at91.ne0 rfl rfl ?_
    refine x_iload_n (i := 1) dX12_worth_20 rfl rfl ?_
    refine x_callVI (c_X12_isPerson hW hT0 z_0) dX12_worth_21 lkX12_362 mfX12_isPerson cfX12 at91 rfl rfl rfl rfl (Nat.le_of_ble_eq_true rfl) (fun r21 I21 P21 hr21 hf21 => ?_)
    obtain ⟨rfl, hr21⟩ := hf21
    refine x_if_eq (tgt := 39) dX12_worth_24 rfl (fun h24 => ?_) (fun h24 => ?_)
    · obtain ⟨-, no, hI21⟩ := hr21.resolve_left (fun q => by have := q.1; omega)
      refine y_ic dX12_worth_39 ⟨by decide, by decide⟩ ?_
      refine x_iret dX12_worth_40 rfl ?_
      first | exact fin_1 (Or.inr op) (by rw [if_neg h7, e98]) | exact fin_0 hI21 (fun q => q.elim h7 no)
    · obtain ⟨-, op, hI21⟩ := hr21.resolve_right (fun q => by have := q.1; omega)
      rw [hI21]
      refine y_aln (i := 0) dX12_worth_27 at91.ne0 rfl rfl ?_
      refine y_aln (i := 0) dX12_worth_28 at91.ne0 rfl rfl ?_
      refine y_getp (z := 14) (v := 98) dX12_worth_29 frX12_38 cfX12 at91 rfl rfl (wp (v := 98) hW rfl rfl (by decide)) ?_
      refine x_iload_n (i := 1) dX12_worth_32 rfl rfl ?_
      refine x_callVI (c_X12_bagOf hW hT0 hF ar98 (by rw [e98]; exact hr.rc) op) dX12_worth_33 lkX12_351 mfX12_bagOf cfX12 at91 rfl rfl rfl rfl (Nat.le_of_ble_eq_true rfl) (fun r33 I33 P33 hr33 hf33 => ?_)
      obtain ⟨i33, p33, q33⟩ := hf33
      rw [i33, p33, q33]
      refine x_goto (tgt := 40) dX12_worth_36 rfl ?_
      refine x_iret dX12_worth_40 rfl ?_
      first | exact fin_1 (Or.inr op) (by rw [if_neg h7, e98]) | exact fin_0 hI21 (fun q => q.elim h7 no)
  · refine y_aln (i := 0) dX12_worth_10 at91.ne0 rfl rfl ?_
    refine y_aln (i := 0) dX12_worth_11 at91.ne0 rfl rfl ?_
    refine y_getp (z := 14) (v := 98) dX12_worth_12 frX12_38 cfX12 at91 rfl rfl (wp (v := 98) hW rfl rfl (by decide)) ?_
    refine x_callVI (c_X12_allWorth hW hT0 hF ar98 (by rw [e98]; exact hr.rc)) dX12_worth_15 lkX12_368 mfX12_allWorth cfX12 at91 rfl rfl rfl rfl (Nat.le_of_ble_eq_true rfl) (fun r15 I15 P15 hr15 hf15 => ?_)
    obtain ⟨i15, p15, q15⟩ := hf15
    rw [i15, p15, q15]
    refine x_iret dX12_worth_18 rfl ?_
    exact fin_1 (Or.inl h7) (by rw [if_pos h7, e98])
theorem c_X12_left {s : Int} (hW : WP P) (hT : MT I T) (hF : WF T) (hr : RW T (I 98)) : Cv G mX12_left (d + 2) 0 0 [.inr (.inl 91), .inl s] NO I P (qI NO (fun r I' P' => P' = P ∧ I' = uI I 91 0 (aif (0 ≤ s ∧ s < T 0 2) (leftS T (I 98) s)).1 ∧ r = (aif (0 ≤ s ∧ s < T 0 2) (leftS T (I 98) s)).2)) := by
  have hT0 : MT (uI I 91 0 0) T := hT.uf (by decide)
  have e98 : uI I 91 0 0 98 = I 98 := uI_ne (by decide)
  have f2 := hF.2.1
  refine x_enter mfX12_left rfl (Nat.le_of_ble_eq_true rfl) (fun _ => ?_)
  refine y_aln (i := 0) dX12_left_0 at91.ne0 rfl rfl ?_
  refine y_ic dX12_left_1 ⟨by decide, by decide⟩ ?_
  refine y_puti (z := 0) dX12_left_2 frX12_184 cfX12 at91 rfl rfl rfl ?_
  refine y_aln (i := 0) dX12_left_5 at91.ne0 rfl rfl ?_
  refine x_iload_n (i := 1) dX12_left_6 rfl rfl ?_
  refine x_callVI (c_X12_isSort hW hT0 z_0) dX12_left_7 lkX12_365 mfX12_isSort cfX12 at91 rfl rfl rfl rfl (Nat.le_of_ble_eq_true rfl) (fun r7 I7 P7 hr7 hf7 => ?_)
  obtain ⟨rfl, hr7⟩ := hf7
  refine x_if_eq (tgt := 25) dX12_left_10 rfl (fun h10 => ?_) (fun h10 => ?_)
  · obtain ⟨-, no, hI7⟩ := hr7.resolve_left (fun q => by have := q.1; omega)
    refine y_ic dX12_left_25 ⟨by decide, by decide⟩ ?_
    refine x_iret dX12_left_26 rfl ?_
    first | exact fin_1 op (by rw [e98]) | exact fin_0 hI7 no
  · obtain ⟨-, op, hI7⟩ := hr7.resolve_right (fun q => by have := q.1; omega)
    rw [hI7]
    refine y_aln (i := 0) dX12_left_13 at91.ne0 rfl rfl ?_
    refine y_aln (i := 0) dX12_left_14 at91.ne0 rfl rfl ?_
    refine y_getp (z := 14) (v := 98) dX12_left_15 frX12_38 cfX12 at91 rfl rfl (wp (v := 98) hW rfl rfl (by decide)) ?_
    refine x_iload_n (i := 1) dX12_left_18 rfl rfl ?_
    refine x_callVI (c_X12_leftOf hW hT0 hF ar98 (by rw [e98]; exact hr.rc) (by omega)) dX12_left_19 lkX12_347 mfX12_leftOf cfX12 at91 rfl rfl rfl rfl (Nat.le_of_ble_eq_true rfl) (fun r19 I19 P19 hr19 hf19 => ?_)
    obtain ⟨i19, p19, q19⟩ := hf19
    rw [i19, p19, q19]
    refine x_goto (tgt := 26) dX12_left_22 rfl ?_
    refine x_iret dX12_left_26 rfl ?_
    first | exact fin_1 op (by rw [e98]) | exact fin_0 hI7 no
theorem c_X12_meeting {m w : Int} (hW : WP P) (hT : MT I T) (hF : WF T) : Cv G mX12_meeting (d + 2) 0 0 [.inr (.inl 91), .inl m, .inl w] NO I P (qI NO (fun r I' P' => P' = P ∧ I' = uI I 91 0 (aif ((0 ≤ m ∧ m < T 0 6) ∧ 0 ≤ w ∧ w ≤ 1) (T 6 (2 * m + w))).1 ∧ r = (aif ((0 ≤ m ∧ m < T 0 6) ∧ 0 ≤ w ∧ w ≤ 1) (T 6 (2 * m + w))).2)) := by
  have hT0 : MT (uI I 91 0 0) T := hT.uf (by decide)
  have e6 : uI I 91 0 0 91 6 = T 0 6 := hT0.1 6 (by decide) (by decide)
  have f6 := hF.2.2.2.2.2.1
  refine x_enter mfX12_meeting rfl (Nat.le_of_ble_eq_true rfl) (fun _ => ?_)
  refine y_aln (i := 0) dX12_meeting_0 at91.ne0 rfl rfl ?_
  refine y_ic dX12_meeting_1 ⟨by decide, by decide⟩ ?_
  refine y_puti (z := 0) dX12_meeting_2 frX12_184 cfX12 at91 rfl rfl rfl ?_
  refine y_aln (i := 0) dX12_meeting_5 at91.ne0 rfl rfl ?_
  refine x_iload_n (i := 1) dX12_meeting_6 rfl rfl ?_
  refine x_if_lt (tgt := 31) dX12_meeting_7 rfl (fun h7 => ?_) (fun h7 => ?_)
  · refine y_ic dX12_meeting_31 ⟨by decide, by decide⟩ ?_
    refine y_ic dX12_meeting_32 ⟨by decide, by decide⟩ ?_
    refine x_callVI (c_X12_right2 hW (by first | rw [uI_eq, u1_eq] | assumption) (by omega) (by decide)) dX12_meeting_33 lkX12_309 mfX12_right cfX12 at91 rfl rfl rfl rfl (Nat.le_of_ble_eq_true rfl) (fun r33 I33 P33 hr33 hf33 => ?_)
    obtain ⟨rfl, e33, i33⟩ := hf33
    rw [i33]
    refine x_if_eq (tgt := 52) dX12_meeting_36 rfl (fun h36 => ?_) (fun h36 => ?_)
    · rw [ifn_0 (by omega)]
      refine y_ic dX12_meeting_52 ⟨by decide, by decide⟩ ?_
      refine x_iret dX12_meeting_53 rfl ?_
      first | exact fin_1 (by omega) (by rw [hT0.2.2.2.2.2.2]) | exact fin_0 rfl (by omega)
    · rw [ifn_1 (by omega)]
      refine y_aln (i := 0) dX12_meeting_39 at91.ne0 rfl rfl ?_
      refine y_getp (z := 13) (v := 97) dX12_meeting_40 frX12_35 cfX12 at91 rfl rfl (wp (v := 97) hW rfl rfl (by decide)) ?_
      refine y_ic dX12_meeting_43 ⟨by decide, by decide⟩ ?_
      refine x_iload_n (i := 1) dX12_meeting_44 rfl rfl ?_
      refine x_imul dX12_meeting_45 ⟨by omega, by omega⟩ ?_
      refine x_iload_n (i := 2) dX12_meeting_46 rfl rfl ?_
      refine x_iadd dX12_meeting_47 ⟨by omega, by omega⟩ ?_
      refine x_iald dX12_meeting_48 ar97 ⟨by omega, by omega⟩ ?_
      refine x_goto (tgt := 53) dX12_meeting_49 rfl ?_
      refine x_iret dX12_meeting_53 rfl ?_
      first | exact fin_1 (by omega) (by rw [hT0.2.2.2.2.2.2]) | exact fin_0 rfl (by omega)
  · refine x_iload_n (i := 1) dX12_meeting_10 rfl rfl ?_
    refine y_aln (i := 0) dX12_meeting_11 at91.ne0 rfl rfl ?_
    refine y_geti (z := 6) dX12_meeting_12 frX12_322 cfX12 at91 rfl rfl ?_
    refine x_icmp_ge (tgt := 31) dX12_meeting_15 rfl (fun h15 => ?_) (fun h15 => ?_)
    · refine y_ic dX12_meeting_31 ⟨by decide, by decide⟩ ?_
      refine y_ic dX12_meeting_32 ⟨by decide, by decide⟩ ?_
      refine x_callVI (c_X12_right2 hW (by first | rw [uI_eq, u1_eq] | assumption) (by omega) (by decide)) dX12_meeting_33 lkX12_309 mfX12_right cfX12 at91 rfl rfl rfl rfl (Nat.le_of_ble_eq_true rfl) (fun r33 I33 P33 hr33 hf33 => ?_)
      obtain ⟨rfl, e33, i33⟩ := hf33
      rw [i33]
      refine x_if_eq (tgt := 52) dX12_meeting_36 rfl (fun h36 => ?_) (fun h36 => ?_)
      · rw [ifn_0 (by omega)]
        refine y_ic dX12_meeting_52 ⟨by decide, by decide⟩ ?_
        refine x_iret dX12_meeting_53 rfl ?_
        first | exact fin_1 (by omega) (by rw [hT0.2.2.2.2.2.2]) | exact fin_0 rfl (by omega)
      · rw [ifn_1 (by omega)]
        refine y_aln (i := 0) dX12_meeting_39 at91.ne0 rfl rfl ?_
        refine y_getp (z := 13) (v := 97) dX12_meeting_40 frX12_35 cfX12 at91 rfl rfl (wp (v := 97) hW rfl rfl (by decide)) ?_
        refine y_ic dX12_meeting_43 ⟨by decide, by decide⟩ ?_
        refine x_iload_n (i := 1) dX12_meeting_44 rfl rfl ?_
        refine x_imul dX12_meeting_45 ⟨by omega, by omega⟩ ?_
        refine x_iload_n (i := 2) dX12_meeting_46 rfl rfl ?_
        refine x_iadd dX12_meeting_47 ⟨by omega, by omega⟩ ?_
        refine x_iald dX12_meeting_48 ar97 ⟨by omega, by omega⟩ ?_
        refine x_goto (tgt := 53) dX12_meeting_49 rfl ?_
        refine x_iret dX12_meeting_53 rfl ?_
        first | exact fin_1 (by omega) (by rw [hT0.2.2.2.2.2.2]) | exact fin_0 rfl (by omega)
    · refine x_iload_n (i := 2) dX12_meeting_18 rfl rfl ?_
      refine x_if_eq (tgt := 27) dX12_meeting_19 rfl (fun h19 => ?_) (fun h19 => ?_)
      · refine y_ic dX12_meeting_27 ⟨by decide, by decide⟩ ?_
        refine x_goto (tgt := 32) dX12_meeting_28 rfl ?_
        refine y_ic dX12_meeting_32 ⟨by decide, by decide⟩ ?_
        refine x_callVI (c_X12_right2 hW (by first | rw [uI_eq, u1_eq] | assumption) (by omega) (by decide)) dX12_meeting_33 lkX12_309 mfX12_right cfX12 at91 rfl rfl rfl rfl (Nat.le_of_ble_eq_true rfl) (fun r33 I33 P33 hr33 hf33 => ?_)
        obtain ⟨rfl, e33, i33⟩ := hf33
        rw [i33]
        refine x_if_eq (tgt := 52) dX12_meeting_36 rfl (fun h36 => ?_) (fun h36 => ?_)
        · rw [ifn_0 (by omega)]
          refine y_ic dX12_meeting_52 ⟨by decide, by decide⟩ ?_
          refine x_iret dX12_meeting_53 rfl ?_
          first | exact fin_1 (by omega) (by rw [hT0.2.2.2.2.2.2]) | exact fin_0 rfl (by omega)
        · rw [ifn_1 (by omega)]
          refine y_aln (i := 0) dX12_meeting_39 at91.ne0 rfl rfl ?_
          refine y_getp (z := 13) (v := 97) dX12_meeting_40 frX12_35 cfX12 at91 rfl rfl (wp (v := 97) hW rfl rfl (by decide)) ?_
          refine y_ic dX12_meeting_43 ⟨by decide, by decide⟩ ?_
          refine x_iload_n (i := 1) dX12_meeting_44 rfl rfl ?_
          refine x_imul dX12_meeting_45 ⟨by omega, by omega⟩ ?_
          refine x_iload_n (i := 2) dX12_meeting_46 rfl rfl ?_
          refine x_iadd dX12_meeting_47 ⟨by omega, by omega⟩ ?_
          refine x_iald dX12_meeting_48 ar97 ⟨by omega, by omega⟩ ?_
          refine x_goto (tgt := 53) dX12_meeting_49 rfl ?_
          refine x_iret dX12_meeting_53 rfl ?_
          first | exact fin_1 (by omega) (by rw [hT0.2.2.2.2.2.2]) | exact fin_0 rfl (by omega)
      · refine x_iload_n (i := 2) dX12_meeting_22 rfl rfl ?_
        refine y_ic dX12_meeting_23 ⟨by decide, by decide⟩ ?_
        refine x_icmp_ne (tgt := 31) dX12_meeting_24 rfl (fun h24 => ?_) (fun h24 => ?_)
        · refine y_ic dX12_meeting_31 ⟨by decide, by decide⟩ ?_
          refine y_ic dX12_meeting_32 ⟨by decide, by decide⟩ ?_
          refine x_callVI (c_X12_right2 hW (by first | rw [uI_eq, u1_eq] | assumption) (by omega) (by decide)) dX12_meeting_33 lkX12_309 mfX12_right cfX12 at91 rfl rfl rfl rfl (Nat.le_of_ble_eq_true rfl) (fun r33 I33 P33 hr33 hf33 => ?_)
          obtain ⟨rfl, e33, i33⟩ := hf33
          rw [i33]
          refine x_if_eq (tgt := 52) dX12_meeting_36 rfl (fun h36 => ?_) (fun h36 => ?_)
          · rw [ifn_0 (by omega)]
            refine y_ic dX12_meeting_52 ⟨by decide, by decide⟩ ?_
            refine x_iret dX12_meeting_53 rfl ?_
            first | exact fin_1 (by omega) (by rw [hT0.2.2.2.2.2.2]) | exact fin_0 rfl (by omega)
          · rw [ifn_1 (by omega)]
            refine y_aln (i := 0) dX12_meeting_39 at91.ne0 rfl rfl ?_
            refine y_getp (z := 13) (v := 97) dX12_meeting_40 frX12_35 cfX12 at91 rfl rfl (wp (v := 97) hW rfl rfl (by decide)) ?_
            refine y_ic dX12_meeting_43 ⟨by decide, by decide⟩ ?_
            refine x_iload_n (i := 1) dX12_meeting_44 rfl rfl ?_
            refine x_imul dX12_meeting_45 ⟨by omega, by omega⟩ ?_
            refine x_iload_n (i := 2) dX12_meeting_46 rfl rfl ?_
            refine x_iadd dX12_meeting_47 ⟨by omega, by omega⟩ ?_
            refine x_iald dX12_meeting_48 ar97 ⟨by omega, by omega⟩ ?_
            refine x_goto (tgt := 53) dX12_meeting_49 rfl ?_
            refine x_iret dX12_meeting_53 rfl ?_
            first | exact fin_1 (by omega) (by rw [hT0.2.2.2.2.2.2]) | exact fin_0 rfl (by omega)
        · refine y_ic dX12_meeting_27 ⟨by decide, by decide⟩ ?_
          refine x_goto (tgt := 32) dX12_meeting_28 rfl ?_
          refine y_ic dX12_meeting_32 ⟨by decide, by decide⟩ ?_
          refine x_callVI (c_X12_right2 hW (by first | rw [uI_eq, u1_eq] | assumption) (by omega) (by decide)) dX12_meeting_33 lkX12_309 mfX12_right cfX12 at91 rfl rfl rfl rfl (Nat.le_of_ble_eq_true rfl) (fun r33 I33 P33 hr33 hf33 => ?_)
          obtain ⟨rfl, e33, i33⟩ := hf33
          rw [i33]
          refine x_if_eq (tgt := 52) dX12_meeting_36 rfl (fun h36 => ?_) (fun h36 => ?_)
          · rw [ifn_0 (by omega)]
            refine y_ic dX12_meeting_52 ⟨by decide, by decide⟩ ?_
            refine x_iret dX12_meeting_53 rfl ?_
            first | exact fin_1 (by omega) (by rw [hT0.2.2.2.2.2.2]) | exact fin_0 rfl (by omega)
          · rw [ifn_1 (by omega)]
            refine y_aln (i := 0) dX12_meeting_39 at91.ne0 rfl rfl ?_
            refine y_getp (z := 13) (v := 97) dX12_meeting_40 frX12_35 cfX12 at91 rfl rfl (wp (v := 97) hW rfl rfl (by decide)) ?_
            refine y_ic dX12_meeting_43 ⟨by decide, by decide⟩ ?_
            refine x_iload_n (i := 1) dX12_meeting_44 rfl rfl ?_
            refine x_imul dX12_meeting_45 ⟨by omega, by omega⟩ ?_
            refine x_iload_n (i := 2) dX12_meeting_46 rfl rfl ?_
            refine x_iadd dX12_meeting_47 ⟨by omega, by omega⟩ ?_
            refine x_iald dX12_meeting_48 ar97 ⟨by omega, by omega⟩ ?_
            refine x_goto (tgt := 53) dX12_meeting_49 rfl ?_
            refine x_iret dX12_meeting_53 rfl ?_
            first | exact fin_1 (by omega) (by rw [hT0.2.2.2.2.2.2]) | exact fin_0 rfl (by omega)
theorem c_X12_step {i w : Int} (hW : WP P) (h61 : I 91 61 ≤ 1000) : Cv G mX12_step (d + 2) 0 0 [.inr (.inl 91), .inl i, .inl w] NO I P (qI NO (fun r I' P' => P' = P ∧ I' = uI I 91 0 (aif ((0 ≤ i ∧ i < I 91 61) ∧ 0 ≤ w ∧ w ≤ 3) (stepC I w i)).1 ∧ r = (aif ((0 ≤ i ∧ i < I 91 61) ∧ 0 ≤ w ∧ w ≤ 3) (stepC I w i)).2)) := by
  have e61 : uI I 91 0 0 91 61 = I 91 61 := by rw [uI_eq, u1_ne (by decide)]
  refine x_enter mfX12_step rfl (Nat.le_of_ble_eq_true rfl) (fun _ => ?_)
  refine y_aln (i := 0) dX12_step_0 at91.ne0 rfl rfl ?_
  refine y_ic dX12_step_1 ⟨by decide, by decide⟩ ?_
  refine y_puti (z := 0) dX12_step_2 frX12_184 cfX12 at91 rfl rfl rfl ?_
  refine y_aln (i := 0) dX12_step_5 at91.ne0 rfl rfl ?_
  refine x_iload_n (i := 1) dX12_step_6 rfl rfl ?_
  refine x_if_lt (tgt := 31) dX12_step_7 rfl (fun h7 => ?_) (fun h7 => ?_)
  · refine y_ic dX12_step_31 ⟨by decide, by decide⟩ ?_
    refine y_ic dX12_step_32 ⟨by decide, by decide⟩ ?_
    refine x_callVI (c_X12_right2 hW (by first | rw [uI_eq, u1_eq] | assumption) (by omega) (by decide)) dX12_step_33 lkX12_309 mfX12_right cfX12 at91 rfl rfl rfl rfl (Nat.le_of_ble_eq_true rfl) (fun r33 I33 P33 hr33 hf33 => ?_)
    obtain ⟨rfl, e33, i33⟩ := hf33
    rw [i33]
    refine x_if_ne (tgt := 41) dX12_step_36 rfl (fun h36 => ?_) (fun h36 => ?_)
    · rw [ifn_1 (by omega)]
      refine x_iload_n (i := 2) dX12_step_41 rfl rfl ?_
      refine x_if_ne (tgt := 54) dX12_step_42 rfl (fun h42 => ?_) (fun h42 => ?_)
      · refine x_iload_n (i := 2) dX12_step_54 rfl rfl ?_
        refine y_ic dX12_step_55 ⟨by decide, by decide⟩ ?_
        refine x_icmp_ne (tgt := 68) dX12_step_56 rfl (fun h56 => ?_) (fun h56 => ?_)
        · refine x_iload_n (i := 2) dX12_step_68 rfl rfl ?_
          refine y_ic dX12_step_69 ⟨by decide, by decide⟩ ?_
          refine x_icmp_ne (tgt := 82) dX12_step_70 rfl (fun h70 => ?_) (fun h70 => ?_)
          · refine y_aln (i := 0) dX12_step_82 at91.ne0 rfl rfl ?_
            refine y_getp (z := 65) (v := 124) dX12_step_83 frX12_121 cfX12 at91 rfl rfl (wp (v := 124) hW rfl rfl (by decide)) ?_
            refine x_iload_n (i := 1) dX12_step_86 rfl rfl ?_
            refine x_iald dX12_step_87 ar124 ⟨by omega, by omega⟩ ?_
            refine x_iret dX12_step_88 rfl ?_
            refine fin_1 (by omega) ?_
            rw [uI_ne (by decide)]
            unfold stepC
            first | (rw [if_pos (by omega)]; done) | (rw [if_neg (by omega), if_pos (by omega)]; done) | (rw [if_neg (by omega), if_neg (by omega), if_pos (by omega)]; done) | (rw [if_neg (by omega), if_neg (by omega), if_neg (by omega)]; done)
          · refine y_aln (i := 0) dX12_step_73 at91.ne0 rfl rfl ?_
            refine y_getp (z := 64) (v := 123) dX12_step_74 frX12_118 cfX12 at91 rfl rfl (wp (v := 123) hW rfl rfl (by decide)) ?_
            refine x_iload_n (i := 1) dX12_step_77 rfl rfl ?_
            refine x_iald dX12_step_78 ar123 ⟨by omega, by omega⟩ ?_
            refine x_goto (tgt := 88) dX12_step_79 rfl ?_
            refine x_iret dX12_step_88 rfl ?_
            refine fin_1 (by omega) ?_
            rw [uI_ne (by decide)]
            unfold stepC
            first | (rw [if_pos (by omega)]; done) | (rw [if_neg (by omega), if_pos (by omega)]; done) | (rw [if_neg (by omega), if_neg (by omega), if_pos (by omega)]; done) | (rw [if_neg (by omega), if_neg (by omega), if_neg (by omega)]; done)
        · refine y_aln (i := 0) dX12_step_59 at91.ne0 rfl rfl ?_
          refine y_getp (z := 63) (v := 122) dX12_step_60 frX12_115 cfX12 at91 rfl rfl (wp (v := 122) hW rfl rfl (by decide)) ?_
          refine x_iload_n (i := 1) dX12_step_63 rfl rfl ?_
          refine x_iald dX12_step_64 ar122 ⟨by omega, by omega⟩ ?_
          refine x_goto (tgt := 88) dX12_step_65 rfl ?_
          refine x_iret dX12_step_88 rfl ?_
          refine fin_1 (by omega) ?_
          rw [uI_ne (by decide)]
          unfold stepC
          first | (rw [if_pos (by omega)]; done) | (rw [if_neg (by omega), if_pos (by omega)]; done) | (rw [if_neg (by omega), if_neg (by omega), if_pos (by omega)]; done) | (rw [if_neg (by omega), if_neg (by omega), if_neg (by omega)]; done)
      · refine y_aln (i := 0) dX12_step_45 at91.ne0 rfl rfl ?_
        refine y_getp (z := 62) (v := 121) dX12_step_46 frX12_112 cfX12 at91 rfl rfl (wp (v := 121) hW rfl rfl (by decide)) ?_
        refine x_iload_n (i := 1) dX12_step_49 rfl rfl ?_
        refine x_iald dX12_step_50 ar121 ⟨by omega, by omega⟩ ?_
        refine x_goto (tgt := 88) dX12_step_51 rfl ?_
        refine x_iret dX12_step_88 rfl ?_
        refine fin_1 (by omega) ?_
        rw [uI_ne (by decide)]
        unfold stepC
        first | (rw [if_pos (by omega)]; done) | (rw [if_neg (by omega), if_pos (by omega)]; done) | (rw [if_neg (by omega), if_neg (by omega), if_pos (by omega)]; done) | (rw [if_neg (by omega), if_neg (by omega), if_neg (by omega)]; done)
    · rw [ifn_0 (by omega)]
      refine y_ic dX12_step_39 ⟨by decide, by decide⟩ ?_
      refine x_iret dX12_step_40 rfl ?_
      exact fin_0 rfl (by omega)
  · refine x_iload_n (i := 1) dX12_step_10 rfl rfl ?_
    refine y_aln (i := 0) dX12_step_11 at91.ne0 rfl rfl ?_
    refine y_geti (z := 61) dX12_step_12 frX12_332 cfX12 at91 rfl rfl ?_
    refine x_icmp_ge (tgt := 31) dX12_step_15 rfl (fun h15 => ?_) (fun h15 => ?_)
    · refine y_ic dX12_step_31 ⟨by decide, by decide⟩ ?_
      refine y_ic dX12_step_32 ⟨by decide, by decide⟩ ?_
      refine x_callVI (c_X12_right2 hW (by first | rw [uI_eq, u1_eq] | assumption) (by omega) (by decide)) dX12_step_33 lkX12_309 mfX12_right cfX12 at91 rfl rfl rfl rfl (Nat.le_of_ble_eq_true rfl) (fun r33 I33 P33 hr33 hf33 => ?_)
      obtain ⟨rfl, e33, i33⟩ := hf33
      rw [i33]
      refine x_if_ne (tgt := 41) dX12_step_36 rfl (fun h36 => ?_) (fun h36 => ?_)
      · rw [ifn_1 (by omega)]
        refine x_iload_n (i := 2) dX12_step_41 rfl rfl ?_
        refine x_if_ne (tgt := 54) dX12_step_42 rfl (fun h42 => ?_) (fun h42 => ?_)
        · refine x_iload_n (i := 2) dX12_step_54 rfl rfl ?_
          refine y_ic dX12_step_55 ⟨by decide, by decide⟩ ?_
          refine x_icmp_ne (tgt := 68) dX12_step_56 rfl (fun h56 => ?_) (fun h56 => ?_)
          · refine x_iload_n (i := 2) dX12_step_68 rfl rfl ?_
            refine y_ic dX12_step_69 ⟨by decide, by decide⟩ ?_
            refine x_icmp_ne (tgt := 82) dX12_step_70 rfl (fun h70 => ?_) (fun h70 => ?_)
            · refine y_aln (i := 0) dX12_step_82 at91.ne0 rfl rfl ?_
              refine y_getp (z := 65) (v := 124) dX12_step_83 frX12_121 cfX12 at91 rfl rfl (wp (v := 124) hW rfl rfl (by decide)) ?_
              refine x_iload_n (i := 1) dX12_step_86 rfl rfl ?_
              refine x_iald dX12_step_87 ar124 ⟨by omega, by omega⟩ ?_
              refine x_iret dX12_step_88 rfl ?_
              refine fin_1 (by omega) ?_
              rw [uI_ne (by decide)]
              unfold stepC
              first | (rw [if_pos (by omega)]; done) | (rw [if_neg (by omega), if_pos (by omega)]; done) | (rw [if_neg (by omega), if_neg (by omega), if_pos (by omega)]; done) | (rw [if_neg (by omega), if_neg (by omega), if_neg (by omega)]; done)
            · refine y_aln (i := 0) dX12_step_73 at91.ne0 rfl rfl ?_
              refine y_getp (z := 64) (v := 123) dX12_step_74 frX12_118 cfX12 at91 rfl rfl (wp (v := 123) hW rfl rfl (by decide)) ?_
              refine x_iload_n (i := 1) dX12_step_77 rfl rfl ?_
              refine x_iald dX12_step_78 ar123 ⟨by omega, by omega⟩ ?_
              refine x_goto (tgt := 88) dX12_step_79 rfl ?_
              refine x_iret dX12_step_88 rfl ?_
              refine fin_1 (by omega) ?_
              rw [uI_ne (by decide)]
              unfold stepC
              first | (rw [if_pos (by omega)]; done) | (rw [if_neg (by omega), if_pos (by omega)]; done) | (rw [if_neg (by omega), if_neg (by omega), if_pos (by omega)]; done) | (rw [if_neg (by omega), if_neg (by omega), if_neg (by omega)]; done)
          · refine y_aln (i := 0) dX12_step_59 at91.ne0 rfl rfl ?_
            refine y_getp (z := 63) (v := 122) dX12_step_60 frX12_115 cfX12 at91 rfl rfl (wp (v := 122) hW rfl rfl (by decide)) ?_
            refine x_iload_n (i := 1) dX12_step_63 rfl rfl ?_
            refine x_iald dX12_step_64 ar122 ⟨by omega, by omega⟩ ?_
            refine x_goto (tgt := 88) dX12_step_65 rfl ?_
            refine x_iret dX12_step_88 rfl ?_
            refine fin_1 (by omega) ?_
            rw [uI_ne (by decide)]
            unfold stepC
            first | (rw [if_pos (by omega)]; done) | (rw [if_neg (by omega), if_pos (by omega)]; done) | (rw [if_neg (by omega), if_neg (by omega), if_pos (by omega)]; done) | (rw [if_neg (by omega), if_neg (by omega), if_neg (by omega)]; done)
        · refine y_aln (i := 0) dX12_step_45 at91.ne0 rfl rfl ?_
          refine y_getp (z := 62) (v := 121) dX12_step_46 frX12_112 cfX12 at91 rfl rfl (wp (v := 121) hW rfl rfl (by decide)) ?_
          refine x_iload_n (i := 1) dX12_step_49 rfl rfl ?_
          refine x_iald dX12_step_50 ar121 ⟨by omega, by omega⟩ ?_
          refine x_goto (tgt := 88) dX12_step_51 rfl ?_
          refine x_iret dX12_step_88 rfl ?_
          refine fin_1 (by omega) ?_
          rw [uI_ne (by decide)]
          unfold stepC
          first | (rw [if_pos (by omega)]; done) | (rw [if_neg (by omega), if_pos (by omega)]; done) | (rw [if_neg (by omega), if_neg (by omega), if_pos (by omega)]; done) | (rw [if_neg (by omega), if_neg (by omega), if_neg (by omega)]; done)
      · rw [ifn_0 (by omega)]
        refine y_ic dX12_step_39 ⟨by decide, by decide⟩ ?_
        refine x_iret dX12_step_40 rfl ?_
        exact fin_0 rfl (by omega)
    · refine x_iload_n (i := 2) dX12_step_18 rfl rfl ?_
      refine y_ic dX12_step_19 ⟨by decide, by decide⟩ ?_
      refine y_ic dX12_step_20 ⟨by decide, by decide⟩ ?_
      refine x_callSI (c_X12_within) dX12_step_21 lkX12_354 mfX12_within rfl rfl rfl (Nat.le_of_ble_eq_true rfl) (fun r21 I21 P21 hr21 hf21 => ?_)
      obtain ⟨i21, p21, q21⟩ := hf21
      rw [i21, p21]
      refine x_if_eq (tgt := 31) dX12_step_24 rfl (fun h24 => ?_) (fun h24 => ?_)
      · refine y_ic dX12_step_31 ⟨by decide, by decide⟩ ?_
        refine y_ic dX12_step_32 ⟨by decide, by decide⟩ ?_
        refine x_callVI (c_X12_right2 hW (by first | rw [uI_eq, u1_eq] | assumption) (by omega) (by decide)) dX12_step_33 lkX12_309 mfX12_right cfX12 at91 rfl rfl rfl rfl (Nat.le_of_ble_eq_true rfl) (fun r33 I33 P33 hr33 hf33 => ?_)
        obtain ⟨rfl, e33, i33⟩ := hf33
        rw [i33]
        refine x_if_ne (tgt := 41) dX12_step_36 rfl (fun h36 => ?_) (fun h36 => ?_)
        · rw [ifn_1 (by omega)]
          refine x_iload_n (i := 2) dX12_step_41 rfl rfl ?_
          refine x_if_ne (tgt := 54) dX12_step_42 rfl (fun h42 => ?_) (fun h42 => ?_)
          · refine x_iload_n (i := 2) dX12_step_54 rfl rfl ?_
            refine y_ic dX12_step_55 ⟨by decide, by decide⟩ ?_
            refine x_icmp_ne (tgt := 68) dX12_step_56 rfl (fun h56 => ?_) (fun h56 => ?_)
            · refine x_iload_n (i := 2) dX12_step_68 rfl rfl ?_
              refine y_ic dX12_step_69 ⟨by decide, by decide⟩ ?_
              refine x_icmp_ne (tgt := 82) dX12_step_70 rfl (fun h70 => ?_) (fun h70 => ?_)
              · refine y_aln (i := 0) dX12_step_82 at91.ne0 rfl rfl ?_
                refine y_getp (z := 65) (v := 124) dX12_step_83 frX12_121 cfX12 at91 rfl rfl (wp (v := 124) hW rfl rfl (by decide)) ?_
                refine x_iload_n (i := 1) dX12_step_86 rfl rfl ?_
                refine x_iald dX12_step_87 ar124 ⟨by omega, by omega⟩ ?_
                refine x_iret dX12_step_88 rfl ?_
                refine fin_1 (by omega) ?_
                rw [uI_ne (by decide)]
                unfold stepC
                first | (rw [if_pos (by omega)]; done) | (rw [if_neg (by omega), if_pos (by omega)]; done) | (rw [if_neg (by omega), if_neg (by omega), if_pos (by omega)]; done) | (rw [if_neg (by omega), if_neg (by omega), if_neg (by omega)]; done)
              · refine y_aln (i := 0) dX12_step_73 at91.ne0 rfl rfl ?_
                refine y_getp (z := 64) (v := 123) dX12_step_74 frX12_118 cfX12 at91 rfl rfl (wp (v := 123) hW rfl rfl (by decide)) ?_
                refine x_iload_n (i := 1) dX12_step_77 rfl rfl ?_
                refine x_iald dX12_step_78 ar123 ⟨by omega, by omega⟩ ?_
                refine x_goto (tgt := 88) dX12_step_79 rfl ?_
                refine x_iret dX12_step_88 rfl ?_
                refine fin_1 (by omega) ?_
                rw [uI_ne (by decide)]
                unfold stepC
                first | (rw [if_pos (by omega)]; done) | (rw [if_neg (by omega), if_pos (by omega)]; done) | (rw [if_neg (by omega), if_neg (by omega), if_pos (by omega)]; done) | (rw [if_neg (by omega), if_neg (by omega), if_neg (by omega)]; done)
            · refine y_aln (i := 0) dX12_step_59 at91.ne0 rfl rfl ?_
              refine y_getp (z := 63) (v := 122) dX12_step_60 frX12_115 cfX12 at91 rfl rfl (wp (v := 122) hW rfl rfl (by decide)) ?_
              refine x_iload_n (i := 1) dX12_step_63 rfl rfl ?_
              refine x_iald dX12_step_64 ar122 ⟨by omega, by omega⟩ ?_
              refine x_goto (tgt := 88) dX12_step_65 rfl ?_
              refine x_iret dX12_step_88 rfl ?_
              refine fin_1 (by omega) ?_
              rw [uI_ne (by decide)]
              unfold stepC
              first | (rw [if_pos (by omega)]; done) | (rw [if_neg (by omega), if_pos (by omega)]; done) | (rw [if_neg (by omega), if_neg (by omega), if_pos (by omega)]; done) | (rw [if_neg (by omega), if_neg (by omega), if_neg (by omega)]; done)
          · refine y_aln (i := 0) dX12_step_45 at91.ne0 rfl rfl ?_
            refine y_getp (z := 62) (v := 121) dX12_step_46 frX12_112 cfX12 at91 rfl rfl (wp (v := 121) hW rfl rfl (by decide)) ?_
            refine x_iload_n (i := 1) dX12_step_49 rfl rfl ?_
            refine x_iald dX12_step_50 ar121 ⟨by omega, by omega⟩ ?_
            refine x_goto (tgt := 88) dX12_step_51 rfl ?_
            refine x_iret dX12_step_88 rfl ?_
            refine fin_1 (by omega) ?_
            rw [uI_ne (by decide)]
            unfold stepC
            first | (rw [if_pos (by omega)]; done) | (rw [if_neg (by omega), if_pos (by omega)]; done) | (rw [if_neg (by omega), if_neg (by omega), if_pos (by omega)]; done) | (rw [if_neg (by omega), if_neg (by omega), if_neg (by omega)]; done)
        · rw [ifn_0 (by omega)]
          refine y_ic dX12_step_39 ⟨by decide, by decide⟩ ?_
          refine x_iret dX12_step_40 rfl ?_
          exact fin_0 rfl (by omega)
      · refine y_ic dX12_step_27 ⟨by decide, by decide⟩ ?_
        refine x_goto (tgt := 32) dX12_step_28 rfl ?_
        refine y_ic dX12_step_32 ⟨by decide, by decide⟩ ?_
        refine x_callVI (c_X12_right2 hW (by first | rw [uI_eq, u1_eq] | assumption) (by omega) (by decide)) dX12_step_33 lkX12_309 mfX12_right cfX12 at91 rfl rfl rfl rfl (Nat.le_of_ble_eq_true rfl) (fun r33 I33 P33 hr33 hf33 => ?_)
        obtain ⟨rfl, e33, i33⟩ := hf33
        rw [i33]
        refine x_if_ne (tgt := 41) dX12_step_36 rfl (fun h36 => ?_) (fun h36 => ?_)
        · rw [ifn_1 (by omega)]
          refine x_iload_n (i := 2) dX12_step_41 rfl rfl ?_
          refine x_if_ne (tgt := 54) dX12_step_42 rfl (fun h42 => ?_) (fun h42 => ?_)
          · refine x_iload_n (i := 2) dX12_step_54 rfl rfl ?_
            refine y_ic dX12_step_55 ⟨by decide, by decide⟩ ?_
            refine x_icmp_ne (tgt := 68) dX12_step_56 rfl (fun h56 => ?_) (fun h56 => ?_)
            · refine x_iload_n (i := 2) dX12_step_68 rfl rfl ?_
              refine y_ic dX12_step_69 ⟨by decide, by decide⟩ ?_
              refine x_icmp_ne (tgt := 82) dX12_step_70 rfl (fun h70 => ?_) (fun h70 => ?_)
              · refine y_aln (i := 0) dX12_step_82 at91.ne0 rfl rfl ?_
                refine y_getp (z := 65) (v := 124) dX12_step_83 frX12_121 cfX12 at91 rfl rfl (wp (v := 124) hW rfl rfl (by decide)) ?_
                refine x_iload_n (i := 1) dX12_step_86 rfl rfl ?_
                refine x_iald dX12_step_87 ar124 ⟨by omega, by omega⟩ ?_
                refine x_iret dX12_step_88 rfl ?_
                refine fin_1 (by omega) ?_
                rw [uI_ne (by decide)]
                unfold stepC
                first | (rw [if_pos (by omega)]; done) | (rw [if_neg (by omega), if_pos (by omega)]; done) | (rw [if_neg (by omega), if_neg (by omega), if_pos (by omega)]; done) | (rw [if_neg (by omega), if_neg (by omega), if_neg (by omega)]; done)
              · refine y_aln (i := 0) dX12_step_73 at91.ne0 rfl rfl ?_
                refine y_getp (z := 64) (v := 123) dX12_step_74 frX12_118 cfX12 at91 rfl rfl (wp (v := 123) hW rfl rfl (by decide)) ?_
                refine x_iload_n (i := 1) dX12_step_77 rfl rfl ?_
                refine x_iald dX12_step_78 ar123 ⟨by omega, by omega⟩ ?_
                refine x_goto (tgt := 88) dX12_step_79 rfl ?_
                refine x_iret dX12_step_88 rfl ?_
                refine fin_1 (by omega) ?_
                rw [uI_ne (by decide)]
                unfold stepC
                first | (rw [if_pos (by omega)]; done) | (rw [if_neg (by omega), if_pos (by omega)]; done) | (rw [if_neg (by omega), if_neg (by omega), if_pos (by omega)]; done) | (rw [if_neg (by omega), if_neg (by omega), if_neg (by omega)]; done)
            · refine y_aln (i := 0) dX12_step_59 at91.ne0 rfl rfl ?_
              refine y_getp (z := 63) (v := 122) dX12_step_60 frX12_115 cfX12 at91 rfl rfl (wp (v := 122) hW rfl rfl (by decide)) ?_
              refine x_iload_n (i := 1) dX12_step_63 rfl rfl ?_
              refine x_iald dX12_step_64 ar122 ⟨by omega, by omega⟩ ?_
              refine x_goto (tgt := 88) dX12_step_65 rfl ?_
              refine x_iret dX12_step_88 rfl ?_
              refine fin_1 (by omega) ?_
              rw [uI_ne (by decide)]
              unfold stepC
              first | (rw [if_pos (by omega)]; done) | (rw [if_neg (by omega), if_pos (by omega)]; done) | (rw [if_neg (by omega), if_neg (by omega), if_pos (by omega)]; done) | (rw [if_neg (by omega), if_neg (by omega), if_neg (by omega)]; done)
          · refine y_aln (i := 0) dX12_step_45 at91.ne0 rfl rfl ?_
            refine y_getp (z := 62) (v := 121) dX12_step_46 frX12_112 cfX12 at91 rfl rfl (wp (v := 121) hW rfl rfl (by decide)) ?_
            refine x_iload_n (i := 1) dX12_step_49 rfl rfl ?_
            refine x_iald dX12_step_50 ar121 ⟨by omega, by omega⟩ ?_
            refine x_goto (tgt := 88) dX12_step_51 rfl ?_
            refine x_iret dX12_step_88 rfl ?_
            refine fin_1 (by omega) ?_
            rw [uI_ne (by decide)]
            unfold stepC
            first | (rw [if_pos (by omega)]; done) | (rw [if_neg (by omega), if_pos (by omega)]; done) | (rw [if_neg (by omega), if_neg (by omega), if_pos (by omega)]; done) | (rw [if_neg (by omega), if_neg (by omega), if_neg (by omega)]; done)
        · rw [ifn_0 (by omega)]
          refine y_ic dX12_step_39 ⟨by decide, by decide⟩ ?_
          refine x_iret dX12_step_40 rfl ?_
          exact fin_0 rfl (by omega)
theorem c_X12_bag {s : Int} (hW : WP P) (hT : MT I T) (hF : WF T) (hb : I 91 66 = 0 ∨ I 91 66 = 1) : Cv G mX12_bag (d + 2) 0 0 [.inr (.inl 91), .inl s] NO I P (qI NO (fun r I' P' => P' = P ∧ I' = uI I 91 0 (aif ((0 ≤ s ∧ s < T 0 2) ∧ I 91 66 = 1) (I 125 s)).1 ∧ r = (aif ((0 ≤ s ∧ s < T 0 2) ∧ I 91 66 = 1) (I 125 s)).2)) := by
  have hT0 : MT (uI I 91 0 0) T := hT.uf (by decide)
  have e66 : uI I 91 0 0 91 66 = I 91 66 := by rw [uI_eq, u1_ne (by decide)]
  have f2 := hF.2.1
  refine x_enter mfX12_bag rfl (Nat.le_of_ble_eq_true rfl) (fun _ => ?_)
  refine y_aln (i := 0) dX12_bag_0 at91.ne0 rfl rfl ?_
  refine y_ic dX12_bag_1 ⟨by decide, by decide⟩ ?_
  refine y_puti (z := 0) dX12_bag_2 frX12_184 cfX12 at91 rfl rfl rfl ?_
  refine y_aln (i := 0) dX12_bag_5 at91.ne0 rfl rfl ?_
  refine x_iload_n (i := 1) dX12_bag_6 rfl rfl ?_
  refine x_callVI (c_X12_isSort hW hT0 z_0) dX12_bag_7 lkX12_365 mfX12_isSort cfX12 at91 rfl rfl rfl rfl (Nat.le_of_ble_eq_true rfl) (fun r7 I7 P7 hr7 hf7 => ?_)
  obtain ⟨rfl, hr7⟩ := hf7
  refine x_if_eq (tgt := 34) dX12_bag_10 rfl (fun h10 => ?_) (fun h10 => ?_)
  · obtain ⟨-, no, hI7⟩ := hr7.resolve_left (fun q => by have := q.1; omega)
    refine y_ic dX12_bag_34 ⟨by decide, by decide⟩ ?_
    refine x_iret dX12_bag_35 rfl ?_
    first | exact fin_1 ⟨op, by omega⟩ (by rw [uI_ne (by decide)]) | exact fin_0 hI7 (fun q => no q.1) | exact fin_0 rfl (fun q => by have := q.2; omega)
  · obtain ⟨-, op, hI7⟩ := hr7.resolve_right (fun q => by have := q.1; omega)
    rw [hI7]
    refine y_aln (i := 0) dX12_bag_13 at91.ne0 rfl rfl ?_
    refine y_aln (i := 0) dX12_bag_14 at91.ne0 rfl rfl ?_
    refine y_geti (z := 66) dX12_bag_15 frX12_335 cfX12 at91 rfl rfl ?_
    refine y_ic dX12_bag_18 ⟨by decide, by decide⟩ ?_
    refine x_callVI (c_X12_right2 hW (by first | rw [uI_eq, u1_eq] | assumption) (by omega) (by decide)) dX12_bag_19 lkX12_309 mfX12_right cfX12 at91 rfl rfl rfl rfl (Nat.le_of_ble_eq_true rfl) (fun r19 I19 P19 hr19 hf19 => ?_)
    obtain ⟨rfl, e19, i19⟩ := hf19
    rw [i19]
    refine x_if_eq (tgt := 34) dX12_bag_22 rfl (fun h22 => ?_) (fun h22 => ?_)
    · rw [ifn_0 (by omega)]
      refine y_ic dX12_bag_34 ⟨by decide, by decide⟩ ?_
      refine x_iret dX12_bag_35 rfl ?_
      first | exact fin_1 ⟨op, by omega⟩ (by rw [uI_ne (by decide)]) | exact fin_0 hI7 (fun q => no q.1) | exact fin_0 rfl (fun q => by have := q.2; omega)
    · rw [ifn_1 (by omega)]
      refine y_aln (i := 0) dX12_bag_25 at91.ne0 rfl rfl ?_
      refine y_getp (z := 67) (v := 125) dX12_bag_26 frX12_124 cfX12 at91 rfl rfl (wp (v := 125) hW rfl rfl (by decide)) ?_
      refine x_iload_n (i := 1) dX12_bag_29 rfl rfl ?_
      refine x_iald dX12_bag_30 ar125 ⟨by omega, by omega⟩ ?_
      refine x_goto (tgt := 35) dX12_bag_31 rfl ?_
      refine x_iret dX12_bag_35 rfl ?_
      first | exact fin_1 ⟨op, by omega⟩ (by rw [uI_ne (by decide)]) | exact fin_0 hI7 (fun q => no q.1) | exact fin_0 rfl (fun q => by have := q.2; omega)
theorem c_X12_ordered {i : Int} (hW : WP P) (h76 : I 91 76 ≤ 5) : Cv G mX12_ordered (d + 2) 0 0 [.inr (.inl 91), .inl i] NO I P (qI NO (fun r I' P' => P' = P ∧ I' = uI I 91 0 (aif (0 ≤ i ∧ i < I 91 76) (I 130 i)).1 ∧ r = (aif (0 ≤ i ∧ i < I 91 76) (I 130 i)).2)) := by
  have e76 : uI I 91 0 0 91 76 = I 91 76 := by rw [uI_eq, u1_ne (by decide)]
  refine x_enter mfX12_ordered rfl (Nat.le_of_ble_eq_true rfl) (fun _ => ?_)
  refine y_aln (i := 0) dX12_ordered_0 at91.ne0 rfl rfl ?_
  refine y_ic dX12_ordered_1 ⟨by decide, by decide⟩ ?_
  refine y_puti (z := 0) dX12_ordered_2 frX12_184 cfX12 at91 rfl rfl rfl ?_
  refine y_aln (i := 0) dX12_ordered_5 at91.ne0 rfl rfl ?_
  refine x_iload_n (i := 1) dX12_ordered_6 rfl rfl ?_
  refine x_if_lt (tgt := 22) dX12_ordered_7 rfl (fun h7 => ?_) (fun h7 => ?_)
  · refine y_ic dX12_ordered_22 ⟨by decide, by decide⟩ ?_
    refine y_ic dX12_ordered_23 ⟨by decide, by decide⟩ ?_
    refine x_callVI (c_X12_right2 hW (by first | rw [uI_eq, u1_eq] | assumption) (by omega) (by decide)) dX12_ordered_24 lkX12_309 mfX12_right cfX12 at91 rfl rfl rfl rfl (Nat.le_of_ble_eq_true rfl) (fun r24 I24 P24 hr24 hf24 => ?_)
    obtain ⟨rfl, e24, i24⟩ := hf24
    rw [i24]
    refine x_if_eq (tgt := 39) dX12_ordered_27 rfl (fun h27 => ?_) (fun h27 => ?_)
    · rw [ifn_0 (by omega)]
      refine y_ic dX12_ordered_39 ⟨by decide, by decide⟩ ?_
      refine x_iret dX12_ordered_40 rfl ?_
      first | exact fin_1 (by omega) (by rw [uI_ne (by decide)]) | exact fin_0 rfl (by omega)
    · rw [ifn_1 (by omega)]
      refine y_aln (i := 0) dX12_ordered_30 at91.ne0 rfl rfl ?_
      refine y_getp (z := 77) (v := 130) dX12_ordered_31 frX12_139 cfX12 at91 rfl rfl (wp (v := 130) hW rfl rfl (by decide)) ?_
      refine x_iload_n (i := 1) dX12_ordered_34 rfl rfl ?_
      refine x_iald dX12_ordered_35 ar130 ⟨by omega, by omega⟩ ?_
      refine x_goto (tgt := 40) dX12_ordered_36 rfl ?_
      refine x_iret dX12_ordered_40 rfl ?_
      first | exact fin_1 (by omega) (by rw [uI_ne (by decide)]) | exact fin_0 rfl (by omega)
  · refine x_iload_n (i := 1) dX12_ordered_10 rfl rfl ?_
    refine y_aln (i := 0) dX12_ordered_11 at91.ne0 rfl rfl ?_
    refine y_geti (z := 76) dX12_ordered_12 frX12_338 cfX12 at91 rfl rfl ?_
    refine x_icmp_ge (tgt := 22) dX12_ordered_15 rfl (fun h15 => ?_) (fun h15 => ?_)
    · refine y_ic dX12_ordered_22 ⟨by decide, by decide⟩ ?_
      refine y_ic dX12_ordered_23 ⟨by decide, by decide⟩ ?_
      refine x_callVI (c_X12_right2 hW (by first | rw [uI_eq, u1_eq] | assumption) (by omega) (by decide)) dX12_ordered_24 lkX12_309 mfX12_right cfX12 at91 rfl rfl rfl rfl (Nat.le_of_ble_eq_true rfl) (fun r24 I24 P24 hr24 hf24 => ?_)
      obtain ⟨rfl, e24, i24⟩ := hf24
      rw [i24]
      refine x_if_eq (tgt := 39) dX12_ordered_27 rfl (fun h27 => ?_) (fun h27 => ?_)
      · rw [ifn_0 (by omega)]
        refine y_ic dX12_ordered_39 ⟨by decide, by decide⟩ ?_
        refine x_iret dX12_ordered_40 rfl ?_
        first | exact fin_1 (by omega) (by rw [uI_ne (by decide)]) | exact fin_0 rfl (by omega)
      · rw [ifn_1 (by omega)]
        refine y_aln (i := 0) dX12_ordered_30 at91.ne0 rfl rfl ?_
        refine y_getp (z := 77) (v := 130) dX12_ordered_31 frX12_139 cfX12 at91 rfl rfl (wp (v := 130) hW rfl rfl (by decide)) ?_
        refine x_iload_n (i := 1) dX12_ordered_34 rfl rfl ?_
        refine x_iald dX12_ordered_35 ar130 ⟨by omega, by omega⟩ ?_
        refine x_goto (tgt := 40) dX12_ordered_36 rfl ?_
        refine x_iret dX12_ordered_40 rfl ?_
        first | exact fin_1 (by omega) (by rw [uI_ne (by decide)]) | exact fin_0 rfl (by omega)
    · refine y_ic dX12_ordered_18 ⟨by decide, by decide⟩ ?_
      refine x_goto (tgt := 23) dX12_ordered_19 rfl ?_
      refine y_ic dX12_ordered_23 ⟨by decide, by decide⟩ ?_
      refine x_callVI (c_X12_right2 hW (by first | rw [uI_eq, u1_eq] | assumption) (by omega) (by decide)) dX12_ordered_24 lkX12_309 mfX12_right cfX12 at91 rfl rfl rfl rfl (Nat.le_of_ble_eq_true rfl) (fun r24 I24 P24 hr24 hf24 => ?_)
      obtain ⟨rfl, e24, i24⟩ := hf24
      rw [i24]
      refine x_if_eq (tgt := 39) dX12_ordered_27 rfl (fun h27 => ?_) (fun h27 => ?_)
      · rw [ifn_0 (by omega)]
        refine y_ic dX12_ordered_39 ⟨by decide, by decide⟩ ?_
        refine x_iret dX12_ordered_40 rfl ?_
        first | exact fin_1 (by omega) (by rw [uI_ne (by decide)]) | exact fin_0 rfl (by omega)
      · rw [ifn_1 (by omega)]
        refine y_aln (i := 0) dX12_ordered_30 at91.ne0 rfl rfl ?_
        refine y_getp (z := 77) (v := 130) dX12_ordered_31 frX12_139 cfX12 at91 rfl rfl (wp (v := 130) hW rfl rfl (by decide)) ?_
        refine x_iload_n (i := 1) dX12_ordered_34 rfl rfl ?_
        refine x_iald dX12_ordered_35 ar130 ⟨by omega, by omega⟩ ?_
        refine x_goto (tgt := 40) dX12_ordered_36 rfl ?_
        refine x_iret dX12_ordered_40 rfl ?_
        first | exact fin_1 (by omega) (by rw [uI_ne (by decide)]) | exact fin_0 rfl (by omega)
theorem c_X12_shared {p s : Int} (hW : WP P) (hT : MT I T) (hF : WF T) (hb : I 91 89 = 0 ∨ I 91 89 = 1) : Cv G mX12_shared (d + 2) 0 0 [.inr (.inl 91), .inl p, .inl s] NO I P (qI NO (fun r I' P' => P' = P ∧ I' = uI I 91 0 (aif (okPS T p s ∧ I 91 89 = 1) (I 142 (8 * p + s))).1 ∧ r = (aif (okPS T p s ∧ I 91 89 = 1) (I 142 (8 * p + s))).2)) := by
  have hT0 : MT (uI I 91 0 0) T := hT.uf (by decide)
  have e89 : uI I 91 0 0 91 89 = I 91 89 := by rw [uI_eq, u1_ne (by decide)]
  have f1 := hF.1
  have f2 := hF.2.1
  refine x_enter mfX12_shared rfl (Nat.le_of_ble_eq_true rfl) (fun _ => ?_)
  refine y_aln (i := 0) dX12_shared_0 at91.ne0 rfl rfl ?_
  refine y_ic dX12_shared_1 ⟨by decide, by decide⟩ ?_
  refine y_puti (z := 0) dX12_shared_2 frX12_184 cfX12 at91 rfl rfl rfl ?_
  refine y_aln (i := 0) dX12_shared_5 at91.ne0 rfl rfl ?_
  refine x_iload_n (i := 1) dX12_shared_6 rfl rfl ?_
  refine x_callVI (c_X12_isPerson hW hT0 z_0) dX12_shared_7 lkX12_362 mfX12_isPerson cfX12 at91 rfl rfl rfl rfl (Nat.le_of_ble_eq_true rfl) (fun r7 I7 P7 hr7 hf7 => ?_)
  obtain ⟨rfl, hr7⟩ := hf7
  refine x_if_eq (tgt := 47) dX12_shared_10 rfl (fun h10 => ?_) (fun h10 => ?_)
  · obtain ⟨-, no, hI7⟩ := hr7.resolve_left (fun q => by have := q.1; omega)
    refine y_ic dX12_shared_47 ⟨by decide, by decide⟩ ?_
    refine x_iret dX12_shared_48 rfl ?_
    first | exact fin_1 ⟨⟨op, os⟩, by omega⟩ (by rw [uI_ne (by decide)]) | exact fin_0 hI7 (fun q => no q.1.1) | exact fin_0 hI15 (fun q => no q.1.2) | exact fin_0 rfl (fun q => by have := q.2; omega)
  · obtain ⟨-, op, hI7⟩ := hr7.resolve_right (fun q => by have := q.1; omega)
    rw [hI7]
    refine y_aln (i := 0) dX12_shared_13 at91.ne0 rfl rfl ?_
    refine x_iload_n (i := 2) dX12_shared_14 rfl rfl ?_
    refine x_callVI (c_X12_isSort hW hT0 z_0) dX12_shared_15 lkX12_365 mfX12_isSort cfX12 at91 rfl rfl rfl rfl (Nat.le_of_ble_eq_true rfl) (fun r15 I15 P15 hr15 hf15 => ?_)
    obtain ⟨rfl, hr15⟩ := hf15
    refine x_if_eq (tgt := 47) dX12_shared_18 rfl (fun h18 => ?_) (fun h18 => ?_)
    · obtain ⟨-, no, hI15⟩ := hr15.resolve_left (fun q => by have := q.1; omega)
      refine y_ic dX12_shared_47 ⟨by decide, by decide⟩ ?_
      refine x_iret dX12_shared_48 rfl ?_
      first | exact fin_1 ⟨⟨op, os⟩, by omega⟩ (by rw [uI_ne (by decide)]) | exact fin_0 hI7 (fun q => no q.1.1) | exact fin_0 hI15 (fun q => no q.1.2) | exact fin_0 rfl (fun q => by have := q.2; omega)
    · obtain ⟨-, os, hI15⟩ := hr15.resolve_right (fun q => by have := q.1; omega)
      rw [hI15]
      refine y_aln (i := 0) dX12_shared_21 at91.ne0 rfl rfl ?_
      refine y_aln (i := 0) dX12_shared_22 at91.ne0 rfl rfl ?_
      refine y_geti (z := 89) dX12_shared_23 frX12_341 cfX12 at91 rfl rfl ?_
      refine y_ic dX12_shared_26 ⟨by decide, by decide⟩ ?_
      refine x_callVI (c_X12_right2 hW (by first | rw [uI_eq, u1_eq] | assumption) (by omega) (by decide)) dX12_shared_27 lkX12_309 mfX12_right cfX12 at91 rfl rfl rfl rfl (Nat.le_of_ble_eq_true rfl) (fun r27 I27 P27 hr27 hf27 => ?_)
      obtain ⟨rfl, e27, i27⟩ := hf27
      rw [i27]
      refine x_if_eq (tgt := 47) dX12_shared_30 rfl (fun h30 => ?_) (fun h30 => ?_)
      · rw [ifn_0 (by omega)]
        refine y_ic dX12_shared_47 ⟨by decide, by decide⟩ ?_
        refine x_iret dX12_shared_48 rfl ?_
        first | exact fin_1 ⟨⟨op, os⟩, by omega⟩ (by rw [uI_ne (by decide)]) | exact fin_0 hI7 (fun q => no q.1.1) | exact fin_0 hI15 (fun q => no q.1.2) | exact fin_0 rfl (fun q => by have := q.2; omega)
      · rw [ifn_1 (by omega)]
        refine y_aln (i := 0) dX12_shared_33 at91.ne0 rfl rfl ?_
        refine y_getp (z := 90) (v := 142) dX12_shared_34 frX12_175 cfX12 at91 rfl rfl (wp (v := 142) hW rfl rfl (by decide)) ?_
        refine y_bi dX12_shared_37 ⟨by decide, by decide⟩ ?_
        refine x_iload_n (i := 1) dX12_shared_39 rfl rfl ?_
        refine x_imul dX12_shared_40 ⟨by omega, by omega⟩ ?_
        refine x_iload_n (i := 2) dX12_shared_41 rfl rfl ?_
        refine x_iadd dX12_shared_42 ⟨by omega, by omega⟩ ?_
        refine x_iald dX12_shared_43 ar142 ⟨by omega, by omega⟩ ?_
        refine x_goto (tgt := 48) dX12_shared_44 rfl ?_
        refine x_iret dX12_shared_48 rfl ?_
        first | exact fin_1 ⟨⟨op, os⟩, by omega⟩ (by rw [uI_ne (by decide)]) | exact fin_0 hI7 (fun q => no q.1.1) | exact fin_0 hI15 (fun q => no q.1.2) | exact fin_0 rfl (fun q => by have := q.2; omega)
theorem c_X12_count {w : Int} (hW : WP P) (hT : MT I T) (hF : WF T) (hr : RW T (I 98)) : Cv G mX12_count (d + 2) 0 0 [.inr (.inl 91), .inl w] NO I P (qI NO (fun r I' P' => P' = P ∧ I' = uI I 91 0 (aif (0 ≤ w ∧ w ≤ 11) (countA T (I 98) (I 91 17) (I 99) w)).1 ∧ r = (aif (0 ≤ w ∧ w ≤ 11) (countA T (I 98) (I 91 17) (I 99) w)).2)) := by
  have hT0 : MT (uI I 91 0 0) T := hT.uf (by decide)
  have e98 : uI I 91 0 0 98 = I 98 := uI_ne (by decide)
  have e17 : uI I 91 0 0 91 17 = I 91 17 := by rw [uI_eq, u1_ne (by decide)]
  have e7 : uI I 91 0 0 91 7 = T 0 7 := hT0.1 7 (by decide) (by decide)
  have f7 := hF.2.2.2.2.2.2.1
  refine x_enter mfX12_count rfl (Nat.le_of_ble_eq_true rfl) (fun _ => ?_)
  refine y_aln (i := 0) dX12_count_0 at91.ne0 rfl rfl ?_
  refine y_ic dX12_count_1 ⟨by decide, by decide⟩ ?_
  refine y_puti (z := 0) dX12_count_2 frX12_184 cfX12 at91 rfl rfl rfl ?_
  refine y_aln (i := 0) dX12_count_5 at91.ne0 rfl rfl ?_
  refine x_iload_n (i := 1) dX12_count_6 rfl rfl ?_
  refine y_ic dX12_count_7 ⟨by decide, by decide⟩ ?_
  refine y_bi dX12_count_8 ⟨by decide, by decide⟩ ?_
  refine x_callSI (c_X12_within) dX12_count_10 lkX12_354 mfX12_within rfl rfl rfl (Nat.le_of_ble_eq_true rfl) (fun r10 I10 P10 hr10 hf10 => ?_)
  obtain ⟨i10, p10, q10⟩ := hf10
  rw [i10, p10]
  refine y_ic dX12_count_13 ⟨by decide, by decide⟩ ?_
  refine x_callVI (c_X12_right2 hW (by first | rw [uI_eq, u1_eq] | assumption) (by omega) (by decide)) dX12_count_14 lkX12_309 mfX12_right cfX12 at91 rfl rfl rfl rfl (Nat.le_of_ble_eq_true rfl) (fun r14 I14 P14 hr14 hf14 => ?_)
  obtain ⟨rfl, e14, i14⟩ := hf14
  rw [i14]
  refine x_if_ne (tgt := 22) dX12_count_17 rfl (fun h17 => ?_) (fun h17 => ?_)
  · rw [ifn_1 (by omega)]
    refine x_iload_n (i := 1) dX12_count_22 rfl rfl ?_
    refine y_tsw (td := 129) dX12_count_23 (fun j off tgt hx23 ho23 ht23 hle23 => ?_) (by decide) (by decide) (by decide) (fun h23 => ?_)
    · have hj23 : j = 0 ∨ j = 1 ∨ j = 2 ∨ j = 3 ∨ j = 4 ∨ j = 5 ∨ j = 6 ∨ j = 7 ∨ j = 8 := by omega
      rcases hj23 with rfl | rfl | rfl | rfl | rfl | rfl | rfl | rfl | rfl
      · have eo23 : off = 49 := Option.some.inj (ho23.symm.trans rfl)
        obtain rfl : tgt = 72 := by omega
        refine y_aln (i := 0) dX12_count_72 at91.ne0 rfl rfl ?_
        refine y_geti (z := 1) dX12_count_73 frX12_316 cfX12 at91 rfl rfl ?_
        refine x_iret dX12_count_76 rfl ?_
        exact fin_1 (by omega) (by rw [show w = 0 by omega]; exact hT0.1 1 (by decide) (by decide))
      · have eo23 : off = 54 := Option.some.inj (ho23.symm.trans rfl)
        obtain rfl : tgt = 77 := by omega
        refine y_aln (i := 0) dX12_count_77 at91.ne0 rfl rfl ?_
        refine y_geti (z := 2) dX12_count_78 frX12_7 cfX12 at91 rfl rfl ?_
        refine x_iret dX12_count_81 rfl ?_
        exact fin_1 (by omega) (by rw [show w = 1 by omega]; exact hT0.1 2 (by decide) (by decide))
      · have eo23 : off = 59 := Option.some.inj (ho23.symm.trans rfl)
        obtain rfl : tgt = 82 := by omega
        refine y_aln (i := 0) dX12_count_82 at91.ne0 rfl rfl ?_
        refine y_geti (z := 3) dX12_count_83 frX12_13 cfX12 at91 rfl rfl ?_
        refine x_iret dX12_count_86 rfl ?_
        exact fin_1 (by omega) (by rw [show w = 2 by omega]; exact hT0.1 3 (by decide) (by decide))
      · have eo23 : off = 64 := Option.some.inj (ho23.symm.trans rfl)
        obtain rfl : tgt = 87 := by omega
        refine y_aln (i := 0) dX12_count_87 at91.ne0 rfl rfl ?_
        refine y_geti (z := 4) dX12_count_88 frX12_16 cfX12 at91 rfl rfl ?_
        refine x_iret dX12_count_91 rfl ?_
        exact fin_1 (by omega) (by rw [show w = 3 by omega]; exact hT0.1 4 (by decide) (by decide))
      · have eo23 : off = 69 := Option.some.inj (ho23.symm.trans rfl)
        obtain rfl : tgt = 92 := by omega
        refine y_aln (i := 0) dX12_count_92 at91.ne0 rfl rfl ?_
        refine y_geti (z := 7) dX12_count_93 frX12_325 cfX12 at91 rfl rfl ?_
        refine x_if_eq (tgt := 103) dX12_count_96 rfl (fun h96 => ?_) (fun h96 => ?_)
        · refine y_ic dX12_count_103 ⟨by decide, by decide⟩ ?_
          refine x_iret dX12_count_104 rfl ?_
          exact fin_1 (by omega) (by rw [show w = 4 by omega]; show _ = T 0 7; omega)
        · refine y_ic dX12_count_99 ⟨by decide, by decide⟩ ?_
          refine x_goto (tgt := 104) dX12_count_100 rfl ?_
          refine x_iret dX12_count_104 rfl ?_
          exact fin_1 (by omega) (by rw [show w = 4 by omega]; show _ = T 0 7; omega)
      · have eo23 : off = 82 := Option.some.inj (ho23.symm.trans rfl)
        obtain rfl : tgt = 105 := by omega
        refine y_aln (i := 0) dX12_count_105 at91.ne0 rfl rfl ?_
        refine y_geti (z := 5) dX12_count_106 frX12_319 cfX12 at91 rfl rfl ?_
        refine x_iret dX12_count_109 rfl ?_
        exact fin_1 (by omega) (by rw [show w = 5 by omega]; exact hT0.1 5 (by decide) (by decide))
      · have eo23 : off = 87 := Option.some.inj (ho23.symm.trans rfl)
        obtain rfl : tgt = 110 := by omega
        refine y_aln (i := 0) dX12_count_110 at91.ne0 rfl rfl ?_
        refine y_geti (z := 6) dX12_count_111 frX12_322 cfX12 at91 rfl rfl ?_
        refine x_iret dX12_count_114 rfl ?_
        exact fin_1 (by omega) (by rw [show w = 6 by omega]; exact hT0.1 6 (by decide) (by decide))
      · have eo23 : off = 92 := Option.some.inj (ho23.symm.trans rfl)
        obtain rfl : tgt = 115 := by omega
        refine y_aln (i := 0) dX12_count_115 at91.ne0 rfl rfl ?_
        refine y_geti (z := 17) dX12_count_116 frX12_187 cfX12 at91 rfl rfl ?_
        refine x_iret dX12_count_119 rfl ?_
        exact fin_1 (by omega) (by rw [show w = 7 by omega]; exact e17)
      · have eo23 : off = 97 := Option.some.inj (ho23.symm.trans rfl)
        obtain rfl : tgt = 120 := by omega
        refine y_aln (i := 0) dX12_count_120 at91.ne0 rfl rfl ?_
        refine y_aln (i := 0) dX12_count_121 at91.ne0 rfl rfl ?_
        refine y_getp (z := 14) (v := 98) dX12_count_122 frX12_38 cfX12 at91 rfl rfl (wp (v := 98) hW rfl rfl (by decide)) ?_
        refine x_callVI (c_X12_allThings hW hT0 hF ar98 (by rw [e98]; exact hr.rc)) dX12_count_125 lkX12_358 mfX12_allThings cfX12 at91 rfl rfl rfl rfl (Nat.le_of_ble_eq_true rfl) (fun r125 I125 P125 hr125 hf125 => ?_)
        obtain ⟨i125, p125, q125⟩ := hf125
        rw [i125, p125, q125]
        refine x_iret dX12_count_128 rfl ?_
        exact fin_1 (by omega) (by rw [show w = 8 by omega, e98]; rfl)
    · refine y_aln (i := 0) dX12_count_129 at91.ne0 rfl rfl ?_
      refine y_getp (z := 15) (v := 99) dX12_count_130 frX12_41 cfX12 at91 rfl rfl (wp (v := 99) hW rfl rfl (by decide)) ?_
      refine x_iload_n (i := 1) dX12_count_133 rfl rfl ?_
      refine y_bi dX12_count_134 ⟨by decide, by decide⟩ ?_
      refine x_isub dX12_count_136 ⟨by omega, by omega⟩ ?_
      refine x_iald dX12_count_137 ar99 ⟨by omega, by omega⟩ ?_
      refine x_iret dX12_count_138 rfl ?_
      refine fin_1 (by omega) ?_
      unfold countA
      rw [uI_ne (by decide), if_neg (by omega), if_neg (by omega), if_neg (by omega), if_neg (by omega), if_neg (by omega), if_neg (by omega), if_neg (by omega), if_neg (by omega), if_neg (by omega)]
  · rw [ifn_0 (by omega)]
    refine y_ic dX12_count_20 ⟨by decide, by decide⟩ ?_
    refine x_iret dX12_count_21 rfl ?_
    exact fin_0 rfl (by omega)
end

