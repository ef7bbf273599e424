/-! ===== the reference: laws, running, freely, staying away ===== -/
section
variable {G : HX} {d : Nat} {I : Mem} {P : Ptr} {T : Tn}
theorem c_X12_byLaw {l w : Int} (hW : WP P) (hT : MT I T) (hF : WF T) (hr : RW T (I 98)) (hl : 0 ≤ l ∧ l ≤ 5) (hw : w = 0 ∨ w = 1) : Cv G mX12_byLaw (d + 6) 0 0 [.inr (.inl 91), .inl l, .inl w] NO I P (qI NO (fun r I' P' => P' = P ∧ r = lawV T (I 98) l w ∧ Fr (129 :: frS) frF I I')) := by
  have hFl := lawT_WF hF hl
  have e3 : I 91 3 = T 0 3 := hT.1 3 (by decide) (by decide)
  have e7 : I 91 7 = T 0 7 := hT.1 7 (by decide) (by decide)
  have f7 := hF.2.2.2.2.2.2.1
  refine x_enter mfX12_byLaw rfl (Nat.le_of_ble_eq_true rfl) (fun _ => ?_)
  have hL : ∀ b : Int, b = l % 2 → V G mX12_byLaw (d + 6) 0 0 36 [some (.inr (.inl 91)), none, some (.inl (w)), some (.inl (I 91 3)), some (.inl (I 91 7)), none] [] NO (uI (uI I 91 3 (l / 2 + 1)) 91 7 b) P (qI NO (fun r I' P' => P' = P ∧ r = lawV T (I 98) l w ∧ Fr (129 :: frS) frF I I')) := fun b hb => by
    obtain ⟨J, hJ⟩ : ∃ J, J = uI (uI I 91 3 (l / 2 + 1)) 91 7 b := ⟨_, rfl⟩
    rw [← hJ]
    have hTJ : MT J (lawT T l) := by
      obtain ⟨h0, h1, h2, h3, h4, h5, h6⟩ := id hT
      rw [hJ]
      refine ⟨fun k k0 k1 => ?_, ?_, ?_, ?_, ?_, ?_, ?_⟩
      · by_cases q7 : k = 7
        · rw [q7, lawT_7, uI_eq, u1_eq, hb]
        · by_cases q3 : k = 3
          · rw [q3, lawT_3, uI_eq, u1_ne (by decide), uI_eq, u1_eq]
          · rw [lawT_0 q3 q7, uI_eq, u1_ne q7, uI_eq, u1_ne q3]; exact h0 k k0 k1
      all_goals rw [uI_ne (by decide), uI_ne (by decide), lawT_n (by decide)]; assumption
    have hFJ : Fr [] [3, 7] I J := by rw [hJ]; exact (Fr.rf.uf (by decide)).uf (by decide)
    refine y_aln (i := 0) dX12_byLaw_36 at91.ne0 rfl rfl ?_
    refine y_aln (i := 0) dX12_byLaw_37 at91.ne0 rfl rfl ?_
    refine y_getp (z := 14) (v := 98) dX12_byLaw_38 frX12_38 cfX12 at91 rfl rfl (wp (v := 98) hW rfl rfl (by decide)) ?_
    refine y_aln (i := 0) dX12_byLaw_41 at91.ne0 rfl rfl ?_
    refine y_getp (z := 75) (v := 129) dX12_byLaw_42 frX12_136 cfX12 at91 rfl rfl (wp (v := 129) hW rfl rfl (by decide)) ?_
    refine x_callVV (c_X12_copies ar98 ar129 (by decide) (by decide) (by decide)) dX12_byLaw_45 lkX12_328 mfX12_copies cfX12 at91 rfl rfl rfl rfl (Nat.le_of_ble_eq_true rfl) (fun n45 I45 P45 hf45 => ?_)
    obtain ⟨rfl, hI45, rfl⟩ := hf45
    have re45 : RE (I 98) (I45 129) := fun c h0 h1 => by rw [hI45, uA_eq, if_pos (by omega), hFJ.1 98 (by decide) (by decide)]
    have hT45 : MT I45 (lawT T l) := by rw [hI45]; exact hTJ.ua (by decide)
    refine y_aln (i := 0) dX12_byLaw_48 at91.ne0 rfl rfl ?_
    refine x_callVI (c_X12_ends hW hT45 hFl (re45.rw (lawT_RW hr))) dX12_byLaw_49 lkX12_485 mfX12_ends cfX12 at91 rfl rfl rfl rfl (Nat.le_of_ble_eq_true rfl) (fun r49 I49 P49 hr49 hf49 => ?_)
    obtain ⟨rfl, r49e, hI49, fr49⟩ := hf49
    have hT49 := hT45.fr fr49
    have ho := endN_ok hFl 60 _ (lawT_RW hr)
    have re49 := (RE.endd hFl (f := 60) re45).2
    rw [← hI49] at re49
    have rc49 := re49.rc ho.1.rc
    have hFr : Fr (129 :: frS) (3 :: 7 :: frF) I I49 := ((hFJ.mo (fun x hx => absurd hx (by simp)) (by decide)).tr (by rw [hI45]; exact Fr.rf.ua (by decide) (by decide))).tr (fr49.mo (by decide) (by decide))
    have fin : Fr (129 :: frS) frF I (uI (uI I49 91 3 (I 91 3)) 91 7 (I 91 7)) := by
      refine ⟨fun a ha hs => by rw [uI_ne ha, uI_ne ha]; exact hFr.1 a ha hs, fun k hk => ?_⟩
      by_cases q7 : k = 7
      · rw [q7, uI_eq, u1_eq]
      · by_cases q3 : k = 3
        · rw [q3, uI_eq, u1_ne (by decide), uI_eq, u1_eq]
        · rw [uI_eq, u1_ne q7, uI_eq, u1_ne q3]
          exact hFr.2 k (fun q => by rcases List.mem_cons.mp q with q | q; exact q3 q; rcases List.mem_cons.mp q with q | q; exact q7 q; exact hk q)
    refine x_pop dX12_byLaw_52 rfl ?_
    refine x_iload_n (i := 2) dX12_byLaw_53 rfl rfl ?_
    refine x_if_ne (tgt := 68) dX12_byLaw_54 rfl (fun h54 => ?_) (fun h54 => ?_)
    · refine y_aln (i := 0) dX12_byLaw_68 at91.ne0 rfl rfl ?_
      refine y_aln (i := 0) dX12_byLaw_69 at91.ne0 rfl rfl ?_
      refine y_getp (z := 75) (v := 129) dX12_byLaw_70 frX12_136 cfX12 at91 rfl rfl (wp (v := 129) hW rfl rfl (by decide)) ?_
      refine x_callVI (c_X12_allWorth hW hT49 hFl ar129 rc49) dX12_byLaw_73 lkX12_368 mfX12_allWorth cfX12 at91 rfl rfl rfl rfl (Nat.le_of_ble_eq_true rfl) (fun r73 I73 P73 hr73 hf73 => ?_)
      obtain ⟨i73, p73, q73⟩ := hf73
      rw [i73, p73, q73]
      refine x_istore (i := 5) dX12_byLaw_76 rfl (Nat.le_of_ble_eq_true rfl) ?_
      refine y_aln (i := 0) dX12_byLaw_78 at91.ne0 rfl rfl ?_
      refine x_iload_n (i := 3) dX12_byLaw_79 rfl rfl ?_
      refine y_puti (z := 3) dX12_byLaw_80 frX12_13 cfX12 at91 rfl rfl rfl ?_
      refine y_aln (i := 0) dX12_byLaw_83 at91.ne0 rfl rfl ?_
      refine x_iload (i := 4) dX12_byLaw_84 rfl ?_
      refine y_putz (z := 7) dX12_byLaw_86 frX12_325 cfX12 at91 rfl rfl rfl (by omega) ?_
      refine x_iload (i := 5) dX12_byLaw_89 rfl ?_
      refine x_iret dX12_byLaw_91 rfl ?_
      refine ⟨rfl, ?_, fin⟩
      unfold lawV
      first | (rw [if_pos (by omega)]; exact (re49.all hFl).symm) | (rw [if_neg (by omega)]; exact (re49.worth hFl).symm)
    · refine y_aln (i := 0) dX12_byLaw_57 at91.ne0 rfl rfl ?_
      refine y_aln (i := 0) dX12_byLaw_58 at91.ne0 rfl rfl ?_
      refine y_getp (z := 75) (v := 129) dX12_byLaw_59 frX12_136 cfX12 at91 rfl rfl (wp (v := 129) hW rfl rfl (by decide)) ?_
      refine x_callVI (c_X12_allThings hW hT49 hFl ar129 rc49) dX12_byLaw_62 lkX12_358 mfX12_allThings cfX12 at91 rfl rfl rfl rfl (Nat.le_of_ble_eq_true rfl) (fun r62 I62 P62 hr62 hf62 => ?_)
      obtain ⟨i62, p62, q62⟩ := hf62
      rw [i62, p62, q62]
      refine x_goto (tgt := 76) dX12_byLaw_65 rfl ?_
      refine x_istore (i := 5) dX12_byLaw_76 rfl (Nat.le_of_ble_eq_true rfl) ?_
      refine y_aln (i := 0) dX12_byLaw_78 at91.ne0 rfl rfl ?_
      refine x_iload_n (i := 3) dX12_byLaw_79 rfl rfl ?_
      refine y_puti (z := 3) dX12_byLaw_80 frX12_13 cfX12 at91 rfl rfl rfl ?_
      refine y_aln (i := 0) dX12_byLaw_83 at91.ne0 rfl rfl ?_
      refine x_iload (i := 4) dX12_byLaw_84 rfl ?_
      refine y_putz (z := 7) dX12_byLaw_86 frX12_325 cfX12 at91 rfl rfl rfl (by omega) ?_
      refine x_iload (i := 5) dX12_byLaw_89 rfl ?_
      refine x_iret dX12_byLaw_91 rfl ?_
      refine ⟨rfl, ?_, fin⟩
      unfold lawV
      first | (rw [if_pos (by omega)]; exact (re49.all hFl).symm) | (rw [if_neg (by omega)]; exact (re49.worth hFl).symm)
  refine y_aln (i := 0) dX12_byLaw_0 at91.ne0 rfl rfl ?_
  refine y_geti (z := 3) dX12_byLaw_1 frX12_13 cfX12 at91 rfl rfl ?_
  refine x_istore_n (i := 3) dX12_byLaw_4 rfl rfl (Nat.le_of_ble_eq_true rfl) ?_
  refine y_aln (i := 0) dX12_byLaw_5 at91.ne0 rfl rfl ?_
  refine y_geti (z := 7) dX12_byLaw_6 frX12_325 cfX12 at91 rfl rfl ?_
  refine x_istore (i := 4) dX12_byLaw_9 rfl (Nat.le_of_ble_eq_true rfl) ?_
  refine y_aln (i := 0) dX12_byLaw_11 at91.ne0 rfl rfl ?_
  refine x_iload_n (i := 1) dX12_byLaw_12 rfl rfl ?_
  refine y_ic dX12_byLaw_13 ⟨by decide, by decide⟩ ?_
  refine x_idiv dX12_byLaw_14 (by omega) (by omega) ?_
  refine y_ic dX12_byLaw_15 ⟨by decide, by decide⟩ ?_
  refine x_iadd dX12_byLaw_16 ⟨by omega, by omega⟩ ?_
  refine y_puti (z := 3) dX12_byLaw_17 frX12_13 cfX12 at91 rfl rfl rfl ?_
  refine y_aln (i := 0) dX12_byLaw_20 at91.ne0 rfl rfl ?_
  refine x_iload_n (i := 1) dX12_byLaw_21 rfl rfl ?_
  refine y_ic dX12_byLaw_22 ⟨by decide, by decide⟩ ?_
  refine x_irem dX12_byLaw_23 (by omega) (by omega) ?_
  refine y_ic dX12_byLaw_24 ⟨by decide, by decide⟩ ?_
  refine x_icmp_ne (tgt := 32) dX12_byLaw_25 rfl (fun h25 => ?_) (fun h25 => ?_)
  · refine y_ic dX12_byLaw_32 ⟨by decide, by decide⟩ ?_
    refine y_putz (z := 7) dX12_byLaw_33 frX12_325 cfX12 at91 rfl rfl rfl (by omega) ?_
    refine x_keep [1, 0, 1, 1, 1, 0] ?_
    exact hL _ (by omega)
  · refine y_ic dX12_byLaw_28 ⟨by decide, by decide⟩ ?_
    refine x_goto (tgt := 33) dX12_byLaw_29 rfl ?_
    refine y_putz (z := 7) dX12_byLaw_33 frX12_325 cfX12 at91 rfl rfl rfl (by omega) ?_
    refine x_keep [1, 0, 1, 1, 1, 0] ?_
    exact hL _ (by omega)
theorem c_X12_law {l w : Int} (hW : WP P) (hT : MT I T) (hF : WF T) (hr : RW T (I 98)) : Cv G mX12_law (d + 7) 0 0 [.inr (.inl 91), .inl l, .inl w] NO I P (qI NO (fun r I' P' => P' = P ∧ r = (aif ((0 ≤ l ∧ l ≤ 5) ∧ 0 ≤ w ∧ w ≤ 1) (lawV T (I 98) l w)).2 ∧ I' 91 0 = (aif ((0 ≤ l ∧ l ≤ 5) ∧ 0 ≤ w ∧ w ≤ 1) (lawV T (I 98) l w)).1 ∧ Fr (129 :: frS) (0 :: frF) I I')) := by
  have hT0 : MT (uI I 91 0 0) T := hT.uf (by decide)
  have e98 : uI I 91 0 0 98 = I 98 := uI_ne (by decide)
  have fr0 : Fr (129 :: frS) (0 :: frF) I (uI I 91 0 0) := Fr.rf.uf (by decide)
  refine x_enter mfX12_law rfl (Nat.le_of_ble_eq_true rfl) (fun _ => ?_)
  refine y_aln (i := 0) dX12_law_0 at91.ne0 rfl rfl ?_
  refine y_ic dX12_law_1 ⟨by decide, by decide⟩ ?_
  refine y_puti (z := 0) dX12_law_2 frX12_184 cfX12 at91 rfl rfl rfl ?_
  refine y_aln (i := 0) dX12_law_5 at91.ne0 rfl rfl ?_
  refine x_iload_n (i := 1) dX12_law_6 rfl rfl ?_
  refine y_ic dX12_law_7 ⟨by decide, by decide⟩ ?_
  refine y_ic dX12_law_8 ⟨by decide, by decide⟩ ?_
  refine x_callSI (c_X12_within) dX12_law_9 lkX12_354 mfX12_within rfl rfl rfl (Nat.le_of_ble_eq_true rfl) (fun r9 I9 P9 hr9 hf9 => ?_)
  obtain ⟨i9, p9, q9⟩ := hf9
  rw [i9, p9]
  refine x_if_eq (tgt := 28) dX12_law_12 rfl (fun h12 => ?_) (fun h12 => ?_)
  · refine y_ic dX12_law_28 ⟨by decide, by decide⟩ ?_
    refine y_ic dX12_law_29 ⟨by decide, by decide⟩ ?_
    refine x_callVI (c_X12_right2 hW (by first | rw [uI_eq, u1_eq] | assumption) (by omega) (by decide)) dX12_law_30 lkX12_309 mfX12_right cfX12 at91 rfl rfl rfl rfl (Nat.le_of_ble_eq_true rfl) (fun r30 I30 P30 hr30 hf30 => ?_)
    obtain ⟨rfl, e30, i30⟩ := hf30
    rw [i30]
    refine x_if_eq (tgt := 45) dX12_law_33 rfl (fun h33 => ?_) (fun h33 => ?_)
    · rw [ifn_0 (by omega)]
      refine y_ic dX12_law_45 ⟨by decide, by decide⟩ ?_
      refine x_iret dX12_law_46 rfl ?_
      first | (rw [aif_0 (by omega)]; exact ⟨rfl, rfl, by rw [uI_eq, u1_eq], fr0.uf (by decide)⟩) | (rw [aif_1 (by omega)]; exact ⟨rfl, r39e, (fr39.2 0 (by decide)).trans (by rw [uI_eq, u1_eq]), fr0.tr (fr39.mo (by decide) (by decide))⟩)
    · rw [ifn_1 (by omega)]
      refine y_aln (i := 0) dX12_law_36 at91.ne0 rfl rfl ?_
      refine x_iload_n (i := 1) dX12_law_37 rfl rfl ?_
      refine x_iload_n (i := 2) dX12_law_38 rfl rfl ?_
      refine x_callVI (c_X12_byLaw hW hT0 hF (by rw [e98]; exact hr) (by omega) (by omega)) dX12_law_39 lkX12_537 mfX12_byLaw cfX12 at91 rfl rfl rfl rfl (Nat.le_of_ble_eq_true rfl) (fun r39 I39 P39 hr39 hf39 => ?_)
      obtain ⟨rfl, r39e, fr39⟩ := hf39
      rw [e98] at r39e
      refine x_goto (tgt := 46) dX12_law_42 rfl ?_
      refine x_iret dX12_law_46 rfl ?_
      first | (rw [aif_0 (by omega)]; exact ⟨rfl, rfl, by rw [uI_eq, u1_eq], fr0.uf (by decide)⟩) | (rw [aif_1 (by omega)]; exact ⟨rfl, r39e, (fr39.2 0 (by decide)).trans (by rw [uI_eq, u1_eq]), fr0.tr (fr39.mo (by decide) (by decide))⟩)
  · refine x_iload_n (i := 2) dX12_law_15 rfl rfl ?_
    refine x_if_eq (tgt := 24) dX12_law_16 rfl (fun h16 => ?_) (fun h16 => ?_)
    · refine y_ic dX12_law_24 ⟨by decide, by decide⟩ ?_
      refine x_goto (tgt := 29) dX12_law_25 rfl ?_
      refine y_ic dX12_law_29 ⟨by decide, by decide⟩ ?_
      refine x_callVI (c_X12_right2 hW (by first | rw [uI_eq, u1_eq] | assumption) (by omega) (by decide)) dX12_law_30 lkX12_309 mfX12_right cfX12 at91 rfl rfl rfl rfl (Nat.le_of_ble_eq_true rfl) (fun r30 I30 P30 hr30 hf30 => ?_)
      obtain ⟨rfl, e30, i30⟩ := hf30
      rw [i30]
      refine x_if_eq (tgt := 45) dX12_law_33 rfl (fun h33 => ?_) (fun h33 => ?_)
      · rw [ifn_0 (by omega)]
        refine y_ic dX12_law_45 ⟨by decide, by decide⟩ ?_
        refine x_iret dX12_law_46 rfl ?_
        first | (rw [aif_0 (by omega)]; exact ⟨rfl, rfl, by rw [uI_eq, u1_eq], fr0.uf (by decide)⟩) | (rw [aif_1 (by omega)]; exact ⟨rfl, r39e, (fr39.2 0 (by decide)).trans (by rw [uI_eq, u1_eq]), fr0.tr (fr39.mo (by decide) (by decide))⟩)
      · rw [ifn_1 (by omega)]
        refine y_aln (i := 0) dX12_law_36 at91.ne0 rfl rfl ?_
        refine x_iload_n (i := 1) dX12_law_37 rfl rfl ?_
        refine x_iload_n (i := 2) dX12_law_38 rfl rfl ?_
        refine x_callVI (c_X12_byLaw hW hT0 hF (by rw [e98]; exact hr) (by omega) (by omega)) dX12_law_39 lkX12_537 mfX12_byLaw cfX12 at91 rfl rfl rfl rfl (Nat.le_of_ble_eq_true rfl) (fun r39 I39 P39 hr39 hf39 => ?_)
        obtain ⟨rfl, r39e, fr39⟩ := hf39
        rw [e98] at r39e
        refine x_goto (tgt := 46) dX12_law_42 rfl ?_
        refine x_iret dX12_law_46 rfl ?_
        first | (rw [aif_0 (by omega)]; exact ⟨rfl, rfl, by rw [uI_eq, u1_eq], fr0.uf (by decide)⟩) | (rw [aif_1 (by omega)]; exact ⟨rfl, r39e, (fr39.2 0 (by decide)).trans (by rw [uI_eq, u1_eq]), fr0.tr (fr39.mo (by decide) (by decide))⟩)
    · refine x_iload_n (i := 2) dX12_law_19 rfl rfl ?_
      refine y_ic dX12_law_20 ⟨by decide, by decide⟩ ?_
      refine x_icmp_ne (tgt := 28) dX12_law_21 rfl (fun h21 => ?_) (fun h21 => ?_)
      · refine y_ic dX12_law_28 ⟨by decide, by decide⟩ ?_
        refine y_ic dX12_law_29 ⟨by decide, by decide⟩ ?_
        refine x_callVI (c_X12_right2 hW (by first | rw [uI_eq, u1_eq] | assumption) (by omega) (by decide)) dX12_law_30 lkX12_309 mfX12_right cfX12 at91 rfl rfl rfl rfl (Nat.le_of_ble_eq_true rfl) (fun r30 I30 P30 hr30 hf30 => ?_)
        obtain ⟨rfl, e30, i30⟩ := hf30
        rw [i30]
        refine x_if_eq (tgt := 45) dX12_law_33 rfl (fun h33 => ?_) (fun h33 => ?_)
        · rw [ifn_0 (by omega)]
          refine y_ic dX12_law_45 ⟨by decide, by decide⟩ ?_
          refine x_iret dX12_law_46 rfl ?_
          first | (rw [aif_0 (by omega)]; exact ⟨rfl, rfl, by rw [uI_eq, u1_eq], fr0.uf (by decide)⟩) | (rw [aif_1 (by omega)]; exact ⟨rfl, r39e, (fr39.2 0 (by decide)).trans (by rw [uI_eq, u1_eq]), fr0.tr (fr39.mo (by decide) (by decide))⟩)
        · rw [ifn_1 (by omega)]
          refine y_aln (i := 0) dX12_law_36 at91.ne0 rfl rfl ?_
          refine x_iload_n (i := 1) dX12_law_37 rfl rfl ?_
          refine x_iload_n (i := 2) dX12_law_38 rfl rfl ?_
          refine x_callVI (c_X12_byLaw hW hT0 hF (by rw [e98]; exact hr) (by omega) (by omega)) dX12_law_39 lkX12_537 mfX12_byLaw cfX12 at91 rfl rfl rfl rfl (Nat.le_of_ble_eq_true rfl) (fun r39 I39 P39 hr39 hf39 => ?_)
          obtain ⟨rfl, r39e, fr39⟩ := hf39
          rw [e98] at r39e
          refine x_goto (tgt := 46) dX12_law_42 rfl ?_
          refine x_iret dX12_law_46 rfl ?_
          first | (rw [aif_0 (by omega)]; exact ⟨rfl, rfl, by rw [uI_eq, u1_eq], fr0.uf (by decide)⟩) | (rw [aif_1 (by omega)]; exact ⟨rfl, r39e, (fr39.2 0 (by decide)).trans (by rw [uI_eq, u1_eq]), fr0.tr (fr39.mo (by decide) (by decide))⟩)
      · refine y_ic dX12_law_24 ⟨by decide, by decide⟩ ?_
        refine x_goto (tgt := 29) dX12_law_25 rfl ?_
        refine y_ic dX12_law_29 ⟨by decide, by decide⟩ ?_
        refine x_callVI (c_X12_right2 hW (by first | rw [uI_eq, u1_eq] | assumption) (by omega) (by decide)) dX12_law_30 lkX12_309 mfX12_right cfX12 at91 rfl rfl rfl rfl (Nat.le_of_ble_eq_true rfl) (fun r30 I30 P30 hr30 hf30 => ?_)
        obtain ⟨rfl, e30, i30⟩ := hf30
        rw [i30]
        refine x_if_eq (tgt := 45) dX12_law_33 rfl (fun h33 => ?_) (fun h33 => ?_)
        · rw [ifn_0 (by omega)]
          refine y_ic dX12_law_45 ⟨by decide, by decide⟩ ?_
          refine x_iret dX12_law_46 rfl ?_
          first | (rw [aif_0 (by omega)]; exact ⟨rfl, rfl, by rw [uI_eq, u1_eq], fr0.uf (by decide)⟩) | (rw [aif_1 (by omega)]; exact ⟨rfl, r39e, (fr39.2 0 (by decide)).trans (by rw [uI_eq, u1_eq]), fr0.tr (fr39.mo (by decide) (by decide))⟩)
        · rw [ifn_1 (by omega)]
          refine y_aln (i := 0) dX12_law_36 at91.ne0 rfl rfl ?_
          refine x_iload_n (i := 1) dX12_law_37 rfl rfl ?_
          refine x_iload_n (i := 2) dX12_law_38 rfl rfl ?_
          refine x_callVI (c_X12_byLaw hW hT0 hF (by rw [e98]; exact hr) (by omega) (by omega)) dX12_law_39 lkX12_537 mfX12_byLaw cfX12 at91 rfl rfl rfl rfl (Nat.le_of_ble_eq_true rfl) (fun r39 I39 P39 hr39 hf39 => ?_)
          obtain ⟨rfl, r39e, fr39⟩ := hf39
          rw [e98] at r39e
          refine x_goto (tgt := 46) dX12_law_42 rfl ?_
          refine x_iret dX12_law_46 rfl ?_
          first | (rw [aif_0 (by omega)]; exact ⟨rfl, rfl, by rw [uI_eq, u1_eq], fr0.uf (by decide)⟩) | (rw [aif_1 (by omega)]; exact ⟨rfl, r39e, (fr39.2 0 (by decide)).trans (by rw [uI_eq, u1_eq]), fr0.tr (fr39.mo (by decide) (by decide))⟩)
theorem c_X12_best (hW : WP P) (hT : MT I T) (hF : WF T) (hr : RW T (I 98)) : Cv G mX12_best (d + 7) 0 0 [.inr (.inl 91)] NO I P (qI NO (fun r I' P' => P' = P ∧ r = bestL T (I 98) ∧ I' 91 0 = 0 ∧ Fr (129 :: frS) (0 :: frF) I I')) := by
  refine x_enter mfX12_best rfl (Nat.le_of_ble_eq_true rfl) (fun _ => ?_)
  have hL : ∀ (j : Nat) (l : Int) (K : Mem), (6 - l).toNat < j → 0 ≤ l → l ≤ 6 → K 91 0 = 0 → Fr (129 :: frS) (0 :: frF) I K → V G mX12_best (d + 7) 0 0 11 [some (.inr (.inl 91)), some (.inl ((itN (fun l x => bestB T (I 98) l x) l (0, -1)).1)), some (.inl ((itN (fun l x => bestB T (I 98) l x) l (0, -1)).2)), some (.inl (l)), none] [] NO K P (qI NO (fun r I' P' => P' = P ∧ r = bestL T (I 98) ∧ I' 91 0 = 0 ∧ Fr (129 :: frS) (0 :: frF) I I')) := by
    intro j
    induction j with
    | zero => intro l K hj; omega
    | succ j ih =>
      intro l K hj hl hl2 h0 hFr
      have hTK := hT.fr hFr
      have e98 : K 98 = I 98 := hFr.1 98 (by decide) (by decide)
      have es := itN_s (fun l x => bestB T (I 98) l x) ((0 : Int), (-1 : Int)) hl
      obtain ⟨x, hx⟩ : ∃ x, x = itN (fun l x => bestB T (I 98) l x) l ((0 : Int), (-1 : Int)) := ⟨_, rfl⟩
      have nx : ∀ (a b : Int) (K' : Mem), a = (bestB T (I 98) l x).1 → b = (bestB T (I 98) l x).2 → l < 6 → K' 91 0 = 0 → Fr (129 :: frS) (0 :: frF) I K' → V G mX12_best (d + 7) 0 0 11 [some (.inr (.inl 91)), some (.inl (a)), some (.inl (b)), some (.inl (l + 1)), none] [] NO K' P (qI NO (fun r I' P' => P' = P ∧ r = bestL T (I 98) ∧ I' 91 0 = 0 ∧ Fr (129 :: frS) (0 :: frF) I I')) := fun a b K' ha hb hl3 q0 qF => by
        have := ih (l + 1) K' (by omega) (by omega) (by omega) q0 qF
        rw [es, ← hx, ← ha, ← hb] at this
        exact this
      rw [← hx]
      refine x_iload_n (i := 3) dX12_best_11 rfl rfl ?_
      refine y_bi dX12_best_12 ⟨by decide, by decide⟩ ?_
      refine x_icmp_ge (tgt := 56) dX12_best_14 rfl (fun h14 => ?_) (fun h14 => ?_)
      · refine x_iload_n (i := 1) dX12_best_56 rfl rfl ?_
        refine x_iret dX12_best_57 rfl ?_
        refine ⟨rfl, ?_, h0, hFr⟩
        rw [hx, show l = 6 by omega]; rfl
      · refine y_aln (i := 0) dX12_best_17 at91.ne0 rfl rfl ?_
        refine x_iload_n (i := 3) dX12_best_18 rfl rfl ?_
        refine y_ic dX12_best_19 ⟨by decide, by decide⟩ ?_
        refine x_callVI (c_X12_byLaw hW hTK hF (by rw [e98]; exact hr) (by omega) (by decide)) dX12_best_20 lkX12_537 mfX12_byLaw cfX12 at91 rfl rfl rfl rfl (Nat.le_of_ble_eq_true rfl) (fun r20 I20 P20 hr20 hf20 => ?_)
        obtain ⟨rfl, r20e, fr20⟩ := hf20
        rw [e98] at r20e
        rw [r20e]
        have z20 : I20 91 0 = 0 := (fr20.2 0 (by decide)).trans h0
        have fr20' := hFr.tr (fr20.mo (by decide) (by decide))
        refine x_istore (i := 4) dX12_best_23 rfl (Nat.le_of_ble_eq_true rfl) ?_
        refine x_iload (i := 4) dX12_best_25 rfl ?_
        refine x_iload_n (i := 2) dX12_best_27 rfl rfl ?_
        refine x_icmp_le (tgt := 35) dX12_best_28 rfl (fun h28 => ?_) (fun h28 => ?_)
        · refine x_iload_n (i := 1) dX12_best_35 rfl rfl ?_
          refine x_istore_n (i := 1) dX12_best_36 rfl rfl (Nat.le_of_ble_eq_true rfl) ?_
          refine x_iload (i := 4) dX12_best_37 rfl ?_
          refine x_iload_n (i := 2) dX12_best_39 rfl rfl ?_
          refine x_icmp_le (tgt := 48) dX12_best_40 rfl (fun h40 => ?_) (fun h40 => ?_)
          · refine x_iload_n (i := 2) dX12_best_48 rfl rfl ?_
            refine x_istore_n (i := 2) dX12_best_49 rfl rfl (Nat.le_of_ble_eq_true rfl) ?_
            refine x_iinc dX12_best_50 rfl ⟨by omega, by omega⟩ rfl (Nat.le_of_ble_eq_true rfl) ?_
            refine x_goto (tgt := 11) dX12_best_53 rfl ?_
            refine x_keep [1, 1, 1, 1, 0] ?_
            refine nx _ _ _ ?_ ?_ (by omega) z20 fr20'
            · unfold bestB; dsimp only; first | (rw [if_pos (by omega)]; done) | (rw [if_neg (by omega)]; done)
            · unfold bestB; dsimp only; first | (rw [if_pos (by omega)]; done) | (rw [if_neg (by omega)]; done)
          · refine x_iload (i := 4) dX12_best_43 rfl ?_
            refine x_goto (tgt := 49) dX12_best_45 rfl ?_
            refine x_istore_n (i := 2) dX12_best_49 rfl rfl (Nat.le_of_ble_eq_true rfl) ?_
            refine x_iinc dX12_best_50 rfl ⟨by omega, by omega⟩ rfl (Nat.le_of_ble_eq_true rfl) ?_
            refine x_goto (tgt := 11) dX12_best_53 rfl ?_
            refine x_keep [1, 1, 1, 1, 0] ?_
            refine nx _ _ _ ?_ ?_ (by omega) z20 fr20'
            · unfold bestB; dsimp only; first | (rw [if_pos (by omega)]; done) | (rw [if_neg (by omega)]; done)
            · unfold bestB; dsimp only; first | (rw [if_pos (by omega)]; done) | (rw [if_neg (by omega)]; done)
        · refine x_iload_n (i := 3) dX12_best_31 rfl rfl ?_
          refine x_goto (tgt := 36) dX12_best_32 rfl ?_
          refine x_istore_n (i := 1) dX12_best_36 rfl rfl (Nat.le_of_ble_eq_true rfl) ?_
          refine x_iload (i := 4) dX12_best_37 rfl ?_
          refine x_iload_n (i := 2) dX12_best_39 rfl rfl ?_
          refine x_icmp_le (tgt := 48) dX12_best_40 rfl (fun h40 => ?_) (fun h40 => ?_)
          · refine x_iload_n (i := 2) dX12_best_48 rfl rfl ?_
            refine x_istore_n (i := 2) dX12_best_49 rfl rfl (Nat.le_of_ble_eq_true rfl) ?_
            refine x_iinc dX12_best_50 rfl ⟨by omega, by omega⟩ rfl (Nat.le_of_ble_eq_true rfl) ?_
            refine x_goto (tgt := 11) dX12_best_53 rfl ?_
            refine x_keep [1, 1, 1, 1, 0] ?_
            refine nx _ _ _ ?_ ?_ (by omega) z20 fr20'
            · unfold bestB; dsimp only; first | (rw [if_pos (by omega)]; done) | (rw [if_neg (by omega)]; done)
            · unfold bestB; dsimp only; first | (rw [if_pos (by omega)]; done) | (rw [if_neg (by omega)]; done)
          · refine x_iload (i := 4) dX12_best_43 rfl ?_
            refine x_goto (tgt := 49) dX12_best_45 rfl ?_
            refine x_istore_n (i := 2) dX12_best_49 rfl rfl (Nat.le_of_ble_eq_true rfl) ?_
            refine x_iinc dX12_best_50 rfl ⟨by omega, by omega⟩ rfl (Nat.le_of_ble_eq_true rfl) ?_
            refine x_goto (tgt := 11) dX12_best_53 rfl ?_
            refine x_keep [1, 1, 1, 1, 0] ?_
            refine nx _ _ _ ?_ ?_ (by omega) z20 fr20'
            · unfold bestB; dsimp only; first | (rw [if_pos (by omega)]; done) | (rw [if_neg (by omega)]; done)
            · unfold bestB; dsimp only; first | (rw [if_pos (by omega)]; done) | (rw [if_neg (by omega)]; done)
  refine y_aln (i := 0) dX12_best_0 at91.ne0 rfl rfl ?_
  refine y_ic dX12_best_1 ⟨by decide, by decide⟩ ?_
  refine y_puti (z := 0) dX12_best_2 frX12_184 cfX12 at91 rfl rfl rfl ?_
  refine y_ic dX12_best_5 ⟨by decide, by decide⟩ ?_
  refine x_istore_n (i := 1) dX12_best_6 rfl rfl (Nat.le_of_ble_eq_true rfl) ?_
  refine y_ic dX12_best_7 ⟨by decide, by decide⟩ ?_
  refine x_istore_n (i := 2) dX12_best_8 rfl rfl (Nat.le_of_ble_eq_true rfl) ?_
  refine y_ic dX12_best_9 ⟨by decide, by decide⟩ ?_
  refine x_istore_n (i := 3) dX12_best_10 rfl rfl (Nat.le_of_ble_eq_true rfl) ?_
  refine x_keep [1, 1, 1, 1, 0] ?_
  exact hL _ 0 _ (Nat.lt_succ_self _) (by omega) (by omega) (by rw [uI_eq, u1_eq]) (Fr.rf.uf (by decide))
theorem c_X12_run {n s : Int} (hW : WP P) (hT : MT I T) (hF : WF T) (hr : RW T (I 98)) : Cv G mX12_run (d + 4) 0 0 [.inr (.inl 91), .inl n, .inl s] NO I P (qI NO (fun r I' P' => P' = P ∧ ((¬ ((0 ≤ n ∧ n ≤ 400) ∧ 2 ≤ T 0 1) ∧ r = 0 ∧ I' = uI I 91 0 1) ∨ (((0 ≤ n ∧ n ≤ 400) ∧ 2 ≤ T 0 1) ∧ r = (runS T n s (I 98)).2.1 ∧ I' 98 = (runS T n s (I 98)).2.2 ∧ I' 91 0 = 0 ∧ Fr (98 :: frS) (0 :: frF) I I')))) := by
  have hT0 : MT (uI I 91 0 0) T := hT.uf (by decide)
  have e10 : uI I 91 0 0 91 1 = T 0 1 := hT0.1 1 (by decide) (by decide)
  have e98 : uI I 91 0 0 98 = I 98 := uI_ne (by decide)
  have f1 := hF.1
  refine x_enter mfX12_run rfl (Nat.le_of_ble_eq_true rfl) (fun _ => ?_)
  have hL : ∀ (j : Nat) (k : Int) (K : Mem), (n - k).toNat < j → 0 ≤ k → k ≤ n → n ≤ 400 → 2 ≤ T 0 1 → K 98 = (runS T k s (I 98)).2.2 → K 91 0 = 0 → Fr (98 :: frS) (0 :: frF) I K → V G mX12_run (d + 4) 0 0 47 [some (.inr (.inl 91)), some (.inl (n)), none, some (.inl ((runS T k s (I 98)).1)), some (.inl ((runS T k s (I 98)).2.1)), some (.inl (k)), none, none] [] NO K P (qI NO (fun r I' P' => P' = P ∧ ((¬ ((0 ≤ n ∧ n ≤ 400) ∧ 2 ≤ T 0 1) ∧ r = 0 ∧ I' = uI I 91 0 1) ∨ (((0 ≤ n ∧ n ≤ 400) ∧ 2 ≤ T 0 1) ∧ r = (runS T n s (I 98)).2.1 ∧ I' 98 = (runS T n s (I 98)).2.2 ∧ I' 91 0 = 0 ∧ Fr (98 :: frS) (0 :: frF) I I')))) := by
    intro j
    induction j with
    | zero => intro k K hj; omega
    | succ j ih =>
      intro k K hj hk hk2 hn ht hK h0 hFr
      have hTK := hT.fr hFr
      have e1 : K 91 1 = T 0 1 := hTK.1 1 (by decide) (by decide)
      have ho := runS_ok (s := s) hF hr ht hk
      have es := runS_s (T := T) (s := s) (r := I 98) hk
      obtain ⟨x, hx⟩ : ∃ x, x = runS T k s (I 98) := ⟨_, rfl⟩
      rw [← hx] at hK ho es ⊢
      have h2 := run_two (T := T) (s := x.1) ht
      have ba := and15 (shrF (seedS x.1) 16)
      have bb := and15 (shrF (seedS (seedS x.1)) 16)
      have es1 : ∀ s : Int, wr (wr (s * 1103515245) + 12345) = seedS s := fun _ => rfl
      have ed1 : andF (shrF (seedS x.1) 16) 32767 % T 0 1 = runA T x.1 := rfl
      have ed2 : andF (shrF (seedS (seedS x.1)) 16) 32767 % (T 0 1 - 1) = drawS (seedS (seedS x.1)) (T 0 1 - 1) := rfl
      have hC : ∀ i : Int, i = (if drawS (seedS (seedS x.1)) (T 0 1 - 1) ≥ runA T x.1 then 1 else 0) → drawS (seedS (seedS x.1)) (T 0 1 - 1) + i = runC T x.1 := fun i hi => by rw [hi]; rfl
      have hdr : 0 ≤ drawS (seedS (seedS x.1)) (T 0 1 - 1) ∧ drawS (seedS (seedS x.1)) (T 0 1 - 1) < T 0 1 := by
        rw [← ed2]
        have a1 := Int.emod_nonneg (andF (shrF (seedS (seedS x.1)) 16) 32767) (show T 0 1 - 1 ≠ 0 by omega)
        have a2 := Int.emod_lt_of_pos (andF (shrF (seedS (seedS x.1)) 16) 32767) (show 0 < T 0 1 - 1 by omega)
        omega
      have nx : ∀ (i : Int) (K' : Mem), i = (if 0 < (meetS T x.2.2 (runA T x.1) (runC T x.1)).1 then 1 else 0) → k < n → K' 98 = (meetS T x.2.2 (runA T x.1) (runC T x.1)).2 → K' 91 0 = 0 → Fr (98 :: frS) (0 :: frF) I K' → V G mX12_run (d + 4) 0 0 47 [some (.inr (.inl 91)), some (.inl (n)), none, some (.inl (seedS (seedS x.1))), some (.inl (x.2.1 + i)), some (.inl (k + 1)), none, none] [] NO K' P (qI NO (fun r I' P' => P' = P ∧ ((¬ ((0 ≤ n ∧ n ≤ 400) ∧ 2 ≤ T 0 1) ∧ r = 0 ∧ I' = uI I 91 0 1) ∨ (((0 ≤ n ∧ n ≤ 400) ∧ 2 ≤ T 0 1) ∧ r = (runS T n s (I 98)).2.1 ∧ I' 98 = (runS T n s (I 98)).2.2 ∧ I' 91 0 = 0 ∧ Fr (98 :: frS) (0 :: frF) I I')))) := fun i K' hi hkn q1 q2 q3 => by
        have := ih (k + 1) K' (by omega) (by omega) (by omega) hn ht (by rw [es]; exact q1) q2 q3
        rw [es] at this
        rw [hi]
        exact this
      have hM : k < n → ∀ b : Int, b = runC T x.1 → V G mX12_run (d + 4) 0 0 122 [some (.inr (.inl 91)), some (.inl (n)), none, some (.inl (seedS (seedS x.1))), some (.inl (x.2.1)), some (.inl (k)), some (.inl (runA T x.1)), some (.inl (b))] [] NO K P (qI NO (fun r I' P' => P' = P ∧ ((¬ ((0 ≤ n ∧ n ≤ 400) ∧ 2 ≤ T 0 1) ∧ r = 0 ∧ I' = uI I 91 0 1) ∨ (((0 ≤ n ∧ n ≤ 400) ∧ 2 ≤ T 0 1) ∧ r = (runS T n s (I 98)).2.1 ∧ I' 98 = (runS T n s (I 98)).2.2 ∧ I' 91 0 = 0 ∧ Fr (98 :: frS) (0 :: frF) I I')))) := fun hkn b hb => by
        rw [hb]
        refine x_iload (i := 4) dX12_run_122 rfl ?_
        refine y_aln (i := 0) dX12_run_124 at91.ne0 rfl rfl ?_
        refine y_aln (i := 0) dX12_run_125 at91.ne0 rfl rfl ?_
        refine y_getp (z := 14) (v := 98) dX12_run_126 frX12_38 cfX12 at91 rfl rfl (wp (v := 98) hW rfl rfl (by decide)) ?_
        refine x_iload (i := 6) dX12_run_129 rfl ?_
        refine x_iload (i := 7) dX12_run_131 rfl ?_
        refine x_callVI (c_X12_meet0 hW hTK hF ar98 (by decide) (by rw [hK]; exact ho.1) h2.1 h2.2.1 h2.2.2) dX12_run_133 lkX12_478 mfX12_meet0 cfX12 at91 rfl rfl rfl rfl (Nat.le_of_ble_eq_true rfl) (fun r133 I133 P133 hr133 hf133 => ?_)
        obtain ⟨rfl, p133, o133, fr133⟩ := hf133
        rw [hK] at p133 o133
        have z133 : I133 91 0 = 0 := (fr133.2 0 (by decide)).trans h0
        have fr133' := hFr.tr (fr133.mo (by decide) (by decide))
        refine x_if_le (tgt := 143) dX12_run_136 rfl (fun h136 => ?_) (fun h136 => ?_)
        · refine y_ic dX12_run_143 ⟨by decide, by decide⟩ ?_
          refine x_iadd dX12_run_144 ⟨by omega, by omega⟩ ?_
          refine x_istore (i := 4) dX12_run_145 rfl (Nat.le_of_ble_eq_true rfl) ?_
          refine x_iinc dX12_run_147 rfl ⟨by omega, by omega⟩ rfl (Nat.le_of_ble_eq_true rfl) ?_
          refine x_goto (tgt := 47) dX12_run_150 rfl ?_
          refine x_keep [1, 1, 0, 1, 1, 1, 0, 0] ?_
          exact nx _ _ (by first | exact (if_pos (by omega)).symm | exact (if_neg (by omega)).symm) hkn o133 z133 fr133'
        · refine y_ic dX12_run_139 ⟨by decide, by decide⟩ ?_
          refine x_goto (tgt := 144) dX12_run_140 rfl ?_
          refine x_iadd dX12_run_144 ⟨by omega, by omega⟩ ?_
          refine x_istore (i := 4) dX12_run_145 rfl (Nat.le_of_ble_eq_true rfl) ?_
          refine x_iinc dX12_run_147 rfl ⟨by omega, by omega⟩ rfl (Nat.le_of_ble_eq_true rfl) ?_
          refine x_goto (tgt := 47) dX12_run_150 rfl ?_
          refine x_keep [1, 1, 0, 1, 1, 1, 0, 0] ?_
          exact nx _ _ (by first | exact (if_pos (by omega)).symm | exact (if_neg (by omega)).symm) hkn o133 z133 fr133'
      refine x_iload (i := 5) dX12_run_47 rfl ?_
      refine x_iload_n (i := 1) dX12_run_49 rfl rfl ?_
      refine x_icmp_ge (tgt := 153) dX12_run_50 rfl (fun h50 => ?_) (fun h50 => ?_)
      · refine x_iload (i := 4) dX12_run_153 rfl ?_
        refine x_iret dX12_run_155 rfl ?_
        refine ⟨rfl, Or.inr ⟨by omega, ?_, ?_, h0, hFr⟩⟩
        · rw [hx, show k = n by omega]
        · rw [hK, hx, show k = n by omega]
      · refine x_iload_n (i := 3) dX12_run_53 rfl rfl ?_
        refine y_ldcw dX12_run_54 kcX12_540 (show _ = oI (1103515245) from rfl) ⟨by decide, by decide⟩ ?_
        refine x_imulW dX12_run_57 ?_
        refine y_si dX12_run_58 ⟨by decide, by decide⟩ ?_
        refine x_iaddW dX12_run_61 ?_
        rw [es1]
        refine x_istore_n (i := 3) dX12_run_62 rfl rfl (Nat.le_of_ble_eq_true rfl) ?_
        refine x_iload_n (i := 3) dX12_run_63 rfl rfl ?_
        refine y_bi dX12_run_64 ⟨by decide, by decide⟩ ?_
        refine y_ishr dX12_run_66 ?_
        refine y_si dX12_run_67 ⟨by decide, by decide⟩ ?_
        refine y_iand dX12_run_70 ?_
        refine y_aln (i := 0) dX12_run_71 at91.ne0 rfl rfl ?_
        refine y_geti (z := 1) dX12_run_72 frX12_316 cfX12 at91 rfl rfl ?_
        rw [e1]
        refine x_irem dX12_run_75 (by omega) (by omega) ?_
        rw [ed1]
        refine x_istore (i := 6) dX12_run_76 rfl (Nat.le_of_ble_eq_true rfl) ?_
        refine x_iload_n (i := 3) dX12_run_78 rfl rfl ?_
        refine y_ldcw dX12_run_79 kcX12_540 (show _ = oI (1103515245) from rfl) ⟨by decide, by decide⟩ ?_
        refine x_imulW dX12_run_82 ?_
        refine y_si dX12_run_83 ⟨by decide, by decide⟩ ?_
        refine x_iaddW dX12_run_86 ?_
        rw [es1]
        refine x_istore_n (i := 3) dX12_run_87 rfl rfl (Nat.le_of_ble_eq_true rfl) ?_
        refine x_iload_n (i := 3) dX12_run_88 rfl rfl ?_
        refine y_bi dX12_run_89 ⟨by decide, by decide⟩ ?_
        refine y_ishr dX12_run_91 ?_
        refine y_si dX12_run_92 ⟨by decide, by decide⟩ ?_
        refine y_iand dX12_run_95 ?_
        refine y_aln (i := 0) dX12_run_96 at91.ne0 rfl rfl ?_
        refine y_geti (z := 1) dX12_run_97 frX12_316 cfX12 at91 rfl rfl ?_
        rw [e1]
        refine y_ic dX12_run_100 ⟨by decide, by decide⟩ ?_
        refine x_isub dX12_run_101 ⟨by omega, by omega⟩ ?_
        refine x_irem dX12_run_102 (by omega) (by omega) ?_
        rw [ed2]
        refine x_istore (i := 7) dX12_run_103 rfl (Nat.le_of_ble_eq_true rfl) ?_
        refine x_iload (i := 7) dX12_run_105 rfl ?_
        refine x_iload (i := 7) dX12_run_107 rfl ?_
        refine x_iload (i := 6) dX12_run_109 rfl ?_
        refine x_icmp_lt (tgt := 118) dX12_run_111 rfl (fun h111 => ?_) (fun h111 => ?_)
        · refine y_ic dX12_run_118 ⟨by decide, by decide⟩ ?_
          refine x_iadd dX12_run_119 ⟨by omega, by omega⟩ ?_
          refine x_istore (i := 7) dX12_run_120 rfl (Nat.le_of_ble_eq_true rfl) ?_
          refine x_keep [1, 1, 0, 1, 1, 1, 1, 1] ?_
          exact hM (by omega) _ (by first | exact hC 1 (by rw [if_pos (by omega)]) | exact hC 0 (by rw [if_neg (by omega)]))
        · refine y_ic dX12_run_114 ⟨by decide, by decide⟩ ?_
          refine x_goto (tgt := 119) dX12_run_115 rfl ?_
          refine x_iadd dX12_run_119 ⟨by omega, by omega⟩ ?_
          refine x_istore (i := 7) dX12_run_120 rfl (Nat.le_of_ble_eq_true rfl) ?_
          refine x_keep [1, 1, 0, 1, 1, 1, 1, 1] ?_
          exact hM (by omega) _ (by first | exact hC 1 (by rw [if_pos (by omega)]) | exact hC 0 (by rw [if_neg (by omega)]))
  refine y_aln (i := 0) dX12_run_0 at91.ne0 rfl rfl ?_
  refine y_ic dX12_run_1 ⟨by decide, by decide⟩ ?_
  refine y_puti (z := 0) dX12_run_2 frX12_184 cfX12 at91 rfl rfl rfl ?_
  refine y_aln (i := 0) dX12_run_5 at91.ne0 rfl rfl ?_
  refine x_iload_n (i := 1) dX12_run_6 rfl rfl ?_
  refine y_ic dX12_run_7 ⟨by decide, by decide⟩ ?_
  refine y_si dX12_run_8 ⟨by decide, by decide⟩ ?_
  refine x_callSI (c_X12_within) dX12_run_11 lkX12_354 mfX12_within rfl rfl rfl (Nat.le_of_ble_eq_true rfl) (fun r11 I11 P11 hr11 hf11 => ?_)
  obtain ⟨i11, p11, q11⟩ := hf11
  rw [i11, p11]
  refine x_if_eq (tgt := 29) dX12_run_14 rfl (fun h14 => ?_) (fun h14 => ?_)
  · refine y_ic dX12_run_29 ⟨by decide, by decide⟩ ?_
    refine y_ic dX12_run_30 ⟨by decide, by decide⟩ ?_
    refine x_callVI (c_X12_right2 hW (by first | rw [uI_eq, u1_eq] | assumption) (by omega) (by decide)) dX12_run_31 lkX12_309 mfX12_right cfX12 at91 rfl rfl rfl rfl (Nat.le_of_ble_eq_true rfl) (fun r31 I31 P31 hr31 hf31 => ?_)
    obtain ⟨rfl, e31, i31⟩ := hf31
    rw [i31]
    refine x_if_ne (tgt := 39) dX12_run_34 rfl (fun h34 => ?_) (fun h34 => ?_)
    · rw [ifn_1 (by omega)]
      refine x_iload_n (i := 2) dX12_run_39 rfl rfl ?_
      refine x_istore_n (i := 3) dX12_run_40 rfl rfl (Nat.le_of_ble_eq_true rfl) ?_
      refine y_ic dX12_run_41 ⟨by decide, by decide⟩ ?_
      refine x_istore (i := 4) dX12_run_42 rfl (Nat.le_of_ble_eq_true rfl) ?_
      refine y_ic dX12_run_44 ⟨by decide, by decide⟩ ?_
      refine x_istore (i := 5) dX12_run_45 rfl (Nat.le_of_ble_eq_true rfl) ?_
      refine x_keep [1, 1, 0, 1, 1, 1, 0, 0] ?_
      exact hL _ 0 _ (Nat.lt_succ_self _) (by omega) (by omega) (by omega) (by omega) (by rw [uI_ne (by decide)]; rfl) (by rw [uI_eq, u1_eq]) (Fr.rf.uf (by decide))
    · rw [ifn_0 (by omega)]
      refine y_ic dX12_run_37 ⟨by decide, by decide⟩ ?_
      refine x_iret dX12_run_38 rfl ?_
      exact ⟨rfl, Or.inl ⟨by omega, rfl, uI_uI⟩⟩
  · refine y_aln (i := 0) dX12_run_17 at91.ne0 rfl rfl ?_
    refine y_geti (z := 1) dX12_run_18 frX12_316 cfX12 at91 rfl rfl ?_
    refine y_ic dX12_run_21 ⟨by decide, by decide⟩ ?_
    refine x_icmp_lt (tgt := 29) dX12_run_22 rfl (fun h22 => ?_) (fun h22 => ?_)
    · refine y_ic dX12_run_29 ⟨by decide, by decide⟩ ?_
      refine y_ic dX12_run_30 ⟨by decide, by decide⟩ ?_
      refine x_callVI (c_X12_right2 hW (by first | rw [uI_eq, u1_eq] | assumption) (by omega) (by decide)) dX12_run_31 lkX12_309 mfX12_right cfX12 at91 rfl rfl rfl rfl (Nat.le_of_ble_eq_true rfl) (fun r31 I31 P31 hr31 hf31 => ?_)
      obtain ⟨rfl, e31, i31⟩ := hf31
      rw [i31]
      refine x_if_ne (tgt := 39) dX12_run_34 rfl (fun h34 => ?_) (fun h34 => ?_)
      · rw [ifn_1 (by omega)]
        refine x_iload_n (i := 2) dX12_run_39 rfl rfl ?_
        refine x_istore_n (i := 3) dX12_run_40 rfl rfl (Nat.le_of_ble_eq_true rfl) ?_
        refine y_ic dX12_run_41 ⟨by decide, by decide⟩ ?_
        refine x_istore (i := 4) dX12_run_42 rfl (Nat.le_of_ble_eq_true rfl) ?_
        refine y_ic dX12_run_44 ⟨by decide, by decide⟩ ?_
        refine x_istore (i := 5) dX12_run_45 rfl (Nat.le_of_ble_eq_true rfl) ?_
        refine x_keep [1, 1, 0, 1, 1, 1, 0, 0] ?_
        exact hL _ 0 _ (Nat.lt_succ_self _) (by omega) (by omega) (by omega) (by omega) (by rw [uI_ne (by decide)]; rfl) (by rw [uI_eq, u1_eq]) (Fr.rf.uf (by decide))
      · rw [ifn_0 (by omega)]
        refine y_ic dX12_run_37 ⟨by decide, by decide⟩ ?_
        refine x_iret dX12_run_38 rfl ?_
        exact ⟨rfl, Or.inl ⟨by omega, rfl, uI_uI⟩⟩
    · refine y_ic dX12_run_25 ⟨by decide, by decide⟩ ?_
      refine x_goto (tgt := 30) dX12_run_26 rfl ?_
      refine y_ic dX12_run_30 ⟨by decide, by decide⟩ ?_
      refine x_callVI (c_X12_right2 hW (by first | rw [uI_eq, u1_eq] | assumption) (by omega) (by decide)) dX12_run_31 lkX12_309 mfX12_right cfX12 at91 rfl rfl rfl rfl (Nat.le_of_ble_eq_true rfl) (fun r31 I31 P31 hr31 hf31 => ?_)
      obtain ⟨rfl, e31, i31⟩ := hf31
      rw [i31]
      refine x_if_ne (tgt := 39) dX12_run_34 rfl (fun h34 => ?_) (fun h34 => ?_)
      · rw [ifn_1 (by omega)]
        refine x_iload_n (i := 2) dX12_run_39 rfl rfl ?_
        refine x_istore_n (i := 3) dX12_run_40 rfl rfl (Nat.le_of_ble_eq_true rfl) ?_
        refine y_ic dX12_run_41 ⟨by decide, by decide⟩ ?_
        refine x_istore (i := 4) dX12_run_42 rfl (Nat.le_of_ble_eq_true rfl) ?_
        refine y_ic dX12_run_44 ⟨by decide, by decide⟩ ?_
        refine x_istore (i := 5) dX12_run_45 rfl (Nat.le_of_ble_eq_true rfl) ?_
        refine x_keep [1, 1, 0, 1, 1, 1, 0, 0] ?_
        exact hL _ 0 _ (Nat.lt_succ_self _) (by omega) (by omega) (by omega) (by omega) (by rw [uI_ne (by decide)]; rfl) (by rw [uI_eq, u1_eq]) (Fr.rf.uf (by decide))
      · rw [ifn_0 (by omega)]
        refine y_ic dX12_run_37 ⟨by decide, by decide⟩ ?_
        refine x_iret dX12_run_38 rfl ?_
        exact ⟨rfl, Or.inl ⟨by omega, rfl, uI_uI⟩⟩
theorem c_X12_freely (hW : WP P) (hT : MT I T) (hF : WF T) (hr : RW T (I 98)) : Cv G mX12_freely (d + 1) 0 0 [.inr (.inl 91)] NO I P (qI NO (fun r I' P' => P' = P ∧ I' = uI I 91 0 0 ∧ r = freeS T (I 98))) := by
  have hT0 : MT (uI I 91 0 0) T := hT.uf (by decide)
  have e98 : uI I 91 0 0 98 = I 98 := uI_ne (by decide)
  obtain ⟨J, hJ⟩ : ∃ J, J = uI I 91 0 0 := ⟨_, rfl⟩
  rw [← hJ] at hT0 e98
  have f1 := hF.1
  have f2 := hF.2.1
  have f8 := hF.2.2.2.2.2.2.2.1
  have f10 := hF.2.2.2.2.2.2.2.2.2.1
  have f11 := hF.2.2.2.2.2.2.2.2.2.2.1
  have e1 : J 91 1 = T 0 1 := hT0.1 1 (by decide) (by decide)
  have e2 : J 91 2 = T 0 2 := hT0.1 2 (by decide) (by decide)
  have g1 : J 92 = T 1 := hT0.2.1
  have g3 : J 94 = T 3 := hT0.2.2.2.1
  have g4 : J 95 = T 4 := hT0.2.2.2.2.1
  refine x_enter mfX12_freely rfl (Nat.le_of_ble_eq_true rfl) (fun _ => ?_)
  have hP : ∀ (j : Nat) (p v : Int), (T 0 1 - p).toNat < j → 0 ≤ p → p ≤ T 0 1 → v = sumN (fun s => 100 * dearS T s * leftS T (I 98) s) (T 0 2) + sumN (fun p => sumN (fun k => 100 * T 4 (18 * p + 3 * k + 2)) (T 3 p)) p → 0 ≤ v → v ≤ 500000000 + p * 100000 → V G mX12_freely (d + 1) 0 0 95 [some (.inr (.inl 91)), some (.inl (v)), some (.inl (p)), none, none] [] NO J P (qI NO (fun r I' P' => P' = P ∧ I' = uI I 91 0 0 ∧ r = freeS T (I 98))) := by
    intro j
    induction j with
    | zero => intro p v hj; omega
    | succ j ih =>
      intro p v hj hp hp2 hv0 hv1 hv2
      have hK : ∀ (j : Nat) (k u : Int), (T 3 p - k).toNat < j → 0 ≤ k → k ≤ T 3 p → p < T 0 1 → u = v + sumN (fun k => 100 * T 4 (18 * p + 3 * k + 2)) k → 0 ≤ u → u ≤ v + k * 9900 → V G mX12_freely (d + 1) 0 0 105 [some (.inr (.inl 91)), some (.inl (u)), some (.inl (p)), some (.inl (k)), none] [] NO J P (qI NO (fun r I' P' => P' = P ∧ I' = uI I 91 0 0 ∧ r = freeS T (I 98))) := by
        intro j
        induction j with
        | zero => intro k u hj; omega
        | succ j ihk =>
          intro k u hj hk hk2 hp3 hu0 hu1 hu2
          have c10 := f10 p hp hp3
          refine x_iload_n (i := 3) dX12_freely_105 rfl rfl ?_
          refine y_aln (i := 0) dX12_freely_106 at91.ne0 rfl rfl ?_
          refine y_getp (z := 10) (v := 94) dX12_freely_107 frX12_26 cfX12 at91 rfl rfl (wp (v := 94) hW rfl rfl (by decide)) ?_
          refine x_iload_n (i := 2) dX12_freely_110 rfl rfl ?_
          refine x_iald dX12_freely_111 ar94 ⟨by omega, by omega⟩ ?_
          rw [g3]
          refine x_icmp_ge (tgt := 142) dX12_freely_112 rfl (fun h112 => ?_) (fun h112 => ?_)
          · refine x_iinc dX12_freely_142 rfl ⟨by omega, by omega⟩ rfl (Nat.le_of_ble_eq_true rfl) ?_
            refine x_goto (tgt := 95) dX12_freely_145 rfl ?_
            refine x_keep [1, 1, 1, 0, 0] ?_
            exact ih _ _ (by omega) (by omega) (by omega) (by rw [sumN_s _ hp, hu0, hv0, show k = T 3 p by omega]; omega) (by omega) (by omega)
          · have hb := f11 p k hp hp3 hk (by omega)
            refine x_iload_n (i := 1) dX12_freely_115 rfl rfl ?_
            refine y_bi dX12_freely_116 ⟨by decide, by decide⟩ ?_
            refine y_aln (i := 0) dX12_freely_118 at91.ne0 rfl rfl ?_
            refine y_getp (z := 11) (v := 95) dX12_freely_119 frX12_29 cfX12 at91 rfl rfl (wp (v := 95) hW rfl rfl (by decide)) ?_
            refine y_bi dX12_freely_122 ⟨by decide, by decide⟩ ?_
            refine x_iload_n (i := 2) dX12_freely_124 rfl rfl ?_
            refine x_imul dX12_freely_125 ⟨by omega, by omega⟩ ?_
            refine y_ic dX12_freely_126 ⟨by decide, by decide⟩ ?_
            refine x_iload_n (i := 3) dX12_freely_127 rfl rfl ?_
            refine x_imul dX12_freely_128 ⟨by omega, by omega⟩ ?_
            refine x_iadd dX12_freely_129 ⟨by omega, by omega⟩ ?_
            refine y_ic dX12_freely_130 ⟨by decide, by decide⟩ ?_
            refine x_iadd dX12_freely_131 ⟨by omega, by omega⟩ ?_
            refine x_iald dX12_freely_132 ar95 ⟨by omega, by omega⟩ ?_
            rw [g4]
            refine x_imul dX12_freely_133 ⟨by omega, by omega⟩ ?_
            refine x_iadd dX12_freely_134 ⟨by omega, by omega⟩ ?_
            refine x_istore_n (i := 1) dX12_freely_135 rfl rfl (Nat.le_of_ble_eq_true rfl) ?_
            refine x_iinc dX12_freely_136 rfl ⟨by omega, by omega⟩ rfl (Nat.le_of_ble_eq_true rfl) ?_
            refine x_goto (tgt := 105) dX12_freely_139 rfl ?_
            refine x_keep [1, 1, 1, 1, 0] ?_
            exact ihk _ _ (by omega) (by omega) (by omega) hp3 (by rw [sumN_s _ hk, hu0]; omega) (by omega) (by omega)
      refine x_iload_n (i := 2) dX12_freely_95 rfl rfl ?_
      refine y_aln (i := 0) dX12_freely_96 at91.ne0 rfl rfl ?_
      refine y_geti (z := 1) dX12_freely_97 frX12_316 cfX12 at91 rfl rfl ?_
      refine x_icmp_ge (tgt := 148) dX12_freely_100 rfl (fun h100 => ?_) (fun h100 => ?_)
      · refine x_iload_n (i := 1) dX12_freely_148 rfl rfl ?_
        refine x_iret dX12_freely_149 rfl ?_
        refine ⟨rfl, hJ, ?_⟩
        rw [hv0, show p = T 0 1 by omega]; rfl
      · refine y_ic dX12_freely_103 ⟨by decide, by decide⟩ ?_
        refine x_istore_n (i := 3) dX12_freely_104 rfl rfl (Nat.le_of_ble_eq_true rfl) ?_
        refine x_keep [1, 1, 1, 1, 0] ?_
        have c10 := f10 p hp (by omega)
        exact hK _ _ _ (Nat.lt_succ_self _) (by omega) (by omega) (by omega) (by rw [sumN_0]; omega) (by omega) (by omega)
  have hS : ∀ (j : Nat) (s v : Int), (T 0 2 - s).toNat < j → 0 ≤ s → s ≤ T 0 2 → v = sumN (fun s => 100 * dearS T s * leftS T (I 98) s) s → 0 ≤ v → v ≤ s * 57024000 → V G mX12_freely (d + 1) 0 0 9 [some (.inr (.inl 91)), some (.inl (v)), some (.inl (s)), none, none] [] NO J P (qI NO (fun r I' P' => P' = P ∧ I' = uI I 91 0 0 ∧ r = freeS T (I 98))) := by
    intro j
    induction j with
    | zero => intro s v hj; omega
    | succ j ih =>
      intro s v hj hs hs2 hv0 hv1 hv2
      have hK : ∀ (j : Nat) (p b : Int), (T 0 1 - p).toNat < j → 0 ≤ p → p ≤ T 0 1 → s < T 0 2 → b = itN (fun p b => if b < T 1 (8 * p + s) then T 1 (8 * p + s) else b) p 0 → V G mX12_freely (d + 1) 0 0 22 [some (.inr (.inl 91)), some (.inl (v)), some (.inl (s)), some (.inl (b)), some (.inl (p))] [] NO J P (qI NO (fun r I' P' => P' = P ∧ I' = uI I 91 0 0 ∧ r = freeS T (I 98))) := by
        intro j
        induction j with
        | zero => intro k u hj; omega
        | succ j ihk =>
          intro p b hj hp hp2 hs3 hb
          have bb := dearN_bd (T := T) (s := s) (n := p) hF (by omega) hp2
          rw [← hb] at bb
          have hl := leftS_bd (T := T) (r := I 98) (s := s) hF hr.rc (by omega)
          have es := itN_s (fun p b => if b < T 1 (8 * p + s) then T 1 (8 * p + s) else b) (0 : Int) hp
          rw [← hb] at es
          have hlin : 0 ≤ b * leftS T (I 98) s ∧ b * leftS T (I 98) s ≤ 99 * 5760 := ⟨Int.mul_nonneg bb.1 hl.1, Int.mul_le_mul bb.2 hl.2 hl.1 (by decide)⟩
          have h100 : 100 * b * leftS T (I 98) s = 100 * (b * leftS T (I 98) s) := Int.mul_assoc _ _ _
          refine x_iload (i := 4) dX12_freely_22 rfl ?_
          refine y_aln (i := 0) dX12_freely_24 at91.ne0 rfl rfl ?_
          refine y_geti (z := 1) dX12_freely_25 frX12_316 cfX12 at91 rfl rfl ?_
          refine x_icmp_ge (tgt := 70) dX12_freely_28 rfl (fun h28 => ?_) (fun h28 => ?_)
          · refine x_iload_n (i := 1) dX12_freely_70 rfl rfl ?_
            refine y_bi dX12_freely_71 ⟨by decide, by decide⟩ ?_
            refine x_iload_n (i := 3) dX12_freely_73 rfl rfl ?_
            refine x_imul dX12_freely_74 ⟨by omega, by omega⟩ ?_
            refine y_aln (i := 0) dX12_freely_75 at91.ne0 rfl rfl ?_
            refine y_aln (i := 0) dX12_freely_76 at91.ne0 rfl rfl ?_
            refine y_getp (z := 14) (v := 98) dX12_freely_77 frX12_38 cfX12 at91 rfl rfl (wp (v := 98) hW rfl rfl (by decide)) ?_
            refine x_iload_n (i := 2) dX12_freely_80 rfl rfl ?_
            refine x_callVI (c_X12_leftOf hW hT0 hF ar98 (by rw [e98]; exact hr.rc) (by omega)) dX12_freely_81 lkX12_347 mfX12_leftOf cfX12 at91 rfl rfl rfl rfl (Nat.le_of_ble_eq_true rfl) (fun r81 I81 P81 hr81 hf81 => ?_)
            obtain ⟨i81, p81, q81⟩ := hf81
            rw [i81, p81, q81]
            rw [e98]
            have hd : b = dearS T s := by rw [hb, show p = T 0 1 by omega]; rfl
            refine x_imul dX12_freely_84 ⟨by omega, by omega⟩ ?_
            refine x_iadd dX12_freely_85 ⟨by omega, by omega⟩ ?_
            refine x_istore_n (i := 1) dX12_freely_86 rfl rfl (Nat.le_of_ble_eq_true rfl) ?_
            refine x_iinc dX12_freely_87 rfl ⟨by omega, by omega⟩ rfl (Nat.le_of_ble_eq_true rfl) ?_
            refine x_goto (tgt := 9) dX12_freely_90 rfl ?_
            refine x_keep [1, 1, 1, 0, 0] ?_
            exact ih _ _ (by omega) (by omega) (by omega) (by rw [sumN_s _ hs, hv0, hd]) (by omega) (by omega)
          · refine y_aln (i := 0) dX12_freely_31 at91.ne0 rfl rfl ?_
            refine y_getp (z := 8) (v := 92) dX12_freely_32 frX12_19 cfX12 at91 rfl rfl (wp (v := 92) hW rfl rfl (by decide)) ?_
            refine y_bi dX12_freely_35 ⟨by decide, by decide⟩ ?_
            refine x_iload (i := 4) dX12_freely_37 rfl ?_
            refine x_imul dX12_freely_39 ⟨by omega, by omega⟩ ?_
            refine x_iload_n (i := 2) dX12_freely_40 rfl rfl ?_
            refine x_iadd dX12_freely_41 ⟨by omega, by omega⟩ ?_
            refine x_iald dX12_freely_42 ar92 ⟨by omega, by omega⟩ ?_
            rw [g1]
            refine x_iload_n (i := 3) dX12_freely_43 rfl rfl ?_
            refine x_icmp_le (tgt := 62) dX12_freely_44 rfl (fun h44 => ?_) (fun h44 => ?_)
            · refine x_iload_n (i := 3) dX12_freely_62 rfl rfl ?_
              refine x_istore_n (i := 3) dX12_freely_63 rfl rfl (Nat.le_of_ble_eq_true rfl) ?_
              refine x_iinc dX12_freely_64 rfl ⟨by omega, by omega⟩ rfl (Nat.le_of_ble_eq_true rfl) ?_
              refine x_goto (tgt := 22) dX12_freely_67 rfl ?_
              refine x_keep [1, 1, 1, 1, 1] ?_
              exact ihk _ _ (by omega) (by omega) (by omega) hs3 (by rw [es]; first | (rw [if_pos (by omega)]; done) | (rw [if_neg (by omega)]; done))
            · refine y_aln (i := 0) dX12_freely_47 at91.ne0 rfl rfl ?_
              refine y_getp (z := 8) (v := 92) dX12_freely_48 frX12_19 cfX12 at91 rfl rfl (wp (v := 92) hW rfl rfl (by decide)) ?_
              refine y_bi dX12_freely_51 ⟨by decide, by decide⟩ ?_
              refine x_iload (i := 4) dX12_freely_53 rfl ?_
              refine x_imul dX12_freely_55 ⟨by omega, by omega⟩ ?_
              refine x_iload_n (i := 2) dX12_freely_56 rfl rfl ?_
              refine x_iadd dX12_freely_57 ⟨by omega, by omega⟩ ?_
              refine x_iald dX12_freely_58 ar92 ⟨by omega, by omega⟩ ?_
              rw [g1]
              refine x_goto (tgt := 63) dX12_freely_59 rfl ?_
              refine x_istore_n (i := 3) dX12_freely_63 rfl rfl (Nat.le_of_ble_eq_true rfl) ?_
              refine x_iinc dX12_freely_64 rfl ⟨by omega, by omega⟩ rfl (Nat.le_of_ble_eq_true rfl) ?_
              refine x_goto (tgt := 22) dX12_freely_67 rfl ?_
              refine x_keep [1, 1, 1, 1, 1] ?_
              exact ihk _ _ (by omega) (by omega) (by omega) hs3 (by rw [es]; first | (rw [if_pos (by omega)]; done) | (rw [if_neg (by omega)]; done))
      refine x_iload_n (i := 2) dX12_freely_9 rfl rfl ?_
      refine y_aln (i := 0) dX12_freely_10 at91.ne0 rfl rfl ?_
      refine y_geti (z := 2) dX12_freely_11 frX12_7 cfX12 at91 rfl rfl ?_
      refine x_icmp_ge (tgt := 93) dX12_freely_14 rfl (fun h14 => ?_) (fun h14 => ?_)
      · refine y_ic dX12_freely_93 ⟨by decide, by decide⟩ ?_
        refine x_istore_n (i := 2) dX12_freely_94 rfl rfl (Nat.le_of_ble_eq_true rfl) ?_
        refine x_keep [1, 1, 1, 0, 0] ?_
        exact hP _ _ _ (Nat.lt_succ_self _) (by omega) (by omega) (by rw [sumN_0, hv0, show s = T 0 2 by omega]; omega) (by omega) (by omega)
      · refine y_ic dX12_freely_17 ⟨by decide, by decide⟩ ?_
        refine x_istore_n (i := 3) dX12_freely_18 rfl rfl (Nat.le_of_ble_eq_true rfl) ?_
        refine y_ic dX12_freely_19 ⟨by decide, by decide⟩ ?_
        refine x_istore (i := 4) dX12_freely_20 rfl (Nat.le_of_ble_eq_true rfl) ?_
        refine x_keep [1, 1, 1, 1, 1] ?_
        exact hK _ _ _ (Nat.lt_succ_self _) (by omega) (by omega) (by omega) rfl
  refine y_aln (i := 0) dX12_freely_0 at91.ne0 rfl rfl ?_
  refine y_ic dX12_freely_1 ⟨by decide, by decide⟩ ?_
  refine y_puti (z := 0) dX12_freely_2 frX12_184 cfX12 at91 rfl rfl rfl ?_
  refine y_ic dX12_freely_5 ⟨by decide, by decide⟩ ?_
  refine x_istore_n (i := 1) dX12_freely_6 rfl rfl (Nat.le_of_ble_eq_true rfl) ?_
  refine y_ic dX12_freely_7 ⟨by decide, by decide⟩ ?_
  refine x_istore_n (i := 2) dX12_freely_8 rfl rfl (Nat.le_of_ble_eq_true rfl) ?_
  refine x_keep [1, 1, 1, 0, 0] ?_
  have q := hS _ 0 0 (Nat.lt_succ_self _) (by omega) (by omega) (sumN_0 _).symm (by omega) (by omega)
  rw [hJ] at q
  exact q
end

