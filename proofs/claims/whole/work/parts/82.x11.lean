/-! ===== the class: what it is asked for, and what it can refuse ===== -/
def stpV (T : Tn) (h : Int × Int × Int × Int × Int) (w : Int) : Int := if w = 0 then h.2.1 else if w = 1 then h.2.2.1 else if w = 2 then numX T h else h.2.2.2.2
/-- a step that can be -/
def okH (T : Tn) (h : Int × Int × Int × Int × Int) : Prop := ((0 ≤ h.2.1 ∧ h.2.1 < 6) ∧ h.2.2.1 = -1 ∧ (0 ≤ h.2.2.2.1 ∧ h.2.2.2.1 < 4) ∧ h.2.2.2.2 = -1) ∨ ((0 ≤ h.2.1 ∧ h.2.1 < 6) ∧ (0 ≤ h.2.2.1 ∧ h.2.2.1 < 6) ∧ (0 ≤ h.2.2.2.1 ∧ h.2.2.2.1 < OFN T) ∧ (0 ≤ h.2.2.2.2 ∧ h.2.2.2.2 < 8))
theorem stp_u {T : Tn} {h h' : Int × Int × Int × Int × Int} (hF : WF T) (hh : okH T h) (hh' : okH T h') (e : codeX h = codeX h') (w : Int) : stpV T h w = stpV T h' w := by
  have hob := (OFN_bd hF).2
  obtain ⟨x0, x1, x2, x3, x4⟩ := h
  obtain ⟨y0, y1, y2, y3, y4⟩ := h'
  unfold okH at hh hh'
  unfold codeX at e
  simp only at hh hh' e
  have key : x1 = y1 ∧ x2 = y2 ∧ x3 = y3 ∧ x4 = y4 := by
    by_cases q : x2 = -1
    · rw [if_pos q] at e
      by_cases q2 : y2 = -1
      · rw [if_pos q2] at e
        omega
      · rw [if_neg q2] at e
        omega
    · rw [if_neg q] at e
      by_cases q2 : y2 = -1
      · rw [if_pos q2] at e
        omega
      · rw [if_neg q2] at e
        omega
  obtain ⟨rfl, rfl, rfl, rfl⟩ := key
  rfl
section
variable {G : HX} {d : Nat} {I : Mem} {P : Ptr} {T : Tn}
theorem c_X11_isNobody {t : Nat} {p : Int} (hW : WP P) (hM : MK I P 46 t (t + 13) T) (h1t : P 1 2 = t) : Cv G mX11_isNobody d 0 0 [.inr (.inl 1), .inl p] NO I P (qI NO (fun r I' P' => I' = I ∧ P' = P ∧ ((r = 1 ∧ ¬ (0 ≤ p ∧ p < T 0 1)) ∨ (r = 0 ∧ 0 ≤ p ∧ p < T 0 1)))) := by
  obtain ⟨hq, hTo, hLo, hpt, hpl, hca, hcl⟩ := id hM
  have wT := wp_T hW hTo
  have e0 : I t 0 = T 0 1 := hca.1
  refine x_enter mfX11_isNobody rfl (Nat.le_of_ble_eq_true rfl) (fun _ => ?_)
  refine x_iload_n (i := 1) dX11_isNobody_0 rfl rfl ?_
  refine x_if_lt (tgt := 15) dX11_isNobody_1 rfl (fun h1 => ?_) (fun h1 => ?_)
  · refine y_ic dX11_isNobody_15 ⟨by decide, by decide⟩ ?_
    refine x_goto (tgt := 20) dX11_isNobody_16 rfl ?_
    refine x_zret dX11_isNobody_20 (by omega) rfl ?_
    exact ⟨rfl, rfl, by omega⟩
  · refine x_iload_n (i := 1) dX11_isNobody_4 rfl rfl ?_
    refine y_aln (i := 0) dX11_isNobody_5 at1.ne0 rfl rfl ?_
    refine y_getp (z := 2) (v := t) dX11_isNobody_6 frX11_16 cfX11 at1 rfl rfl h1t ?_
    refine y_geti (z := 0) dX11_isNobody_9 frX11_134 cfX10 hTo.at rfl rfl ?_
    refine x_icmp_lt (tgt := 19) dX11_isNobody_12 rfl (fun h12 => ?_) (fun h12 => ?_)
    · refine y_ic dX11_isNobody_19 ⟨by decide, by decide⟩ ?_
      refine x_zret dX11_isNobody_20 (by omega) rfl ?_
      exact ⟨rfl, rfl, by omega⟩
    · refine y_ic dX11_isNobody_15 ⟨by decide, by decide⟩ ?_
      refine x_goto (tgt := 20) dX11_isNobody_16 rfl ?_
      refine x_zret dX11_isNobody_20 (by omega) rfl ?_
      exact ⟨rfl, rfl, by omega⟩
theorem c_X11_isNoSort {t : Nat} {s : Int} (hW : WP P) (hM : MK I P 46 t (t + 13) T) (h1t : P 1 2 = t) : Cv G mX11_isNoSort d 0 0 [.inr (.inl 1), .inl s] NO I P (qI NO (fun r I' P' => I' = I ∧ P' = P ∧ ((r = 1 ∧ ¬ (0 ≤ s ∧ s < T 0 2)) ∨ (r = 0 ∧ 0 ≤ s ∧ s < T 0 2)))) := by
  obtain ⟨hq, hTo, hLo, hpt, hpl, hca, hcl⟩ := id hM
  have wT := wp_T hW hTo
  have e0 : I t 1 = T 0 2 := hca.2.1
  refine x_enter mfX11_isNoSort rfl (Nat.le_of_ble_eq_true rfl) (fun _ => ?_)
  refine x_iload_n (i := 1) dX11_isNoSort_0 rfl rfl ?_
  refine x_if_lt (tgt := 15) dX11_isNoSort_1 rfl (fun h1 => ?_) (fun h1 => ?_)
  · refine y_ic dX11_isNoSort_15 ⟨by decide, by decide⟩ ?_
    refine x_goto (tgt := 20) dX11_isNoSort_16 rfl ?_
    refine x_zret dX11_isNoSort_20 (by omega) rfl ?_
    exact ⟨rfl, rfl, by omega⟩
  · refine x_iload_n (i := 1) dX11_isNoSort_4 rfl rfl ?_
    refine y_aln (i := 0) dX11_isNoSort_5 at1.ne0 rfl rfl ?_
    refine y_getp (z := 2) (v := t) dX11_isNoSort_6 frX11_16 cfX11 at1 rfl rfl h1t ?_
    refine y_geti (z := 1) dX11_isNoSort_9 frX11_137 cfX10 hTo.at rfl rfl ?_
    refine x_icmp_lt (tgt := 19) dX11_isNoSort_12 rfl (fun h12 => ?_) (fun h12 => ?_)
    · refine y_ic dX11_isNoSort_19 ⟨by decide, by decide⟩ ?_
      refine x_zret dX11_isNoSort_20 (by omega) rfl ?_
      exact ⟨rfl, rfl, by omega⟩
    · refine y_ic dX11_isNoSort_15 ⟨by decide, by decide⟩ ?_
      refine x_goto (tgt := 20) dX11_isNoSort_16 rfl ?_
      refine x_zret dX11_isNoSort_20 (by omega) rfl ?_
      exact ⟨rfl, rfl, by omega⟩
theorem c_X11_isNoCell {t : Nat} {p s : Int} (hW : WP P) (hM : MK I P 46 t (t + 13) T) (h1t : P 1 2 = t) : Cv G mX11_isNoCell (d + 1) 0 0 [.inr (.inl 1), .inl p, .inl s] NO I P (qI NO (fun r I' P' => I' = I ∧ P' = P ∧ ((r = 1 ∧ ¬ okPS T p s) ∨ (r = 0 ∧ okPS T p s)))) := by
  refine x_enter mfX11_isNoCell rfl (Nat.le_of_ble_eq_true rfl) (fun _ => ?_)
  refine y_aln (i := 0) dX11_isNoCell_0 at1.ne0 rfl rfl ?_
  refine x_iload_n (i := 1) dX11_isNoCell_1 rfl rfl ?_
  refine x_callVI (c_X11_isNobody hW hM h1t) dX11_isNoCell_2 lkX11_190 mfX11_isNobody cfX11 at1 rfl rfl rfl rfl (Nat.le_of_ble_eq_true rfl) (fun r2 I2 P2 hr2 hf2 => ?_)
  obtain ⟨i2, p2, q2⟩ := hf2
  rw [i2, p2]
  refine x_if_ne (tgt := 16) dX11_isNoCell_5 rfl (fun h5 => ?_) (fun h5 => ?_)
  · refine y_ic dX11_isNoCell_16 ⟨by decide, by decide⟩ ?_
    refine x_goto (tgt := 21) dX11_isNoCell_17 rfl ?_
    refine x_zret dX11_isNoCell_21 (by omega) rfl ?_
    exact ⟨rfl, rfl, by unfold okPS; omega⟩
  · refine y_aln (i := 0) dX11_isNoCell_8 at1.ne0 rfl rfl ?_
    refine x_iload_n (i := 2) dX11_isNoCell_9 rfl rfl ?_
    refine x_callVI (c_X11_isNoSort hW hM h1t) dX11_isNoCell_10 lkX11_200 mfX11_isNoSort cfX11 at1 rfl rfl rfl rfl (Nat.le_of_ble_eq_true rfl) (fun r10 I10 P10 hr10 hf10 => ?_)
    obtain ⟨i10, p10, q10⟩ := hf10
    rw [i10, p10]
    refine x_if_eq (tgt := 20) dX11_isNoCell_13 rfl (fun h13 => ?_) (fun h13 => ?_)
    · refine y_ic dX11_isNoCell_20 ⟨by decide, by decide⟩ ?_
      refine x_zret dX11_isNoCell_21 (by omega) rfl ?_
      exact ⟨rfl, rfl, by unfold okPS; omega⟩
    · refine y_ic dX11_isNoCell_16 ⟨by decide, by decide⟩ ?_
      refine x_goto (tgt := 21) dX11_isNoCell_17 rfl ?_
      refine x_zret dX11_isNoCell_21 (by omega) rfl ?_
      exact ⟨rfl, rfl, by unfold okPS; omega⟩
theorem c_X11_isNoTwo {t : Nat} {a b : Int} (hW : WP P) (hM : MK I P 46 t (t + 13) T) (h1t : P 1 2 = t) : Cv G mX11_isNoTwo (d + 1) 0 0 [.inr (.inl 1), .inl a, .inl b] NO I P (qI NO (fun r I' P' => I' = I ∧ P' = P ∧ ((r = 1 ∧ ¬ ((0 ≤ a ∧ a < T 0 1) ∧ (0 ≤ b ∧ b < T 0 1) ∧ a ≠ b)) ∨ (r = 0 ∧ (0 ≤ a ∧ a < T 0 1) ∧ (0 ≤ b ∧ b < T 0 1) ∧ a ≠ b)))) := by
  refine x_enter mfX11_isNoTwo rfl (Nat.le_of_ble_eq_true rfl) (fun _ => ?_)
  refine y_aln (i := 0) dX11_isNoTwo_0 at1.ne0 rfl rfl ?_
  refine x_iload_n (i := 1) dX11_isNoTwo_1 rfl rfl ?_
  refine x_callVI (c_X11_isNobody hW hM h1t) dX11_isNoTwo_2 lkX11_190 mfX11_isNobody cfX11 at1 rfl rfl rfl rfl (Nat.le_of_ble_eq_true rfl) (fun r2 I2 P2 hr2 hf2 => ?_)
  obtain ⟨i2, p2, q2⟩ := hf2
  rw [i2, p2]
  refine x_if_ne (tgt := 21) dX11_isNoTwo_5 rfl (fun h5 => ?_) (fun h5 => ?_)
  · refine y_ic dX11_isNoTwo_21 ⟨by decide, by decide⟩ ?_
    refine x_goto (tgt := 26) dX11_isNoTwo_22 rfl ?_
    refine x_zret dX11_isNoTwo_26 (by omega) rfl ?_
    exact ⟨rfl, rfl, by omega⟩
  · refine y_aln (i := 0) dX11_isNoTwo_8 at1.ne0 rfl rfl ?_
    refine x_iload_n (i := 2) dX11_isNoTwo_9 rfl rfl ?_
    refine x_callVI (c_X11_isNobody hW hM h1t) dX11_isNoTwo_10 lkX11_190 mfX11_isNobody cfX11 at1 rfl rfl rfl rfl (Nat.le_of_ble_eq_true rfl) (fun r10 I10 P10 hr10 hf10 => ?_)
    obtain ⟨i10, p10, q10⟩ := hf10
    rw [i10, p10]
    refine x_if_ne (tgt := 21) dX11_isNoTwo_13 rfl (fun h13 => ?_) (fun h13 => ?_)
    · refine y_ic dX11_isNoTwo_21 ⟨by decide, by decide⟩ ?_
      refine x_goto (tgt := 26) dX11_isNoTwo_22 rfl ?_
      refine x_zret dX11_isNoTwo_26 (by omega) rfl ?_
      exact ⟨rfl, rfl, by omega⟩
    · refine x_iload_n (i := 1) dX11_isNoTwo_16 rfl rfl ?_
      refine x_iload_n (i := 2) dX11_isNoTwo_17 rfl rfl ?_
      refine x_icmp_ne (tgt := 25) dX11_isNoTwo_18 rfl (fun h18 => ?_) (fun h18 => ?_)
      · refine y_ic dX11_isNoTwo_25 ⟨by decide, by decide⟩ ?_
        refine x_zret dX11_isNoTwo_26 (by omega) rfl ?_
        exact ⟨rfl, rfl, by omega⟩
      · refine y_ic dX11_isNoTwo_21 ⟨by decide, by decide⟩ ?_
        refine x_goto (tgt := 26) dX11_isNoTwo_22 rfl ?_
        refine x_zret dX11_isNoTwo_26 (by omega) rfl ?_
        exact ⟨rfl, rfl, by omega⟩
theorem c_X11_fault (hW : WP P) : Cv G mX11_fault d 0 0 [.inr (.inl 1)] NO I P (qI NO (fun r I' P' => I' = I ∧ P' = P ∧ r = I 1 4)) := by
  refine x_enter mfX11_fault rfl (Nat.le_of_ble_eq_true rfl) (fun _ => ?_)
  refine y_aln (i := 0) dX11_fault_0 at1.ne0 rfl rfl ?_
  refine y_geti (z := 4) dX11_fault_1 frX11_23 cfX11 at1 rfl rfl ?_
  refine x_iret dX11_fault_4 rfl ?_
  exact ⟨rfl, rfl, rfl⟩
theorem c_X11_count {t : Nat} {w : Int} (hW : WP P) (hM : MK I P 46 t (t + 13) T) (h1t : P 1 2 = t) (hF : WF T) (hr : RC (I 47)) : Cv G mX11_count (d + 8) 1 6 [.inr (.inl 1), .inl w] NO I P (qX NO (fun r I' P' => (I' = I ∧ P' = P) ∧ (0 ≤ w ∧ w ≤ 11) ∧ r = countA T (I 47) (I 1 1) (fun k => I 1 (5 + k)) w) (fun c I' P' => (I' = I ∧ P' = P) ∧ ¬ (0 ≤ w ∧ w ≤ 11) ∧ c = tEN)) := by
  obtain ⟨hq, hTo, hLo, hpt, hpl, hca, hcl⟩ := id hM
  have wT := wp_T hW hTo
  have f7 : T 0 7 = 0 ∨ T 0 7 = 1 := hF.2.2.2.2.2.2.1
  have e2 : I (t + 13) 2 = T 0 7 := hcl.2.2.1
  refine x_enter mfX11_count rfl (Nat.le_of_ble_eq_true rfl) (fun _ => ?_)
  refine x_iload_n (i := 1) dX11_count_0 rfl rfl ?_
  refine y_tsw (td := 165) dX11_count_1 (fun j off tgt hx1 ho1 ht1 hle1 => ?_) (by decide) (by decide) (by decide) (fun h1 => ?_)
  · have hj1 : j = 0 ∨ j = 1 ∨ j = 2 ∨ j = 3 ∨ j = 4 ∨ j = 5 ∨ j = 6 ∨ j = 7 ∨ j = 8 ∨ j = 9 ∨ j = 10 ∨ j = 11 := by omega
    rcases hj1 with rfl | rfl | rfl | rfl | rfl | rfl | rfl | rfl | rfl | rfl | rfl | rfl
    · have eo1 : off = 63 := Option.some.inj (ho1.symm.trans rfl)
      obtain rfl : tgt = 64 := by omega
      refine y_aln (i := 0) dX11_count_64 at1.ne0 rfl rfl ?_
      refine y_getp (z := 2) (v := t) dX11_count_65 frX11_16 cfX11 at1 rfl rfl h1t ?_
      refine y_geti (z := 0) dX11_count_68 frX11_134 cfX10 hTo.at rfl rfl ?_
      refine x_iretX dX11_count_71 rfl ?_
      obtain rfl : w = 0 := by omega
      exact ⟨⟨rfl, rfl⟩, ⟨by decide, by decide⟩, hca.1⟩
    · have eo1 : off = 71 := Option.some.inj (ho1.symm.trans rfl)
      obtain rfl : tgt = 72 := by omega
      refine y_aln (i := 0) dX11_count_72 at1.ne0 rfl rfl ?_
      refine y_getp (z := 2) (v := t) dX11_count_73 frX11_16 cfX11 at1 rfl rfl h1t ?_
      refine y_geti (z := 1) dX11_count_76 frX11_137 cfX10 hTo.at rfl rfl ?_
      refine x_iretX dX11_count_79 rfl ?_
      obtain rfl : w = 1 := by omega
      exact ⟨⟨rfl, rfl⟩, ⟨by decide, by decide⟩, hca.2.1⟩
    · have eo1 : off = 79 := Option.some.inj (ho1.symm.trans rfl)
      obtain rfl : tgt = 80 := by omega
      refine y_aln (i := 0) dX11_count_80 at1.ne0 rfl rfl ?_
      refine y_getp (z := 2) (v := t) dX11_count_81 frX11_16 cfX11 at1 rfl rfl h1t ?_
      refine y_getp (z := 16) (v := (t + 13)) dX11_count_84 frX11_140 cfX10 hTo.at rfl rfl (p10_16 wT hTo) ?_
      refine y_geti (z := 0) dX11_count_87 frX11_143 cfX2 (a10_16 hTo) rfl rfl ?_
      refine x_iretX dX11_count_90 rfl ?_
      obtain rfl : w = 2 := by omega
      exact ⟨⟨rfl, rfl⟩, ⟨by decide, by decide⟩, hcl.1⟩
    · have eo1 : off = 90 := Option.some.inj (ho1.symm.trans rfl)
      obtain rfl : tgt = 91 := by omega
      refine y_aln (i := 0) dX11_count_91 at1.ne0 rfl rfl ?_
      refine y_getp (z := 2) (v := t) dX11_count_92 frX11_16 cfX11 at1 rfl rfl h1t ?_
      refine y_getp (z := 16) (v := (t + 13)) dX11_count_95 frX11_140 cfX10 hTo.at rfl rfl (p10_16 wT hTo) ?_
      refine y_geti (z := 1) dX11_count_98 frX11_146 cfX2 (a10_16 hTo) rfl rfl ?_
      refine x_iretX dX11_count_101 rfl ?_
      obtain rfl : w = 3 := by omega
      exact ⟨⟨rfl, rfl⟩, ⟨by decide, by decide⟩, hcl.2.1⟩
    · have eo1 : off = 101 := Option.some.inj (ho1.symm.trans rfl)
      obtain rfl : tgt = 102 := by omega
      refine y_aln (i := 0) dX11_count_102 at1.ne0 rfl rfl ?_
      refine y_getp (z := 2) (v := t) dX11_count_103 frX11_16 cfX11 at1 rfl rfl h1t ?_
      refine y_getp (z := 16) (v := (t + 13)) dX11_count_106 frX11_140 cfX10 hTo.at rfl rfl (p10_16 wT hTo) ?_
      refine y_geti (z := 2) dX11_count_109 frX11_149 cfX2 (a10_16 hTo) rfl rfl ?_
      refine x_if_eq (tgt := 119) dX11_count_112 rfl (fun h112 => ?_) (fun h112 => ?_)
      · refine y_ic dX11_count_119 ⟨by decide, by decide⟩ ?_
        refine x_iretX dX11_count_120 rfl ?_
        obtain rfl : w = 4 := by omega
        exact ⟨⟨rfl, rfl⟩, ⟨by decide, by decide⟩, (by omega : _ = T 0 7)⟩
      · refine y_ic dX11_count_115 ⟨by decide, by decide⟩ ?_
        refine x_goto (tgt := 120) dX11_count_116 rfl ?_
        refine x_iretX dX11_count_120 rfl ?_
        obtain rfl : w = 4 := by omega
        exact ⟨⟨rfl, rfl⟩, ⟨by decide, by decide⟩, (by omega : _ = T 0 7)⟩
    · have eo1 : off = 120 := Option.some.inj (ho1.symm.trans rfl)
      obtain rfl : tgt = 121 := by omega
      refine y_aln (i := 0) dX11_count_121 at1.ne0 rfl rfl ?_
      refine y_getp (z := 2) (v := t) dX11_count_122 frX11_16 cfX11 at1 rfl rfl h1t ?_
      refine y_geti (z := 2) dX11_count_125 frX11_153 cfX10 hTo.at rfl rfl ?_
      refine x_iretX dX11_count_128 rfl ?_
      obtain rfl : w = 5 := by omega
      exact ⟨⟨rfl, rfl⟩, ⟨by decide, by decide⟩, hca.2.2.1⟩
    · have eo1 : off = 128 := Option.some.inj (ho1.symm.trans rfl)
      obtain rfl : tgt = 129 := by omega
      refine y_aln (i := 0) dX11_count_129 at1.ne0 rfl rfl ?_
      refine y_getp (z := 2) (v := t) dX11_count_130 frX11_16 cfX11 at1 rfl rfl h1t ?_
      refine y_geti (z := 3) dX11_count_133 frX11_156 cfX10 hTo.at rfl rfl ?_
      refine x_iretX dX11_count_136 rfl ?_
      obtain rfl : w = 6 := by omega
      exact ⟨⟨rfl, rfl⟩, ⟨by decide, by decide⟩, hca.2.2.2.1⟩
    · have eo1 : off = 136 := Option.some.inj (ho1.symm.trans rfl)
      obtain rfl : tgt = 137 := by omega
      refine y_aln (i := 0) dX11_count_137 at1.ne0 rfl rfl ?_
      refine y_geti (z := 1) dX11_count_138 frX11_104 cfX11 at1 rfl rfl ?_
      refine x_iretX dX11_count_141 rfl ?_
      obtain rfl : w = 7 := by omega
      exact ⟨⟨rfl, rfl⟩, ⟨by decide, by decide⟩, rfl⟩
    · have eo1 : off = 141 := Option.some.inj (ho1.symm.trans rfl)
      obtain rfl : tgt = 142 := by omega
      refine y_aln (i := 0) dX11_count_142 at1.ne0 rfl rfl ?_
      refine y_getp (z := 9) (v := 46) dX11_count_143 frX11_46 cfX11 at1 rfl rfl (wp (v := 46) hW rfl rfl (by decide)) ?_
      refine x_callVI (c_X3_things hW hM hF hr) dX11_count_146 lkX11_159 mfX3_things cfX3 at46 rfl rfl rfl rfl (Nat.le_of_ble_eq_true rfl) (fun r146 I146 P146 hr146 hf146 => ?_)
      obtain ⟨i146, p146, q146⟩ := hf146
      rw [i146, p146, q146]
      refine x_iretX dX11_count_149 rfl ?_
      obtain rfl : w = 8 := by omega
      exact ⟨⟨rfl, rfl⟩, ⟨by decide, by decide⟩, rfl⟩
    · have eo1 : off = 149 := Option.some.inj (ho1.symm.trans rfl)
      obtain rfl : tgt = 150 := by omega
      refine y_aln (i := 0) dX11_count_150 at1.ne0 rfl rfl ?_
      refine y_geti (z := 5) dX11_count_151 frX11_125 cfX11 at1 rfl rfl ?_
      refine x_iretX dX11_count_154 rfl ?_
      obtain rfl : w = 9 := by omega
      exact ⟨⟨rfl, rfl⟩, ⟨by decide, by decide⟩, rfl⟩
    · have eo1 : off = 154 := Option.some.inj (ho1.symm.trans rfl)
      obtain rfl : tgt = 155 := by omega
      refine y_aln (i := 0) dX11_count_155 at1.ne0 rfl rfl ?_
      refine y_geti (z := 6) dX11_count_156 frX11_163 cfX11 at1 rfl rfl ?_
      refine x_iretX dX11_count_159 rfl ?_
      obtain rfl : w = 10 := by omega
      exact ⟨⟨rfl, rfl⟩, ⟨by decide, by decide⟩, rfl⟩
    · have eo1 : off = 159 := Option.some.inj (ho1.symm.trans rfl)
      obtain rfl : tgt = 160 := by omega
      refine y_aln (i := 0) dX11_count_160 at1.ne0 rfl rfl ?_
      refine y_geti (z := 7) dX11_count_161 frX11_166 cfX11 at1 rfl rfl ?_
      refine x_iretX dX11_count_164 rfl ?_
      obtain rfl : w = 11 := by omega
      exact ⟨⟨rfl, rfl⟩, ⟨by decide, by decide⟩, rfl⟩
  · refine xnN (text := "no such count") rfl rfl (by decide +kernel) (Nat.le_of_ble_eq_true rfl) (by omega) (by decide) (by decide) dX11_count_165 dX11_count_168 dX11_count_169 dX11_count_171 dX11_count_174 ?_
    exact ⟨⟨rfl, rfl⟩, by omega, rfl⟩
theorem c_X11_has {t : Nat} {p s : Int} (hW : WP P) (hM : MK I P 46 t (t + 13) T) (h1t : P 1 2 = t) (hF : WF T) : Cv G mX11_has (d + 8) 1 6 [.inr (.inl 1), .inl p, .inl s] NO I P (qX NO (fun r I' P' => (I' = I ∧ P' = P) ∧ okPS T p s ∧ r = I 47 (8 * p + s)) (fun c I' P' => (I' = I ∧ P' = P) ∧ ¬ okPS T p s ∧ c = tEN)) := by
  have f1 := hF.1
  have f2 := hF.2.1
  refine x_enter mfX11_has rfl (Nat.le_of_ble_eq_true rfl) (fun _ => ?_)
  refine y_aln (i := 0) dX11_has_0 at1.ne0 rfl rfl ?_
  refine x_iload_n (i := 1) dX11_has_1 rfl rfl ?_
  refine x_iload_n (i := 2) dX11_has_2 rfl rfl ?_
  refine x_callVI (c_X11_isNoCell hW hM h1t) dX11_has_3 lkX11_174 mfX11_isNoCell cfX11 at1 rfl rfl rfl rfl (Nat.le_of_ble_eq_true rfl) (fun r3 I3 P3 hr3 hf3 => ?_)
  obtain ⟨i3, p3, q3⟩ := hf3
  rw [i3, p3]
  refine x_if_eq (tgt := 19) dX11_has_6 rfl (fun h6 => ?_) (fun h6 => ?_)
  · have hok : okPS T p s := (q3.resolve_left (fun z => by have := z.1; omega)).2
    have hok2 : (0 ≤ p ∧ p < T 0 1) ∧ 0 ≤ s ∧ s < T 0 2 := hok
    refine y_aln (i := 0) dX11_has_19 at1.ne0 rfl rfl ?_
    refine y_getp (z := 9) (v := 46) dX11_has_20 frX11_46 cfX11 at1 rfl rfl (wp (v := 46) hW rfl rfl (by decide)) ?_
    refine y_getp (z := 2) (v := 47) dX11_has_23 frX11_180 cfX3 at46 rfl rfl (wp (v := 47) hW rfl rfl (by decide)) ?_
    refine x_iload_n (i := 1) dX11_has_26 rfl rfl ?_
    refine y_bi dX11_has_27 ⟨by decide, by decide⟩ ?_
    refine x_imul dX11_has_29 ⟨by omega, by omega⟩ ?_
    rw [Int.mul_comm p 8]
    refine x_iload_n (i := 2) dX11_has_30 rfl rfl ?_
    refine x_iadd dX11_has_31 ⟨by omega, by omega⟩ ?_
    refine x_iald dX11_has_32 ar47 ⟨by omega, by omega⟩ ?_
    refine x_iretX dX11_has_33 rfl ?_
    exact ⟨⟨rfl, rfl⟩, hok, rfl⟩
  · refine xnN (text := "no such person or sort") rfl rfl (by decide +kernel) (Nat.le_of_ble_eq_true rfl) (by omega) (by decide) (by decide) dX11_has_9 dX11_has_12 dX11_has_13 dX11_has_15 dX11_has_18 ?_
    exact ⟨⟨rfl, rfl⟩, (q3.resolve_right (fun z => by have := z.1; omega)).2, rfl⟩
theorem c_X11_likes {t : Nat} {p s : Int} (hW : WP P) (hM : MK I P 46 t (t + 13) T) (h1t : P 1 2 = t) (hF : WF T) : Cv G mX11_likes (d + 8) 1 6 [.inr (.inl 1), .inl p, .inl s] NO I P (qX NO (fun r I' P' => (I' = I ∧ P' = P) ∧ okPS T p s ∧ r = T 1 (8 * p + s)) (fun c I' P' => (I' = I ∧ P' = P) ∧ ¬ okPS T p s ∧ c = tEN)) := by
  obtain ⟨hq, hTo, hLo, hpt, hpl, hca, hcl⟩ := id hM
  have wT := wp_T hW hTo
  have f1 := hF.1
  have f2 := hF.2.1
  refine x_enter mfX11_likes rfl (Nat.le_of_ble_eq_true rfl) (fun _ => ?_)
  refine y_aln (i := 0) dX11_likes_0 at1.ne0 rfl rfl ?_
  refine x_iload_n (i := 1) dX11_likes_1 rfl rfl ?_
  refine x_iload_n (i := 2) dX11_likes_2 rfl rfl ?_
  refine x_callVI (c_X11_isNoCell hW hM h1t) dX11_likes_3 lkX11_174 mfX11_isNoCell cfX11 at1 rfl rfl rfl rfl (Nat.le_of_ble_eq_true rfl) (fun r3 I3 P3 hr3 hf3 => ?_)
  obtain ⟨i3, p3, q3⟩ := hf3
  rw [i3, p3]
  refine x_if_eq (tgt := 19) dX11_likes_6 rfl (fun h6 => ?_) (fun h6 => ?_)
  · have hok : okPS T p s := (q3.resolve_left (fun z => by have := z.1; omega)).2
    have hok2 : (0 ≤ p ∧ p < T 0 1) ∧ 0 ≤ s ∧ s < T 0 2 := hok
    refine y_aln (i := 0) dX11_likes_19 at1.ne0 rfl rfl ?_
    refine y_getp (z := 2) (v := t) dX11_likes_20 frX11_16 cfX11 at1 rfl rfl h1t ?_
    refine y_getp (z := 5) (v := (t + 2)) dX11_likes_23 frX11_184 cfX10 hTo.at rfl rfl (p10_5 wT hTo) ?_
    refine x_iload_n (i := 1) dX11_likes_26 rfl rfl ?_
    refine y_bi dX11_likes_27 ⟨by decide, by decide⟩ ?_
    refine x_imul dX11_likes_29 ⟨by omega, by omega⟩ ?_
    rw [Int.mul_comm p 8]
    refine x_iload_n (i := 2) dX11_likes_30 rfl rfl ?_
    refine x_iadd dX11_likes_31 ⟨by omega, by omega⟩ ?_
    refine x_iald dX11_likes_32 (a10_5 hTo) ⟨by omega, by omega⟩ ?_
    refine x_iretX dX11_likes_33 rfl ?_
    exact ⟨⟨rfl, rfl⟩, hok, hca.2.2.2.2.1 (8 * p + s) (by omega) (by omega)⟩
  · refine xnN (text := "no such person or sort") rfl rfl (by decide +kernel) (Nat.le_of_ble_eq_true rfl) (by omega) (by decide) (by decide) dX11_likes_9 dX11_likes_12 dX11_likes_13 dX11_likes_15 dX11_likes_18 ?_
    exact ⟨⟨rfl, rfl⟩, (q3.resolve_right (fun z => by have := z.1; omega)).2, rfl⟩
theorem c_X11_worth {t : Nat} {p : Int} (hW : WP P) (hM : MK I P 46 t (t + 13) T) (h1t : P 1 2 = t) (hF : WF T) (hr : RC (I 47)) : Cv G mX11_worth (d + 8) 1 6 [.inr (.inl 1), .inl p] NO I P (qX NO (fun r I' P' => (I' = I ∧ P' = P) ∧ (p = -1 ∨ (0 ≤ p ∧ p < T 0 1)) ∧ r = if p = -1 then worthS T (I 47) else bagS T (I 47) p) (fun c I' P' => (I' = I ∧ P' = P) ∧ ¬ (p = -1 ∨ (0 ≤ p ∧ p < T 0 1)) ∧ c = tEN)) := by
  refine x_enter mfX11_worth rfl (Nat.le_of_ble_eq_true rfl) (fun _ => ?_)
  refine x_iload_n (i := 1) dX11_worth_0 rfl rfl ?_
  refine y_ic dX11_worth_1 ⟨by decide, by decide⟩ ?_
  refine x_icmp_ne (tgt := 13) dX11_worth_2 rfl (fun h2 => ?_) (fun h2 => ?_)
  · refine y_aln (i := 0) dX11_worth_13 at1.ne0 rfl rfl ?_
    refine x_iload_n (i := 1) dX11_worth_14 rfl rfl ?_
    refine x_callVI (c_X11_isNobody hW hM h1t) dX11_worth_15 lkX11_190 mfX11_isNobody cfX11 at1 rfl rfl rfl rfl (Nat.le_of_ble_eq_true rfl) (fun r15 I15 P15 hr15 hf15 => ?_)
    obtain ⟨i15, p15, q15⟩ := hf15
    rw [i15, p15]
    refine x_if_eq (tgt := 31) dX11_worth_18 rfl (fun h18 => ?_) (fun h18 => ?_)
    · refine y_aln (i := 0) dX11_worth_31 at1.ne0 rfl rfl ?_
      refine y_getp (z := 9) (v := 46) dX11_worth_32 frX11_46 cfX11 at1 rfl rfl (wp (v := 46) hW rfl rfl (by decide)) ?_
      refine x_iload_n (i := 1) dX11_worth_35 rfl rfl ?_
      refine x_callVI (c_X3_bagWorth hW hM hF hr (by omega)) dX11_worth_36 lkX11_196 mfX3_bagWorth cfX3 at46 rfl rfl rfl rfl (Nat.le_of_ble_eq_true rfl) (fun r36 I36 P36 hr36 hf36 => ?_)
      obtain ⟨i36, p36, q36⟩ := hf36
      rw [i36, p36, q36]
      refine x_iretX dX11_worth_39 rfl ?_
      exact ⟨⟨rfl, rfl⟩, by omega, by rw [if_neg (by omega)]⟩
    · refine xnN (text := "no such person") rfl rfl (by decide +kernel) (Nat.le_of_ble_eq_true rfl) (by omega) (by decide) (by decide) dX11_worth_21 dX11_worth_24 dX11_worth_25 dX11_worth_27 dX11_worth_30 ?_
      exact ⟨⟨rfl, rfl⟩, by omega, rfl⟩
  · refine y_aln (i := 0) dX11_worth_5 at1.ne0 rfl rfl ?_
    refine y_getp (z := 9) (v := 46) dX11_worth_6 frX11_46 cfX11 at1 rfl rfl (wp (v := 46) hW rfl rfl (by decide)) ?_
    refine x_callVI (c_X3_allWorth hW hM hF hr) dX11_worth_9 lkX11_187 mfX3_allWorth cfX3 at46 rfl rfl rfl rfl (Nat.le_of_ble_eq_true rfl) (fun r9 I9 P9 hr9 hf9 => ?_)
    obtain ⟨i9, p9, q9⟩ := hf9
    rw [i9, p9, q9]
    refine x_iretX dX11_worth_12 rfl ?_
    exact ⟨⟨rfl, rfl⟩, by omega, by rw [if_pos (by omega)]⟩
theorem c_X11_left {t : Nat} {s : Int} (hW : WP P) (hM : MK I P 46 t (t + 13) T) (h1t : P 1 2 = t) (hF : WF T) (hr : RC (I 47)) : Cv G mX11_left (d + 8) 1 6 [.inr (.inl 1), .inl s] NO I P (qX NO (fun r I' P' => (I' = I ∧ P' = P) ∧ (0 ≤ s ∧ s < T 0 2) ∧ r = leftS T (I 47) s) (fun c I' P' => (I' = I ∧ P' = P) ∧ ¬ (0 ≤ s ∧ s < T 0 2) ∧ c = tEN)) := by
  have f2 := hF.2.1
  refine x_enter mfX11_left rfl (Nat.le_of_ble_eq_true rfl) (fun _ => ?_)
  refine y_aln (i := 0) dX11_left_0 at1.ne0 rfl rfl ?_
  refine x_iload_n (i := 1) dX11_left_1 rfl rfl ?_
  refine x_callVI (c_X11_isNoSort hW hM h1t) dX11_left_2 lkX11_200 mfX11_isNoSort cfX11 at1 rfl rfl rfl rfl (Nat.le_of_ble_eq_true rfl) (fun r2 I2 P2 hr2 hf2 => ?_)
  obtain ⟨i2, p2, q2⟩ := hf2
  rw [i2, p2]
  refine x_if_eq (tgt := 18) dX11_left_5 rfl (fun h5 => ?_) (fun h5 => ?_)
  · refine y_aln (i := 0) dX11_left_18 at1.ne0 rfl rfl ?_
    refine y_getp (z := 9) (v := 46) dX11_left_19 frX11_46 cfX11 at1 rfl rfl (wp (v := 46) hW rfl rfl (by decide)) ?_
    refine x_iload_n (i := 1) dX11_left_22 rfl rfl ?_
    refine x_callVI (c_X3_thingsOf hW hM hF hr (by omega)) dX11_left_23 lkX11_205 mfX3_thingsOf cfX3 at46 rfl rfl rfl rfl (Nat.le_of_ble_eq_true rfl) (fun r23 I23 P23 hr23 hf23 => ?_)
    obtain ⟨i23, p23, q23⟩ := hf23
    rw [i23, p23, q23]
    refine x_iretX dX11_left_26 rfl ?_
    exact ⟨⟨rfl, rfl⟩, by omega, rfl⟩
  · refine xnN (text := "no such sort") rfl rfl (by decide +kernel) (Nat.le_of_ble_eq_true rfl) (by omega) (by decide) (by decide) dX11_left_8 dX11_left_11 dX11_left_12 dX11_left_14 dX11_left_17 ?_
    exact ⟨⟨rfl, rfl⟩, by omega, rfl⟩
theorem c_X11_meeting {t : Nat} {m w : Int} (hW : WP P) (hM : MK I P 46 t (t + 13) T) (h1t : P 1 2 = t) (hF : WF T) : Cv G mX11_meeting (d + 8) 1 6 [.inr (.inl 1), .inl m, .inl w] NO I P (qX NO (fun r I' P' => (I' = I ∧ P' = P) ∧ ((0 ≤ m ∧ m < T 0 6) ∧ 0 ≤ w ∧ w ≤ 1) ∧ r = T 6 (2 * m + w)) (fun c I' P' => (I' = I ∧ P' = P) ∧ ¬ ((0 ≤ m ∧ m < T 0 6) ∧ 0 ≤ w ∧ w ≤ 1) ∧ c = tEN)) := by
  obtain ⟨hq, hTo, hLo, hpt, hpl, hca, hcl⟩ := id hM
  have wT := wp_T hW hTo
  have e3 : I t 3 = T 0 6 := hca.2.2.2.1
  have f6 := hF.2.2.2.2.2.1
  have g := hca.2.2.2.2.2.2.2.2
  refine x_enter mfX11_meeting rfl (Nat.le_of_ble_eq_true rfl) (fun _ => ?_)
  refine x_iload_n (i := 1) dX11_meeting_0 rfl rfl ?_
  refine x_if_lt (tgt := 15) dX11_meeting_1 rfl (fun h1 => ?_) (fun h1 => ?_)
  · refine xnN (text := "no such meeting") rfl rfl (by decide +kernel) (Nat.le_of_ble_eq_true rfl) (by omega) (by decide) (by decide) dX11_meeting_15 dX11_meeting_18 dX11_meeting_19 dX11_meeting_21 dX11_meeting_24 ?_
    exact ⟨⟨rfl, rfl⟩, by omega, rfl⟩
  · refine x_iload_n (i := 1) dX11_meeting_4 rfl rfl ?_
    refine y_aln (i := 0) dX11_meeting_5 at1.ne0 rfl rfl ?_
    refine y_getp (z := 2) (v := t) dX11_meeting_6 frX11_16 cfX11 at1 rfl rfl h1t ?_
    refine y_geti (z := 3) dX11_meeting_9 frX11_156 cfX10 hTo.at rfl rfl ?_
    refine x_icmp_lt (tgt := 25) dX11_meeting_12 rfl (fun h12 => ?_) (fun h12 => ?_)
    · refine x_iload_n (i := 2) dX11_meeting_25 rfl rfl ?_
      refine x_if_eq (tgt := 44) dX11_meeting_26 rfl (fun h26 => ?_) (fun h26 => ?_)
      · refine x_iload_n (i := 2) dX11_meeting_44 rfl rfl ?_
        refine x_if_ne (tgt := 60) dX11_meeting_45 rfl (fun h45 => ?_) (fun h45 => ?_)
        · refine y_aln (i := 0) dX11_meeting_60 at1.ne0 rfl rfl ?_
          refine y_getp (z := 2) (v := t) dX11_meeting_61 frX11_16 cfX11 at1 rfl rfl h1t ?_
          refine y_getp (z := 15) (v := (t + 12)) dX11_meeting_64 frX11_215 cfX10 hTo.at rfl rfl (p10_15 wT hTo) ?_
          refine x_iload_n (i := 1) dX11_meeting_67 rfl rfl ?_
          refine x_iald dX11_meeting_68 (a10_15 hTo) ⟨by omega, by omega⟩ ?_
          refine x_iretX dX11_meeting_69 rfl ?_
          first | (obtain rfl : w = 0 := (by omega); exact ⟨⟨rfl, rfl⟩, ⟨by omega, by decide⟩, (by rw [Int.add_zero]; exact (g m (by omega) (by omega)).1)⟩) | (obtain rfl : w = 1 := (by omega); exact ⟨⟨rfl, rfl⟩, ⟨by omega, by decide⟩, (g m (by omega) (by omega)).2⟩)
        · refine y_aln (i := 0) dX11_meeting_48 at1.ne0 rfl rfl ?_
          refine y_getp (z := 2) (v := t) dX11_meeting_49 frX11_16 cfX11 at1 rfl rfl h1t ?_
          refine y_getp (z := 14) (v := (t + 11)) dX11_meeting_52 frX11_212 cfX10 hTo.at rfl rfl (p10_14 wT hTo) ?_
          refine x_iload_n (i := 1) dX11_meeting_55 rfl rfl ?_
          refine x_iald dX11_meeting_56 (a10_14 hTo) ⟨by omega, by omega⟩ ?_
          refine x_goto (tgt := 69) dX11_meeting_57 rfl ?_
          refine x_iretX dX11_meeting_69 rfl ?_
          first | (obtain rfl : w = 0 := (by omega); exact ⟨⟨rfl, rfl⟩, ⟨by omega, by decide⟩, (by rw [Int.add_zero]; exact (g m (by omega) (by omega)).1)⟩) | (obtain rfl : w = 1 := (by omega); exact ⟨⟨rfl, rfl⟩, ⟨by omega, by decide⟩, (g m (by omega) (by omega)).2⟩)
      · refine x_iload_n (i := 2) dX11_meeting_29 rfl rfl ?_
        refine y_ic dX11_meeting_30 ⟨by decide, by decide⟩ ?_
        refine x_icmp_eq (tgt := 44) dX11_meeting_31 rfl (fun h31 => ?_) (fun h31 => ?_)
        · refine x_iload_n (i := 2) dX11_meeting_44 rfl rfl ?_
          refine x_if_ne (tgt := 60) dX11_meeting_45 rfl (fun h45 => ?_) (fun h45 => ?_)
          · refine y_aln (i := 0) dX11_meeting_60 at1.ne0 rfl rfl ?_
            refine y_getp (z := 2) (v := t) dX11_meeting_61 frX11_16 cfX11 at1 rfl rfl h1t ?_
            refine y_getp (z := 15) (v := (t + 12)) dX11_meeting_64 frX11_215 cfX10 hTo.at rfl rfl (p10_15 wT hTo) ?_
            refine x_iload_n (i := 1) dX11_meeting_67 rfl rfl ?_
            refine x_iald dX11_meeting_68 (a10_15 hTo) ⟨by omega, by omega⟩ ?_
            refine x_iretX dX11_meeting_69 rfl ?_
            first | (obtain rfl : w = 0 := (by omega); exact ⟨⟨rfl, rfl⟩, ⟨by omega, by decide⟩, (by rw [Int.add_zero]; exact (g m (by omega) (by omega)).1)⟩) | (obtain rfl : w = 1 := (by omega); exact ⟨⟨rfl, rfl⟩, ⟨by omega, by decide⟩, (g m (by omega) (by omega)).2⟩)
          · refine y_aln (i := 0) dX11_meeting_48 at1.ne0 rfl rfl ?_
            refine y_getp (z := 2) (v := t) dX11_meeting_49 frX11_16 cfX11 at1 rfl rfl h1t ?_
            refine y_getp (z := 14) (v := (t + 11)) dX11_meeting_52 frX11_212 cfX10 hTo.at rfl rfl (p10_14 wT hTo) ?_
            refine x_iload_n (i := 1) dX11_meeting_55 rfl rfl ?_
            refine x_iald dX11_meeting_56 (a10_14 hTo) ⟨by omega, by omega⟩ ?_
            refine x_goto (tgt := 69) dX11_meeting_57 rfl ?_
            refine x_iretX dX11_meeting_69 rfl ?_
            first | (obtain rfl : w = 0 := (by omega); exact ⟨⟨rfl, rfl⟩, ⟨by omega, by decide⟩, (by rw [Int.add_zero]; exact (g m (by omega) (by omega)).1)⟩) | (obtain rfl : w = 1 := (by omega); exact ⟨⟨rfl, rfl⟩, ⟨by omega, by decide⟩, (g m (by omega) (by omega)).2⟩)
        · refine xnN (text := "a meeting has a first and a second one") rfl rfl (by decide +kernel) (Nat.le_of_ble_eq_true rfl) (by omega) (by decide) (by decide) dX11_meeting_34 dX11_meeting_37 dX11_meeting_38 dX11_meeting_40 dX11_meeting_43 ?_
          exact ⟨⟨rfl, rfl⟩, by omega, rfl⟩
    · refine xnN (text := "no such meeting") rfl rfl (by decide +kernel) (Nat.le_of_ble_eq_true rfl) (by omega) (by decide) (by decide) dX11_meeting_15 dX11_meeting_18 dX11_meeting_19 dX11_meeting_21 dX11_meeting_24 ?_
      exact ⟨⟨rfl, rfl⟩, by omega, rfl⟩
theorem c_X11_bag {t : Nat} {s : Int} (hW : WP P) (hM : MK I P 46 t (t + 13) T) (h1t : P 1 2 = t) (hF : WF T) (hb : I 85 3 = 0 ∨ I 85 3 = 1) : Cv G mX11_bag (d + 8) 1 6 [.inr (.inl 1), .inl s] NO I P (qX NO (fun r I' P' => (I' = I ∧ P' = P) ∧ ((0 ≤ s ∧ s < T 0 2) ∧ I 85 3 = 1) ∧ r = I 87 s) (fun c I' P' => (I' = I ∧ P' = P) ∧ ¬ ((0 ≤ s ∧ s < T 0 2) ∧ I 85 3 = 1) ∧ c = tEN)) := by
  have f2 := hF.2.1
  refine x_enter mfX11_bag rfl (Nat.le_of_ble_eq_true rfl) (fun _ => ?_)
  refine y_aln (i := 0) dX11_bag_0 at1.ne0 rfl rfl ?_
  refine y_getp (z := 17) (v := 85) dX11_bag_1 frX11_100 cfX11 at1 rfl rfl (wp (v := 85) hW rfl rfl (by decide)) ?_
  refine y_geti (z := 3) dX11_bag_4 frX11_299 cfX1 at85 rfl rfl ?_
  refine x_if_eq (tgt := 18) dX11_bag_7 rfl (fun h7 => ?_) (fun h7 => ?_)
  · refine xnNW (text := "no bag is kept, or no such sort") rfl rfl (by decide +kernel) (Nat.le_of_ble_eq_true rfl) (by omega) (by decide) (by decide) dX11_bag_18 dX11_bag_21 dX11_bag_22 dX11_bag_25 dX11_bag_28 ?_
    exact ⟨⟨rfl, rfl⟩, by omega, rfl⟩
  · refine y_aln (i := 0) dX11_bag_10 at1.ne0 rfl rfl ?_
    refine x_iload_n (i := 1) dX11_bag_11 rfl rfl ?_
    refine x_callVI (c_X11_isNoSort hW hM h1t) dX11_bag_12 lkX11_200 mfX11_isNoSort cfX11 at1 rfl rfl rfl rfl (Nat.le_of_ble_eq_true rfl) (fun r12 I12 P12 hr12 hf12 => ?_)
    obtain ⟨i12, p12, q12⟩ := hf12
    rw [i12, p12]
    refine x_if_eq (tgt := 29) dX11_bag_15 rfl (fun h15 => ?_) (fun h15 => ?_)
    · refine y_aln (i := 0) dX11_bag_29 at1.ne0 rfl rfl ?_
      refine y_getp (z := 17) (v := 85) dX11_bag_30 frX11_100 cfX11 at1 rfl rfl (wp (v := 85) hW rfl rfl (by decide)) ?_
      refine y_getp (z := 2) (v := 87) dX11_bag_33 frX11_304 cfX1 at85 rfl rfl (wp (v := 87) hW rfl rfl (by decide)) ?_
      refine x_iload_n (i := 1) dX11_bag_36 rfl rfl ?_
      refine x_iald dX11_bag_37 ar87 ⟨by omega, by omega⟩ ?_
      refine x_iretX dX11_bag_38 rfl ?_
      exact ⟨⟨rfl, rfl⟩, by omega, rfl⟩
    · refine xnNW (text := "no bag is kept, or no such sort") rfl rfl (by decide +kernel) (Nat.le_of_ble_eq_true rfl) (by omega) (by decide) (by decide) dX11_bag_18 dX11_bag_21 dX11_bag_22 dX11_bag_25 dX11_bag_28 ?_
      exact ⟨⟨rfl, rfl⟩, by omega, rfl⟩
theorem c_X11_ordered {i : Int} (hW : WP P) (h5 : I 85 5 ≤ 5) : Cv G mX11_ordered (d + 8) 1 6 [.inr (.inl 1), .inl i] NO I P (qX NO (fun r I' P' => (I' = I ∧ P' = P) ∧ (0 ≤ i ∧ i < I 85 5) ∧ r = I 88 i) (fun c I' P' => (I' = I ∧ P' = P) ∧ ¬ (0 ≤ i ∧ i < I 85 5) ∧ c = tEN)) := by
  refine x_enter mfX11_ordered rfl (Nat.le_of_ble_eq_true rfl) (fun _ => ?_)
  refine x_iload_n (i := 1) dX11_ordered_0 rfl rfl ?_
  refine x_if_lt (tgt := 15) dX11_ordered_1 rfl (fun h1 => ?_) (fun h1 => ?_)
  · refine xnNW (text := "no such meeting of an order") rfl rfl (by decide +kernel) (Nat.le_of_ble_eq_true rfl) (by omega) (by decide) (by decide) dX11_ordered_15 dX11_ordered_18 dX11_ordered_19 dX11_ordered_22 dX11_ordered_25 ?_
    exact ⟨⟨rfl, rfl⟩, by omega, rfl⟩
  · refine x_iload_n (i := 1) dX11_ordered_4 rfl rfl ?_
    refine y_aln (i := 0) dX11_ordered_5 at1.ne0 rfl rfl ?_
    refine y_getp (z := 17) (v := 85) dX11_ordered_6 frX11_100 cfX11 at1 rfl rfl (wp (v := 85) hW rfl rfl (by decide)) ?_
    refine y_geti (z := 5) dX11_ordered_9 frX11_347 cfX1 at85 rfl rfl ?_
    refine x_icmp_lt (tgt := 26) dX11_ordered_12 rfl (fun h12 => ?_) (fun h12 => ?_)
    · refine y_aln (i := 0) dX11_ordered_26 at1.ne0 rfl rfl ?_
      refine y_getp (z := 17) (v := 85) dX11_ordered_27 frX11_100 cfX11 at1 rfl rfl (wp (v := 85) hW rfl rfl (by decide)) ?_
      refine y_getp (z := 4) (v := 88) dX11_ordered_30 frX11_352 cfX1 at85 rfl rfl (wp (v := 88) hW rfl rfl (by decide)) ?_
      refine x_iload_n (i := 1) dX11_ordered_33 rfl rfl ?_
      refine x_iald dX11_ordered_34 ar88 ⟨by omega, by omega⟩ ?_
      refine x_iretX dX11_ordered_35 rfl ?_
      exact ⟨⟨rfl, rfl⟩, by omega, rfl⟩
    · refine xnNW (text := "no such meeting of an order") rfl rfl (by decide +kernel) (Nat.le_of_ble_eq_true rfl) (by omega) (by decide) (by decide) dX11_ordered_15 dX11_ordered_18 dX11_ordered_19 dX11_ordered_22 dX11_ordered_25 ?_
      exact ⟨⟨rfl, rfl⟩, by omega, rfl⟩
theorem c_X11_shared {t : Nat} {p s : Int} (hW : WP P) (hM : MK I P 46 t (t + 13) T) (h1t : P 1 2 = t) (hF : WF T) (hb : I 85 7 = 0 ∨ I 85 7 = 1) : Cv G mX11_shared (d + 8) 1 6 [.inr (.inl 1), .inl p, .inl s] NO I P (qX NO (fun r I' P' => (I' = I ∧ P' = P) ∧ (okPS T p s ∧ I 85 7 = 1) ∧ r = I 89 (8 * p + s)) (fun c I' P' => (I' = I ∧ P' = P) ∧ ¬ (okPS T p s ∧ I 85 7 = 1) ∧ c = tEN)) := by
  have f1 := hF.1
  have f2 := hF.2.1
  refine x_enter mfX11_shared rfl (Nat.le_of_ble_eq_true rfl) (fun _ => ?_)
  refine y_aln (i := 0) dX11_shared_0 at1.ne0 rfl rfl ?_
  refine y_getp (z := 17) (v := 85) dX11_shared_1 frX11_100 cfX11 at1 rfl rfl (wp (v := 85) hW rfl rfl (by decide)) ?_
  refine y_geti (z := 7) dX11_shared_4 frX11_391 cfX1 at85 rfl rfl ?_
  refine x_if_eq (tgt := 19) dX11_shared_7 rfl (fun h7 => ?_) (fun h7 => ?_)
  · refine xnNW (text := "no share is kept, or no such person or sort") rfl rfl (by decide +kernel) (Nat.le_of_ble_eq_true rfl) (by omega) (by decide) (by decide) dX11_shared_19 dX11_shared_22 dX11_shared_23 dX11_shared_26 dX11_shared_29 ?_
    first | exact ⟨⟨rfl, rfl⟩, fun z => (q13.resolve_right (fun z => by have := z.1; omega)).2 z.1, rfl⟩ | exact ⟨⟨rfl, rfl⟩, fun z => by have := z.2; omega, rfl⟩
  · refine y_aln (i := 0) dX11_shared_10 at1.ne0 rfl rfl ?_
    refine x_iload_n (i := 1) dX11_shared_11 rfl rfl ?_
    refine x_iload_n (i := 2) dX11_shared_12 rfl rfl ?_
    refine x_callVI (c_X11_isNoCell hW hM h1t) dX11_shared_13 lkX11_174 mfX11_isNoCell cfX11 at1 rfl rfl rfl rfl (Nat.le_of_ble_eq_true rfl) (fun r13 I13 P13 hr13 hf13 => ?_)
    obtain ⟨i13, p13, q13⟩ := hf13
    rw [i13, p13]
    refine x_if_eq (tgt := 30) dX11_shared_16 rfl (fun h16 => ?_) (fun h16 => ?_)
    · have hok : okPS T p s := (q13.resolve_left (fun z => by have := z.1; omega)).2
      have hok2 : (0 ≤ p ∧ p < T 0 1) ∧ 0 ≤ s ∧ s < T 0 2 := hok
      refine y_aln (i := 0) dX11_shared_30 at1.ne0 rfl rfl ?_
      refine y_getp (z := 17) (v := 85) dX11_shared_31 frX11_100 cfX11 at1 rfl rfl (wp (v := 85) hW rfl rfl (by decide)) ?_
      refine y_getp (z := 6) (v := 89) dX11_shared_34 frX11_396 cfX1 at85 rfl rfl (wp (v := 89) hW rfl rfl (by decide)) ?_
      refine x_iload_n (i := 1) dX11_shared_37 rfl rfl ?_
      refine y_bi dX11_shared_38 ⟨by decide, by decide⟩ ?_
      refine x_imul dX11_shared_40 ⟨by omega, by omega⟩ ?_
      rw [Int.mul_comm p 8]
      refine x_iload_n (i := 2) dX11_shared_41 rfl rfl ?_
      refine x_iadd dX11_shared_42 ⟨by omega, by omega⟩ ?_
      refine x_iald dX11_shared_43 ar89 ⟨by omega, by omega⟩ ?_
      refine x_iretX dX11_shared_44 rfl ?_
      exact ⟨⟨rfl, rfl⟩, ⟨hok, by omega⟩, rfl⟩
    · refine xnNW (text := "no share is kept, or no such person or sort") rfl rfl (by decide +kernel) (Nat.le_of_ble_eq_true rfl) (by omega) (by decide) (by decide) dX11_shared_19 dX11_shared_22 dX11_shared_23 dX11_shared_26 dX11_shared_29 ?_
      first | exact ⟨⟨rfl, rfl⟩, fun z => (q13.resolve_right (fun z => by have := z.1; omega)).2 z.1, rfl⟩ | exact ⟨⟨rfl, rfl⟩, fun z => by have := z.2; omega, rfl⟩
theorem c_X11_partOfTie {c w : Int} (hc : 0 ≤ c ∧ c < 24) : Cv G mX11_partOfTie d 0 0 [.inl c, .inl w] NO I P (qI NO (fun r I' P' => I' = I ∧ P' = P ∧ r = if w = 0 then c / 4 else if w = 2 then c % 4 else -1)) := by
  refine x_enter mfX11_partOfTie rfl (Nat.le_of_ble_eq_true rfl) (fun _ => ?_)
  refine x_iload_n (i := 1) dX11_partOfTie_0 rfl rfl ?_
  refine x_if_ne (tgt := 8) dX11_partOfTie_1 rfl (fun h1 => ?_) (fun h1 => ?_)
  · refine x_iload_n (i := 1) dX11_partOfTie_8 rfl rfl ?_
    refine y_ic dX11_partOfTie_9 ⟨by decide, by decide⟩ ?_
    refine x_icmp_ne (tgt := 19) dX11_partOfTie_10 rfl (fun h10 => ?_) (fun h10 => ?_)
    · refine y_ic dX11_partOfTie_19 ⟨by decide, by decide⟩ ?_
      refine x_iret dX11_partOfTie_20 rfl ?_
      first | exact ⟨rfl, rfl, by rw [if_neg (by omega), if_pos (by omega)]⟩ | exact ⟨rfl, rfl, by rw [if_neg (by omega), if_neg (by omega)]⟩
    · refine x_iload_n (i := 0) dX11_partOfTie_13 rfl rfl ?_
      refine y_ic dX11_partOfTie_14 ⟨by decide, by decide⟩ ?_
      refine x_irem dX11_partOfTie_15 (by omega) (by omega) ?_
      refine x_goto (tgt := 20) dX11_partOfTie_16 rfl ?_
      refine x_iret dX11_partOfTie_20 rfl ?_
      first | exact ⟨rfl, rfl, by rw [if_neg (by omega), if_pos (by omega)]⟩ | exact ⟨rfl, rfl, by rw [if_neg (by omega), if_neg (by omega)]⟩
  · refine x_iload_n (i := 0) dX11_partOfTie_4 rfl rfl ?_
    refine y_ic dX11_partOfTie_5 ⟨by decide, by decide⟩ ?_
    refine x_idiv dX11_partOfTie_6 (by omega) (by omega) ?_
    refine x_iret dX11_partOfTie_7 rfl ?_
    exact ⟨rfl, rfl, by rw [if_pos (by omega)]⟩
theorem c_X11_partOfTrade {t : Nat} {c w a b o z : Int} (hW : WP P) (hM : MK I P 46 t (t + 13) T) (h1t : P 1 2 = t) (hF : WF T) (ha : 0 ≤ a ∧ a < 6) (hb : 0 ≤ b ∧ b < 6) (ho : 0 ≤ o ∧ o < OFN T) (hz : 0 ≤ z ∧ z < 8) (hc : c = ((a * 6 + b) * 120 + o) * 8 + z) (hw : 0 ≤ w ∧ w ≤ 3) : Cv G mX11_partOfTrade d 0 0 [.inr (.inl 1), .inl c, .inl w] NO I P (qI NO (fun r I' P' => I' = I ∧ P' = P ∧ r = if w = 0 then a else if w = 1 then b else if w = 2 then numS (T 0 3) (OF T o) else z)) := by
  obtain ⟨hq, hTo, hLo, hpt, hpl, hca, hcl⟩ := id hM
  have wT := wp_T hW hTo
  have hob := (OFN_bd hF).2
  have hlo := (hcl.2.2.2.2 o ho.1 ho.2).2.1
  have e1 : c % 8 = z := (by omega)
  have e2 : c / 8 = (a * 6 + b) * 120 + o := (by omega)
  have e3 : ((a * 6 + b) * 120 + o) % 120 = o := (by omega)
  have e4 : ((a * 6 + b) * 120 + o) / 120 = a * 6 + b := (by omega)
  refine x_enter mfX11_partOfTrade rfl (Nat.le_of_ble_eq_true rfl) (fun _ => ?_)
  refine x_iload_n (i := 1) dX11_partOfTrade_0 rfl rfl ?_
  refine y_bi dX11_partOfTrade_1 ⟨by decide, by decide⟩ ?_
  refine x_irem dX11_partOfTrade_3 (by omega) (by omega) ?_
  rw [e1]
  refine x_istore_n (i := 3) dX11_partOfTrade_4 rfl rfl (Nat.le_of_ble_eq_true rfl) ?_
  refine x_iload_n (i := 1) dX11_partOfTrade_5 rfl rfl ?_
  refine y_bi dX11_partOfTrade_6 ⟨by decide, by decide⟩ ?_
  refine x_idiv dX11_partOfTrade_8 (by omega) (by omega) ?_
  rw [e2]
  refine x_istore (i := 4) dX11_partOfTrade_9 rfl (Nat.le_of_ble_eq_true rfl) ?_
  refine x_iload (i := 4) dX11_partOfTrade_11 rfl ?_
  refine y_bi dX11_partOfTrade_13 ⟨by decide, by decide⟩ ?_
  refine x_irem dX11_partOfTrade_15 (by omega) (by omega) ?_
  rw [e3]
  refine x_istore (i := 5) dX11_partOfTrade_16 rfl (Nat.le_of_ble_eq_true rfl) ?_
  refine x_iload (i := 4) dX11_partOfTrade_18 rfl ?_
  refine y_bi dX11_partOfTrade_20 ⟨by decide, by decide⟩ ?_
  refine x_idiv dX11_partOfTrade_22 (by omega) (by omega) ?_
  rw [e4]
  refine x_istore (i := 6) dX11_partOfTrade_23 rfl (Nat.le_of_ble_eq_true rfl) ?_
  refine x_iload_n (i := 2) dX11_partOfTrade_25 rfl rfl ?_
  refine y_tsw (td := 78) dX11_partOfTrade_26 (fun j off tgt hx26 ho26 ht26 hle26 => ?_) (by decide) (by decide) (by decide) (fun h26 => ?_)
  · have hj26 : j = 0 ∨ j = 1 ∨ j = 2 := by omega
    rcases hj26 with rfl | rfl | rfl
    · have eo26 : off = 26 := Option.some.inj (ho26.symm.trans rfl)
      obtain rfl : tgt = 52 := by omega
      refine x_iload (i := 6) dX11_partOfTrade_52 rfl ?_
      refine y_bi dX11_partOfTrade_54 ⟨by decide, by decide⟩ ?_
      refine x_idiv dX11_partOfTrade_56 (by omega) (by omega) ?_
      refine x_iret dX11_partOfTrade_57 rfl ?_
      exact ⟨rfl, rfl, by rw [if_pos (by omega)]; omega⟩
    · have eo26 : off = 32 := Option.some.inj (ho26.symm.trans rfl)
      obtain rfl : tgt = 58 := by omega
      refine x_iload (i := 6) dX11_partOfTrade_58 rfl ?_
      refine y_bi dX11_partOfTrade_60 ⟨by decide, by decide⟩ ?_
      refine x_irem dX11_partOfTrade_62 (by omega) (by omega) ?_
      refine x_iret dX11_partOfTrade_63 rfl ?_
      exact ⟨rfl, rfl, by rw [if_neg (by omega), if_pos (by omega)]; omega⟩
    · have eo26 : off = 38 := Option.some.inj (ho26.symm.trans rfl)
      obtain rfl : tgt = 64 := by omega
      refine y_aln (i := 0) dX11_partOfTrade_64 at1.ne0 rfl rfl ?_
      refine y_getp (z := 2) (v := t) dX11_partOfTrade_65 frX11_16 cfX11 at1 rfl rfl h1t ?_
      refine y_getp (z := 16) (v := (t + 13)) dX11_partOfTrade_68 frX11_140 cfX10 hTo.at rfl rfl (p10_16 wT hTo) ?_
      refine y_getp (z := 5) (v := ((t + 13) + 2)) dX11_partOfTrade_71 frX11_424 cfX2 (a10_16 hTo) rfl rfl (p2_5 (w10_16 wT) (h10_16 hTo)) ?_
      refine x_iload (i := 5) dX11_partOfTrade_74 rfl ?_
      refine x_iald dX11_partOfTrade_76 (a2_5 (h10_16 hTo)) ⟨by omega, by omega⟩ ?_
      refine x_iret dX11_partOfTrade_77 rfl ?_
      exact ⟨rfl, rfl, by rw [if_neg (by omega), if_neg (by omega), if_pos (by omega)]; exact hlo⟩
  · refine x_iload_n (i := 3) dX11_partOfTrade_78 rfl rfl ?_
    refine x_iret dX11_partOfTrade_79 rfl ?_
    exact ⟨rfl, rfl, by rw [if_neg (by omega), if_neg (by omega), if_neg (by omega)]⟩
theorem c_X11_step {t : Nat} {i w : Int} (hW : WP P) (hM : MK I P 46 t (t + 13) T) (h1t : P 1 2 = t) (hF : WF T) (h1 : I 85 1 ≤ 1000) (hx : ∀ i, 0 ≤ i → i < I 85 1 → ∃ h, okH T h ∧ I 86 i = codeX h) : Cv G mX11_step (d + 8) 1 6 [.inr (.inl 1), .inl i, .inl w] NO I P (qX NO (fun r I' P' => (I' = I ∧ P' = P) ∧ ((0 ≤ i ∧ i < I 85 1) ∧ 0 ≤ w ∧ w ≤ 3) ∧ ∀ h, okH T h → I 86 i = codeX h → r = stpV T h w) (fun c I' P' => (I' = I ∧ P' = P) ∧ ¬ ((0 ≤ i ∧ i < I 85 1) ∧ 0 ≤ w ∧ w ≤ 3) ∧ c = tEN)) := by
  have hob := (OFN_bd hF).2
  refine x_enter mfX11_step rfl (Nat.le_of_ble_eq_true rfl) (fun _ => ?_)
  have hS : (0 ≤ i ∧ i < I 85 1) → (0 ≤ w ∧ w ≤ 3) → V G mX11_step (d + 8) 1 6 35 [some (.inr (.inl 1)), some (.inl (i)), some (.inl (w)), none] [] NO I P (qX NO (fun r I' P' => (I' = I ∧ P' = P) ∧ ((0 ≤ i ∧ i < I 85 1) ∧ 0 ≤ w ∧ w ≤ 3) ∧ ∀ h, okH T h → I 86 i = codeX h → r = stpV T h w) (fun c I' P' => (I' = I ∧ P' = P) ∧ ¬ ((0 ≤ i ∧ i < I 85 1) ∧ 0 ≤ w ∧ w ≤ 3) ∧ c = tEN)) := fun hi hw => by
    obtain ⟨h, hh, hcd⟩ := hx i hi.1 hi.2
    have hu : ∀ h', okH T h' → I 86 i = codeX h' → stpV T h w = stpV T h' w := fun h' hh' hc' => by
      exact stp_u hF hh hh' (by rw [← hcd, ← hc']) w
    rcases hh with ⟨q1, q2, q3, q4⟩ | ⟨q1, q2, q3, q4⟩
    · have ec : codeX h = 34560 + h.2.1 * 4 + h.2.2.2.1 := if_pos q2
      refine y_aln (i := 0) dX11_step_35 at1.ne0 rfl rfl ?_
      refine y_getp (z := 17) (v := 85) dX11_step_36 frX11_100 cfX11 at1 rfl rfl (wp (v := 85) hW rfl rfl (by decide)) ?_
      refine y_getp (z := 0) (v := 86) dX11_step_39 frX11_254 cfX1 at85 rfl rfl (wp (v := 86) hW rfl rfl (by decide)) ?_
      refine x_iload_n (i := 1) dX11_step_42 rfl rfl ?_
      refine x_iald dX11_step_43 ar86 ⟨by omega, by omega⟩ ?_
      refine x_istore_n (i := 3) dX11_step_44 rfl rfl (Nat.le_of_ble_eq_true rfl) ?_
      refine x_iload_n (i := 3) dX11_step_45 rfl rfl ?_
      refine y_ldcw dX11_step_46 kcX11_266 (show _ = oI (34560) from rfl) ⟨by decide, by decide⟩ ?_
      refine x_icmp_ge (tgt := 61) dX11_step_49 rfl (fun h49 => ?_) (fun h49 => ?_)
      · refine x_iload_n (i := 3) dX11_step_61 rfl rfl ?_
        refine y_ldcw dX11_step_62 kcX11_266 (show _ = oI (34560) from rfl) ⟨by decide, by decide⟩ ?_
        refine x_isub dX11_step_65 ⟨by omega, by omega⟩ ?_
        refine x_iload_n (i := 2) dX11_step_66 rfl rfl ?_
        refine x_callSI (c_X11_partOfTie (by omega)) dX11_step_67 lkX11_271 mfX11_partOfTie rfl rfl rfl (Nat.le_of_ble_eq_true rfl) (fun r67 I67 P67 hr67 hf67 => ?_)
        obtain ⟨i67, p67, q67⟩ := hf67
        rw [i67, p67]
        refine x_iretX dX11_step_70 rfl ?_
        first | (exfalso; omega) | (refine ⟨⟨rfl, rfl⟩, ⟨hi, hw⟩, fun h' hh' hc' => ?_⟩; rw [← hu h' hh' hc', q67]; unfold stpV numX; rw [if_pos q2]; by_cases w0 : w = 0; rw [if_pos w0, if_pos w0]; omega; rw [if_neg w0, if_neg w0]; by_cases w1 : w = 1; rw [if_neg (by omega), if_pos w1, q2]; rw [if_neg w1]; by_cases w2 : w = 2; rw [if_pos w2, if_pos w2]; omega; rw [if_neg w2, if_neg w2, q4])
      · refine y_aln (i := 0) dX11_step_52 at1.ne0 rfl rfl ?_
        refine x_iload_n (i := 3) dX11_step_53 rfl rfl ?_
        refine x_iload_n (i := 2) dX11_step_54 rfl rfl ?_
        refine x_callVI (c_X11_partOfTrade (a := 0) (b := 0) (o := 0) (z := 0) hW hM h1t hF (by omega) (by omega) (by omega) (by omega) (by omega) (by omega)) dX11_step_55 lkX11_267 mfX11_partOfTrade cfX11 at1 rfl rfl rfl rfl (Nat.le_of_ble_eq_true rfl) (fun r55 I55 P55 hr55 hf55 => ?_)
        obtain ⟨i55, p55, q55⟩ := hf55
        rw [i55, p55]
        refine x_goto (tgt := 70) dX11_step_58 rfl ?_
        refine x_iretX dX11_step_70 rfl ?_
        first | (exfalso; omega) | (refine ⟨⟨rfl, rfl⟩, ⟨hi, hw⟩, fun h' hh' hc' => ?_⟩; rw [← hu h' hh' hc', q67]; unfold stpV numX; rw [if_pos q2]; by_cases w0 : w = 0; rw [if_pos w0, if_pos w0]; omega; rw [if_neg w0, if_neg w0]; by_cases w1 : w = 1; rw [if_neg (by omega), if_pos w1, q2]; rw [if_neg w1]; by_cases w2 : w = 2; rw [if_pos w2, if_pos w2]; omega; rw [if_neg w2, if_neg w2, q4])
    · have ec : codeX h = ((h.2.1 * 6 + h.2.2.1) * 120 + h.2.2.2.1) * 8 + h.2.2.2.2 := if_neg (by omega)
      refine y_aln (i := 0) dX11_step_35 at1.ne0 rfl rfl ?_
      refine y_getp (z := 17) (v := 85) dX11_step_36 frX11_100 cfX11 at1 rfl rfl (wp (v := 85) hW rfl rfl (by decide)) ?_
      refine y_getp (z := 0) (v := 86) dX11_step_39 frX11_254 cfX1 at85 rfl rfl (wp (v := 86) hW rfl rfl (by decide)) ?_
      refine x_iload_n (i := 1) dX11_step_42 rfl rfl ?_
      refine x_iald dX11_step_43 ar86 ⟨by omega, by omega⟩ ?_
      refine x_istore_n (i := 3) dX11_step_44 rfl rfl (Nat.le_of_ble_eq_true rfl) ?_
      refine x_iload_n (i := 3) dX11_step_45 rfl rfl ?_
      refine y_ldcw dX11_step_46 kcX11_266 (show _ = oI (34560) from rfl) ⟨by decide, by decide⟩ ?_
      refine x_icmp_ge (tgt := 61) dX11_step_49 rfl (fun h49 => ?_) (fun h49 => ?_)
      · refine x_iload_n (i := 3) dX11_step_61 rfl rfl ?_
        refine y_ldcw dX11_step_62 kcX11_266 (show _ = oI (34560) from rfl) ⟨by decide, by decide⟩ ?_
        refine x_isub dX11_step_65 ⟨by omega, by omega⟩ ?_
        refine x_iload_n (i := 2) dX11_step_66 rfl rfl ?_
        refine x_callSI (c_X11_partOfTie (by omega)) dX11_step_67 lkX11_271 mfX11_partOfTie rfl rfl rfl (Nat.le_of_ble_eq_true rfl) (fun r67 I67 P67 hr67 hf67 => ?_)
        obtain ⟨i67, p67, q67⟩ := hf67
        rw [i67, p67]
        refine x_iretX dX11_step_70 rfl ?_
        first | (exfalso; omega) | (refine ⟨⟨rfl, rfl⟩, ⟨hi, hw⟩, fun h' hh' hc' => ?_⟩; rw [← hu h' hh' hc', q55]; unfold stpV numX; rw [if_neg (show ¬ h.2.2.1 = -1 by omega)])
      · refine y_aln (i := 0) dX11_step_52 at1.ne0 rfl rfl ?_
        refine x_iload_n (i := 3) dX11_step_53 rfl rfl ?_
        refine x_iload_n (i := 2) dX11_step_54 rfl rfl ?_
        refine x_callVI (c_X11_partOfTrade (a := h.2.1) (b := h.2.2.1) (o := h.2.2.2.1) (z := h.2.2.2.2) hW hM h1t hF q1 q2 q3 q4 (by omega) hw) dX11_step_55 lkX11_267 mfX11_partOfTrade cfX11 at1 rfl rfl rfl rfl (Nat.le_of_ble_eq_true rfl) (fun r55 I55 P55 hr55 hf55 => ?_)
        obtain ⟨i55, p55, q55⟩ := hf55
        rw [i55, p55]
        refine x_goto (tgt := 70) dX11_step_58 rfl ?_
        refine x_iretX dX11_step_70 rfl ?_
        first | (exfalso; omega) | (refine ⟨⟨rfl, rfl⟩, ⟨hi, hw⟩, fun h' hh' hc' => ?_⟩; rw [← hu h' hh' hc', q55]; unfold stpV numX; rw [if_neg (show ¬ h.2.2.1 = -1 by omega)])
  refine x_iload_n (i := 1) dX11_step_0 rfl rfl ?_
  refine x_if_lt (tgt := 24) dX11_step_1 rfl (fun h1 => ?_) (fun h1 => ?_)
  · refine xnNW (text := "no such step, or nothing of it") rfl rfl (by decide +kernel) (Nat.le_of_ble_eq_true rfl) (by omega) (by decide) (by decide) dX11_step_24 dX11_step_27 dX11_step_28 dX11_step_31 dX11_step_34 ?_
    exact ⟨⟨rfl, rfl⟩, by omega, rfl⟩
  · refine x_iload_n (i := 1) dX11_step_4 rfl rfl ?_
    refine y_aln (i := 0) dX11_step_5 at1.ne0 rfl rfl ?_
    refine y_getp (z := 17) (v := 85) dX11_step_6 frX11_100 cfX11 at1 rfl rfl (wp (v := 85) hW rfl rfl (by decide)) ?_
    refine y_geti (z := 1) dX11_step_9 frX11_261 cfX1 at85 rfl rfl ?_
    refine x_icmp_ge (tgt := 24) dX11_step_12 rfl (fun h12 => ?_) (fun h12 => ?_)
    · refine xnNW (text := "no such step, or nothing of it") rfl rfl (by decide +kernel) (Nat.le_of_ble_eq_true rfl) (by omega) (by decide) (by decide) dX11_step_24 dX11_step_27 dX11_step_28 dX11_step_31 dX11_step_34 ?_
      exact ⟨⟨rfl, rfl⟩, by omega, rfl⟩
    · refine x_iload_n (i := 2) dX11_step_15 rfl rfl ?_
      refine x_if_lt (tgt := 24) dX11_step_16 rfl (fun h16 => ?_) (fun h16 => ?_)
      · refine xnNW (text := "no such step, or nothing of it") rfl rfl (by decide +kernel) (Nat.le_of_ble_eq_true rfl) (by omega) (by decide) (by decide) dX11_step_24 dX11_step_27 dX11_step_28 dX11_step_31 dX11_step_34 ?_
        exact ⟨⟨rfl, rfl⟩, by omega, rfl⟩
      · refine x_iload_n (i := 2) dX11_step_19 rfl rfl ?_
        refine y_ic dX11_step_20 ⟨by decide, by decide⟩ ?_
        refine x_icmp_le (tgt := 35) dX11_step_21 rfl (fun h21 => ?_) (fun h21 => ?_)
        · refine x_keep [1, 1, 1, 0] ?_
          exact hS (by omega) (by omega)
        · refine xnNW (text := "no such step, or nothing of it") rfl rfl (by decide +kernel) (Nat.le_of_ble_eq_true rfl) (by omega) (by decide) (by decide) dX11_step_24 dX11_step_27 dX11_step_28 dX11_step_31 dX11_step_34 ?_
          exact ⟨⟨rfl, rfl⟩, by omega, rfl⟩
end

