/-! ===== the class: the reader's lines ===== -/
section
variable {G : HX} {d : Nat} {I : Mem} {P : Ptr} {k S : Tn} {m i : Int} {t : Nat}
theorem c_X6_readSorts {l : Int} (hW : WP P) (hTo : isT NO t) (hpt : P 41 1 = t) (hk : TKC I k m) (hi : 1 ≤ i) (ha : ATK I k m (i - 1)) (h6 : I 41 6 = 0) (hS : CR I t S 0) (hl : 0 ≤ l) : Cv G mX6_readSorts (d + 2) 0 0 [.inr (.inl 41), .inl l] NO I P (qV (fun n' I' P' => n' = NO ∧ P' = P ∧ Fc (sR t) I I' ∧ RSC I' t k m (sortR k l i S))) := by
  have wT := wp_T hW hTo
  have ht1 := hTo.1
  refine x_enter mfX6_readSorts rfl (Nat.le_of_ble_eq_true rfl) (fun _ => ?_)
  refine x_iload_n (i := 1) dX6_readSorts_0 rfl rfl ?_
  refine x_if_le (tgt := 13) dX6_readSorts_1 rfl (fun h1 => ?_) (fun h1 => ?_)
  · skip
    refine y_aln (i := 0) dX6_readSorts_13 at41.ne0 rfl rfl ?_
    refine y_ic dX6_readSorts_14 ⟨by decide, by decide⟩ ?_
    refine y_bi dX6_readSorts_15 ⟨by decide, by decide⟩ ?_
    refine x_callVI (c_X6_isNumber hW hk (by omega) ha.b) dX6_readSorts_17 lkX6_81 mfX6_isNumber cfX6 at41 rfl rfl rfl rfl (Nat.le_of_ble_eq_true rfl) (fun r17 I17 P17 hr17 hf17 => ?_)
    obtain ⟨rfl, f17, a17, q17⟩ := hf17
    refine x_if_eq (tgt := 39) dX6_readSorts_20 rfl (fun h20 => ?_) (fun h20 => ?_)
    · have n17 := q17.resolve_left (fun q => by have := q.1; omega)
      refine x_vret dX6_readSorts_39 rfl ?_
      first | (have z1 := q35; refine ⟨rfl, rfl, (f17.fc.t ⟨by omega, by omega⟩).tr f35.fc, ?_⟩; unfold sortR; rw [ckR_0 (if_pos (by omega)), ckR_0 y17.2.1]; exact RSC.sgn (r := r35) a35 (by omega) (s34.fl hTo f35) q35) | (have z1 := n17; refine ⟨rfl, rfl, f17.fc, ?_⟩; unfold sortR; rw [ckR_0 (if_pos (by omega))]; exact RSC.no n17.2.1 n17.2.2 a17.2.1) | (have z1 := b6; refine ⟨rfl, rfl, Fc.rf.r, ?_⟩; unfold sortR; exact RSC.n2 (v := 5) (if_neg (by omega)) (by decide) (by rw [uI_eq, u1_eq]) (by rw [uI_eq, u1_ne (by decide)]; exact ha.2.1)) | fail "none"
    · have y17 := q17.resolve_right (fun q => h20 q.1)
      have v17 := a17.2.2.2 y17.2.2.1
      have s17 := hS.fl hTo f17
      have z17 := y17.2.2.2.2.trans h6
      refine y_aln (i := 0) dX6_readSorts_23 at41.ne0 rfl rfl ?_
      refine y_getp (z := 1) (v := t) dX6_readSorts_24 frX6_15 cfX6 at41 rfl rfl hpt ?_
      refine y_aln (i := 0) dX6_readSorts_27 at41.ne0 rfl rfl ?_
      refine y_geti (z := 5) dX6_readSorts_28 frX6_85 cfX6 at41 rfl rfl ?_
      rw [v17]
      refine y_puti (z := 1) dX6_readSorts_31 frX6_51 cfX10 hTo.at rfl rfl rfl ?_
      have s34 := s17.sorts hTo y17.2.2.2.1
      refine y_aln (i := 0) dX6_readSorts_34 at41.ne0 rfl rfl ?_
      refine x_callVI (c_X6_isSign (i := i + 1) hW ((hk.fl f17).t hTo ⟨by omega, by omega⟩) (by omega) (by rw [r41 hTo ⟨by omega, by omega⟩]; exact a17.1)) dX6_readSorts_35 lkX6_88 mfX6_isSign cfX6 at41 rfl rfl rfl rfl (Nat.le_of_ble_eq_true rfl) (fun r35 I35 P35 hr35 hf35 => ?_)
      obtain ⟨rfl, f35, a35, q35⟩ := hf35
      rw [r41 hTo ⟨by omega, by omega⟩, z17] at q35
      refine x_pop dX6_readSorts_38 rfl ?_
      refine x_vret dX6_readSorts_39 rfl ?_
      first | (have z1 := q35; refine ⟨rfl, rfl, (f17.fc.t ⟨by omega, by omega⟩).tr f35.fc, ?_⟩; unfold sortR; rw [ckR_0 (if_pos (by omega)), ckR_0 y17.2.1]; exact RSC.sgn (r := r35) a35 (by omega) (s34.fl hTo f35) q35) | (have z1 := n17; refine ⟨rfl, rfl, f17.fc, ?_⟩; unfold sortR; rw [ckR_0 (if_pos (by omega))]; exact RSC.no n17.2.1 n17.2.2 a17.2.1) | (have z1 := b6; refine ⟨rfl, rfl, Fc.rf.r, ?_⟩; unfold sortR; exact RSC.n2 (v := 5) (if_neg (by omega)) (by decide) (by rw [uI_eq, u1_eq]) (by rw [uI_eq, u1_ne (by decide)]; exact ha.2.1)) | fail "none"
  · refine y_aln (i := 0) dX6_readSorts_4 at41.ne0 rfl rfl ?_
    refine y_ic dX6_readSorts_5 ⟨by decide, by decide⟩ ?_
    refine x_callVI (c_X6_refuse hW) dX6_readSorts_6 lkX6_77 mfX6_refuse cfX6 at41 rfl rfl rfl rfl (Nat.le_of_ble_eq_true rfl) (fun r6 I6 P6 hr6 hf6 => ?_)
    obtain ⟨rfl, rfl, rfl⟩ := hf6
    have b6 : (0 : Int) < l := h1
    refine x_pop dX6_readSorts_9 rfl ?_
    refine x_goto (tgt := 39) dX6_readSorts_10 rfl ?_
    refine x_vret dX6_readSorts_39 rfl ?_
    first | (have z1 := q35; refine ⟨rfl, rfl, (f17.fc.t ⟨by omega, by omega⟩).tr f35.fc, ?_⟩; unfold sortR; rw [ckR_0 (if_pos (by omega)), ckR_0 y17.2.1]; exact RSC.sgn (r := r35) a35 (by omega) (s34.fl hTo f35) q35) | (have z1 := n17; refine ⟨rfl, rfl, f17.fc, ?_⟩; unfold sortR; rw [ckR_0 (if_pos (by omega))]; exact RSC.no n17.2.1 n17.2.2 a17.2.1) | (have z1 := b6; refine ⟨rfl, rfl, Fc.rf.r, ?_⟩; unfold sortR; exact RSC.n2 (v := 5) (if_neg (by omega)) (by decide) (by rw [uI_eq, u1_eq]) (by rw [uI_eq, u1_ne (by decide)]; exact ha.2.1)) | fail "none"
theorem c_X6_readTie (hW : WP P) (hTo : isT NO t) (hpt : P 41 1 = t) (hk : TKC I k m) (hi : 1 ≤ i) (ha : ATK I k m (i - 1)) (h6 : I 41 6 = 0) (hS : CR I t S 0) : Cv G mX6_readTie (d + 2) 0 0 [.inr (.inl 41)] NO I P (qV (fun n' I' P' => n' = NO ∧ P' = P ∧ Fc (sR t) I I' ∧ RSC I' t k m (tieR k i S))) := by
  have wT := wp_T hW hTo
  have ht1 := hTo.1
  have hsb := hS.sb.2.2.1
  refine x_enter mfX6_readTie rfl (Nat.le_of_ble_eq_true rfl) (fun _ => ?_)
  refine y_aln (i := 0) dX6_readTie_0 at41.ne0 rfl rfl ?_
  refine y_getp (z := 1) (v := t) dX6_readTie_1 frX6_15 cfX6 at41 rfl rfl hpt ?_
  refine y_geti (z := 2) dX6_readTie_4 frX6_148 cfX10 hTo.at rfl rfl ?_
  rw [hS.a.2.2.1]
  refine x_istore_n (i := 1) dX6_readTie_7 rfl rfl (Nat.le_of_ble_eq_true rfl) ?_
  refine x_iload_n (i := 1) dX6_readTie_8 rfl rfl ?_
  refine y_ic dX6_readTie_9 ⟨by decide, by decide⟩ ?_
  refine x_icmp_lt (tgt := 20) dX6_readTie_10 rfl (fun h10 => ?_) (fun h10 => ?_)
  · refine y_aln (i := 0) dX6_readTie_20 at41.ne0 rfl rfl ?_
    refine y_aln (i := 0) dX6_readTie_21 at41.ne0 rfl rfl ?_
    refine y_getp (z := 1) (v := t) dX6_readTie_22 frX6_15 cfX6 at41 rfl rfl hpt ?_
    refine y_geti (z := 1) dX6_readTie_25 frX6_51 cfX10 hTo.at rfl rfl ?_
    rw [hS.a.2.1]
    refine x_callVI (c_X6_isOneBelow hW hk (by omega) ha.b) dX6_readTie_28 lkX6_121 mfX6_isOneBelow cfX6 at41 rfl rfl rfl rfl (Nat.le_of_ble_eq_true rfl) (fun r28 I28 P28 hr28 hf28 => ?_)
    obtain ⟨rfl, f28, a28, q28⟩ := hf28
    have s28 := hS.fl hTo f28
    refine x_if_ne (tgt := 35) dX6_readTie_31 rfl (fun h31 => ?_) (fun h31 => ?_)
    · have y28 := q28.resolve_right (fun q => h31 q.1)
      have v28 := a28.2.2.2 y28.2.2.1
      have z28 := y28.2.2.2.2.trans h6
      refine y_aln (i := 0) dX6_readTie_35 at41.ne0 rfl rfl ?_
      refine y_getp (z := 1) (v := t) dX6_readTie_36 frX6_15 cfX6 at41 rfl rfl hpt ?_
      refine y_getp (z := 11) (v := (t + 8)) dX6_readTie_39 frX6_151 cfX10 hTo.at rfl rfl (p10_11 wT hTo) ?_
      refine x_iload_n (i := 1) dX6_readTie_42 rfl rfl ?_
      refine y_aln (i := 0) dX6_readTie_43 at41.ne0 rfl rfl ?_
      refine y_geti (z := 5) dX6_readTie_44 frX6_85 cfX6 at41 rfl rfl ?_
      rw [v28]
      refine x_iast dX6_readTie_47 (a10_11 hTo) ⟨by omega, by omega⟩ ?_
      have s48 := s28.tie (v := k 2 i) hTo (Or.inl rfl)
      have k48 := (hk.fl f28).t (i := S 0 5) (v := k 2 i) hTo (a := t + 8) ⟨by omega, by omega⟩
      refine y_aln (i := 0) dX6_readTie_48 at41.ne0 rfl rfl ?_
      refine y_aln (i := 0) dX6_readTie_49 at41.ne0 rfl rfl ?_
      refine y_getp (z := 1) (v := t) dX6_readTie_50 frX6_15 cfX6 at41 rfl rfl hpt ?_
      refine y_geti (z := 1) dX6_readTie_53 frX6_51 cfX10 hTo.at rfl rfl ?_
      rw [s48.a.2.1]
      refine x_callVI (c_X6_isOneBelow (i := i + 1) hW k48 (by omega) (by rw [r41 hTo ⟨by omega, by omega⟩]; exact a28.1)) dX6_readTie_56 lkX6_121 mfX6_isOneBelow cfX6 at41 rfl rfl rfl rfl (Nat.le_of_ble_eq_true rfl) (fun r56 I56 P56 hr56 hf56 => ?_)
      obtain ⟨rfl, f56, a56, q56⟩ := hf56
      rw [r41 hTo ⟨by omega, by omega⟩, z28] at q56
      have s56 := s48.fl hTo f56
      have u56 : I56 (t + 8) (S 0 5) = k 2 i := by rw [f56.1 (t + 8) (by omega), uI_eq, u1_eq]
      have g56 := (f28.fc.t (t := t) (a := t + 8) (i := S 0 5) (v := k 2 i) ⟨by omega, by omega⟩).tr f56.fc
      refine x_if_ne (tgt := 63) dX6_readTie_59 rfl (fun h59 => ?_) (fun h59 => ?_)
      · have y56 := q56.resolve_right (fun q => h59 q.1)
        have v56 := a56.2.2.2 y56.2.2.1
        have z56 := y56.2.2.2.2
        refine y_aln (i := 0) dX6_readTie_63 at41.ne0 rfl rfl ?_
        refine y_getp (z := 1) (v := t) dX6_readTie_64 frX6_15 cfX6 at41 rfl rfl hpt ?_
        refine y_getp (z := 12) (v := (t + 9)) dX6_readTie_67 frX6_154 cfX10 hTo.at rfl rfl (p10_12 wT hTo) ?_
        refine x_iload_n (i := 1) dX6_readTie_70 rfl rfl ?_
        refine y_aln (i := 0) dX6_readTie_71 at41.ne0 rfl rfl ?_
        refine y_geti (z := 5) dX6_readTie_72 frX6_85 cfX6 at41 rfl rfl ?_
        rw [v56]
        refine x_iast dX6_readTie_75 (a10_12 hTo) ⟨by omega, by omega⟩ ?_
        have s76 := s56.tie (v := k 2 (i + 1)) hTo (Or.inr (Or.inl rfl))
        have k76 := (k48.fl f56).t (i := S 0 5) (v := k 2 (i + 1)) hTo (a := t + 9) ⟨by omega, by omega⟩
        refine y_aln (i := 0) dX6_readTie_76 at41.ne0 rfl rfl ?_
        refine y_aln (i := 0) dX6_readTie_77 at41.ne0 rfl rfl ?_
        refine y_getp (z := 1) (v := t) dX6_readTie_78 frX6_15 cfX6 at41 rfl rfl hpt ?_
        refine y_geti (z := 1) dX6_readTie_81 frX6_51 cfX10 hTo.at rfl rfl ?_
        rw [s76.a.2.1]
        refine x_callVI (c_X6_isOneBelow (i := i + 2) hW k76 (by omega) (by rw [r41 hTo ⟨by omega, by omega⟩, a56.1, show i + 1 + 1 = i + 2 by omega])) dX6_readTie_84 lkX6_121 mfX6_isOneBelow cfX6 at41 rfl rfl rfl rfl (Nat.le_of_ble_eq_true rfl) (fun r84 I84 P84 hr84 hf84 => ?_)
        obtain ⟨rfl, f84, a84, q84⟩ := hf84
        rw [r41 hTo ⟨by omega, by omega⟩, z56] at q84
        have s84 := s76.fl hTo f84
        have u84 : I84 (t + 8) (S 0 5) = k 2 i := by rw [f84.1 (t + 8) (by omega), uI_ne (by omega)]; exact u56
        have w84 : I84 (t + 9) (S 0 5) = k 2 (i + 1) := by rw [f84.1 (t + 9) (by omega), uI_eq, u1_eq]
        have g84 := (g56.t (a := t + 9) (i := S 0 5) (v := k 2 (i + 1)) ⟨by omega, by omega⟩).tr f84.fc
        refine x_if_ne (tgt := 91) dX6_readTie_87 rfl (fun h87 => ?_) (fun h87 => ?_)
        · have y84 := q84.resolve_right (fun q => h87 q.1)
          have v84 := a84.2.2.2 y84.2.2.1
          have z84 := y84.2.2.2.2
          refine y_aln (i := 0) dX6_readTie_91 at41.ne0 rfl rfl ?_
          refine y_geti (z := 5) dX6_readTie_92 frX6_85 cfX6 at41 rfl rfl ?_
          rw [v84]
          refine y_aln (i := 0) dX6_readTie_95 at41.ne0 rfl rfl ?_
          refine y_getp (z := 1) (v := t) dX6_readTie_96 frX6_15 cfX6 at41 rfl rfl hpt ?_
          refine y_getp (z := 11) (v := (t + 8)) dX6_readTie_99 frX6_151 cfX10 hTo.at rfl rfl (p10_11 wT hTo) ?_
          refine x_iload_n (i := 1) dX6_readTie_102 rfl rfl ?_
          refine x_iald dX6_readTie_103 (a10_11 hTo) ⟨by omega, by omega⟩ ?_
          rw [u84]
          refine x_icmp_eq (tgt := 123) dX6_readTie_104 rfl (fun h104 => ?_) (fun h104 => ?_)
          · refine y_aln (i := 0) dX6_readTie_123 at41.ne0 rfl rfl ?_
            refine y_ic dX6_readTie_124 ⟨by decide, by decide⟩ ?_
            refine x_callVI (c_X6_refuse hW) dX6_readTie_125 lkX6_77 mfX6_refuse cfX6 at41 rfl rfl rfl rfl (Nat.le_of_ble_eq_true rfl) (fun r125 I125 P125 hr125 hf125 => ?_)
            obtain ⟨rfl, rfl, rfl⟩ := hf125
            refine x_pop dX6_readTie_128 rfl ?_
            refine x_vret dX6_readTie_129 rfl ?_
            refine ⟨rfl, rfl, g84.r, ?_⟩
            unfold tieR
            rw [ckR_0 (if_neg (by omega)), ckR_0 y28.2.1, ckR_0 y56.2.1, ckR_0 y84.2.1]
            exact RSC.n2 (v := 4) (if_pos (by omega)) (by decide) (by rw [uI_eq, u1_eq]) (by rw [uI_eq, u1_ne (by decide)]; exact a84.2.1)
          · refine y_aln (i := 0) dX6_readTie_107 at41.ne0 rfl rfl ?_
            refine y_geti (z := 5) dX6_readTie_108 frX6_85 cfX6 at41 rfl rfl ?_
            rw [v84]
            refine y_aln (i := 0) dX6_readTie_111 at41.ne0 rfl rfl ?_
            refine y_getp (z := 1) (v := t) dX6_readTie_112 frX6_15 cfX6 at41 rfl rfl hpt ?_
            refine y_getp (z := 12) (v := (t + 9)) dX6_readTie_115 frX6_154 cfX10 hTo.at rfl rfl (p10_12 wT hTo) ?_
            refine x_iload_n (i := 1) dX6_readTie_118 rfl rfl ?_
            refine x_iald dX6_readTie_119 (a10_12 hTo) ⟨by omega, by omega⟩ ?_
            rw [w84]
            refine x_icmp_ne (tgt := 130) dX6_readTie_120 rfl (fun h120 => ?_) (fun h120 => ?_)
            · refine y_aln (i := 0) dX6_readTie_130 at41.ne0 rfl rfl ?_
              refine y_getp (z := 1) (v := t) dX6_readTie_131 frX6_15 cfX6 at41 rfl rfl hpt ?_
              refine y_getp (z := 13) (v := (t + 10)) dX6_readTie_134 frX6_157 cfX10 hTo.at rfl rfl (p10_13 wT hTo) ?_
              refine x_iload_n (i := 1) dX6_readTie_137 rfl rfl ?_
              refine y_aln (i := 0) dX6_readTie_138 at41.ne0 rfl rfl ?_
              refine y_geti (z := 5) dX6_readTie_139 frX6_85 cfX6 at41 rfl rfl ?_
              rw [v84]
              refine x_iast dX6_readTie_142 (a10_13 hTo) ⟨by omega, by omega⟩ ?_
              have s143 := s84.tie (v := k 2 (i + 2)) hTo (Or.inr (Or.inr rfl))
              refine y_aln (i := 0) dX6_readTie_143 at41.ne0 rfl rfl ?_
              refine y_getp (z := 1) (v := t) dX6_readTie_144 frX6_15 cfX6 at41 rfl rfl hpt ?_
              refine x_dup dX6_readTie_147 rfl ?_
              refine y_geti (z := 2) dX6_readTie_148 frX6_148 cfX10 hTo.at rfl rfl ?_
              rw [s143.a.2.2.1]
              refine y_ic dX6_readTie_151 ⟨by decide, by decide⟩ ?_
              refine x_iadd dX6_readTie_152 ⟨by omega, by omega⟩ ?_
              refine y_puti (z := 2) dX6_readTie_153 frX6_148 cfX10 hTo.at rfl rfl rfl ?_
              have s156 := s143.tieF hTo (by omega) (u := k 2 i) (v := k 2 (i + 1)) (w := k 2 (i + 2)) (by rw [uI_ne (by omega)]; exact u84) (by rw [uI_ne (by omega)]; exact w84) (by rw [uI_eq, u1_eq])
              refine y_aln (i := 0) dX6_readTie_156 at41.ne0 rfl rfl ?_
              refine x_callVI (c_X6_isSign (i := i + 3) hW (((k76.fl f84).t hTo ⟨by omega, by omega⟩).t hTo ⟨by omega, by omega⟩) (by omega) (by rw [r41 hTo ⟨by omega, by omega⟩, r41 hTo ⟨by omega, by omega⟩, a84.1, show i + 2 + 1 = i + 3 by omega])) dX6_readTie_157 lkX6_88 mfX6_isSign cfX6 at41 rfl rfl rfl rfl (Nat.le_of_ble_eq_true rfl) (fun r157 I157 P157 hr157 hf157 => ?_)
              obtain ⟨rfl, f157, a157, q157⟩ := hf157
              rw [r41 hTo ⟨by omega, by omega⟩, r41 hTo ⟨by omega, by omega⟩, z84] at q157
              refine x_pop dX6_readTie_160 rfl ?_
              refine x_vret dX6_readTie_161 rfl ?_
              refine ⟨rfl, rfl, ((g84.t ⟨by omega, by omega⟩).t ⟨by omega, by omega⟩).tr f157.fc, ?_⟩
              unfold tieR
              rw [ckR_0 (if_neg (by omega)), ckR_0 y28.2.1, ckR_0 y56.2.1, ckR_0 y84.2.1, ckR_0 (if_neg (by omega))]
              exact RSC.sgn (r := r157) a157 (by omega) (s156.fl hTo f157) q157
            · refine y_aln (i := 0) dX6_readTie_123 at41.ne0 rfl rfl ?_
              refine y_ic dX6_readTie_124 ⟨by decide, by decide⟩ ?_
              refine x_callVI (c_X6_refuse hW) dX6_readTie_125 lkX6_77 mfX6_refuse cfX6 at41 rfl rfl rfl rfl (Nat.le_of_ble_eq_true rfl) (fun r125 I125 P125 hr125 hf125 => ?_)
              obtain ⟨rfl, rfl, rfl⟩ := hf125
              refine x_pop dX6_readTie_128 rfl ?_
              refine x_vret dX6_readTie_129 rfl ?_
              refine ⟨rfl, rfl, g84.r, ?_⟩
              unfold tieR
              rw [ckR_0 (if_neg (by omega)), ckR_0 y28.2.1, ckR_0 y56.2.1, ckR_0 y84.2.1]
              exact RSC.n2 (v := 4) (if_pos (by omega)) (by decide) (by rw [uI_eq, u1_eq]) (by rw [uI_eq, u1_ne (by decide)]; exact a84.2.1)
        · have n84 := q84.resolve_left (fun q => by have := q.1; omega)
          refine x_vret dX6_readTie_90 rfl ?_
          refine ⟨rfl, rfl, g84, ?_⟩
          unfold tieR
          rw [ckR_0 (if_neg (by omega)), ckR_0 y28.2.1, ckR_0 y56.2.1]
          exact RSC.no n84.2.1 n84.2.2 a84.2.1
      · have n56 := q56.resolve_left (fun q => by have := q.1; omega)
        refine x_vret dX6_readTie_62 rfl ?_
        refine ⟨rfl, rfl, g56, ?_⟩
        unfold tieR
        rw [ckR_0 (if_neg (by omega)), ckR_0 y28.2.1]
        exact RSC.no n56.2.1 n56.2.2 a56.2.1
    · have n28 := q28.resolve_left (fun q => by have := q.1; omega)
      refine x_vret dX6_readTie_34 rfl ?_
      refine ⟨rfl, rfl, f28.fc, ?_⟩
      unfold tieR
      rw [ckR_0 (if_neg (by omega))]
      exact RSC.no n28.2.1 n28.2.2 a28.2.1
  · refine y_aln (i := 0) dX6_readTie_13 at41.ne0 rfl rfl ?_
    refine y_ic dX6_readTie_14 ⟨by decide, by decide⟩ ?_
    refine x_callVI (c_X6_refuse hW) dX6_readTie_15 lkX6_77 mfX6_refuse cfX6 at41 rfl rfl rfl rfl (Nat.le_of_ble_eq_true rfl) (fun r15 I15 P15 hr15 hf15 => ?_)
    obtain ⟨rfl, rfl, rfl⟩ := hf15
    refine x_pop dX6_readTie_18 rfl ?_
    refine x_vret dX6_readTie_19 rfl ?_
    refine ⟨rfl, rfl, Fc.rf.r, ?_⟩
    unfold tieR
    exact RSC.n2 (v := 2) (if_pos (by omega)) (by decide) (by rw [uI_eq, u1_eq]) (by rw [uI_eq, u1_ne (by decide)]; exact ha.2.1)
theorem c_X6_readMeeting (hW : WP P) (hTo : isT NO t) (hpt : P 41 1 = t) (hk : TKC I k m) (hi : 1 ≤ i) (ha : ATK I k m (i - 1)) (h6 : I 41 6 = 0) (hS : CR I t S 0) : Cv G mX6_readMeeting (d + 2) 0 0 [.inr (.inl 41)] NO I P (qV (fun n' I' P' => n' = NO ∧ P' = P ∧ Fc (sR t) I I' ∧ RSC I' t k m (meetR k i S))) := by
  have wT := wp_T hW hTo
  have ht1 := hTo.1
  have hsb := hS.sb.2.2.2.1
  refine x_enter mfX6_readMeeting rfl (Nat.le_of_ble_eq_true rfl) (fun _ => ?_)
  refine y_aln (i := 0) dX6_readMeeting_0 at41.ne0 rfl rfl ?_
  refine y_getp (z := 1) (v := t) dX6_readMeeting_1 frX6_15 cfX6 at41 rfl rfl hpt ?_
  refine y_geti (z := 3) dX6_readMeeting_4 frX6_160 cfX10 hTo.at rfl rfl ?_
  rw [hS.a.2.2.2]
  refine x_istore_n (i := 1) dX6_readMeeting_7 rfl rfl (Nat.le_of_ble_eq_true rfl) ?_
  refine x_iload_n (i := 1) dX6_readMeeting_8 rfl rfl ?_
  refine y_bi dX6_readMeeting_9 ⟨by decide, by decide⟩ ?_
  refine x_icmp_lt (tgt := 21) dX6_readMeeting_11 rfl (fun h11 => ?_) (fun h11 => ?_)
  · refine y_aln (i := 0) dX6_readMeeting_21 at41.ne0 rfl rfl ?_
    refine y_aln (i := 0) dX6_readMeeting_22 at41.ne0 rfl rfl ?_
    refine y_getp (z := 1) (v := t) dX6_readMeeting_23 frX6_15 cfX6 at41 rfl rfl hpt ?_
    refine y_geti (z := 0) dX6_readMeeting_26 frX6_92 cfX10 hTo.at rfl rfl ?_
    rw [hS.a.1, Int.add_zero]
    refine x_callVI (c_X6_isOneBelow hW hk (by omega) ha.b) dX6_readMeeting_29 lkX6_121 mfX6_isOneBelow cfX6 at41 rfl rfl rfl rfl (Nat.le_of_ble_eq_true rfl) (fun r29 I29 P29 hr29 hf29 => ?_)
    obtain ⟨rfl, f28, a28, q28⟩ := hf29
    have s28 := hS.fl hTo f28
    refine x_if_ne (tgt := 36) dX6_readMeeting_32 rfl (fun h32 => ?_) (fun h32 => ?_)
    · have y28 := q28.resolve_right (fun q => h32 q.1)
      have v28 := a28.2.2.2 y28.2.2.1
      have z28 := y28.2.2.2.2.trans h6
      refine y_aln (i := 0) dX6_readMeeting_36 at41.ne0 rfl rfl ?_
      refine y_getp (z := 1) (v := t) dX6_readMeeting_37 frX6_15 cfX6 at41 rfl rfl hpt ?_
      refine y_getp (z := 14) (v := (t + 11)) dX6_readMeeting_40 frX6_163 cfX10 hTo.at rfl rfl (p10_14 wT hTo) ?_
      refine x_iload_n (i := 1) dX6_readMeeting_43 rfl rfl ?_
      refine y_aln (i := 0) dX6_readMeeting_44 at41.ne0 rfl rfl ?_
      refine y_geti (z := 5) dX6_readMeeting_45 frX6_85 cfX6 at41 rfl rfl ?_
      rw [v28]
      refine x_iast dX6_readMeeting_48 (a10_14 hTo) ⟨by omega, by omega⟩ ?_
      have s48 := s28.meet (v := k 2 i) hTo (Or.inl rfl)
      have k48 := (hk.fl f28).t (i := S 0 6) (v := k 2 i) hTo (a := t + 11) ⟨by omega, by omega⟩
      refine y_aln (i := 0) dX6_readMeeting_49 at41.ne0 rfl rfl ?_
      refine y_aln (i := 0) dX6_readMeeting_50 at41.ne0 rfl rfl ?_
      refine y_getp (z := 1) (v := t) dX6_readMeeting_51 frX6_15 cfX6 at41 rfl rfl hpt ?_
      refine y_geti (z := 0) dX6_readMeeting_54 frX6_92 cfX10 hTo.at rfl rfl ?_
      rw [s48.a.1, Int.add_zero]
      refine x_callVI (c_X6_isOneBelow (i := i + 1) hW k48 (by omega) (by rw [r41 hTo ⟨by omega, by omega⟩]; exact a28.1)) dX6_readMeeting_57 lkX6_121 mfX6_isOneBelow cfX6 at41 rfl rfl rfl rfl (Nat.le_of_ble_eq_true rfl) (fun r57 I57 P57 hr57 hf57 => ?_)
      obtain ⟨rfl, f56, a56, q56⟩ := hf57
      rw [r41 hTo ⟨by omega, by omega⟩, z28] at q56
      have s56 := s48.fl hTo f56
      have u56 : I57 (t + 11) (S 0 6) = k 2 i := by rw [f56.1 (t + 11) (by omega), uI_eq, u1_eq]
      have g56 := (f28.fc.t (t := t) (a := t + 11) (i := S 0 6) (v := k 2 i) ⟨by omega, by omega⟩).tr f56.fc
      refine x_if_ne (tgt := 64) dX6_readMeeting_60 rfl (fun h60 => ?_) (fun h60 => ?_)
      · have y56 := q56.resolve_right (fun q => h60 q.1)
        have v56 := a56.2.2.2 y56.2.2.1
        have z56 := y56.2.2.2.2
        refine y_aln (i := 0) dX6_readMeeting_64 at41.ne0 rfl rfl ?_
        refine y_geti (z := 5) dX6_readMeeting_65 frX6_85 cfX6 at41 rfl rfl ?_
        rw [v56]
        refine y_aln (i := 0) dX6_readMeeting_68 at41.ne0 rfl rfl ?_
        refine y_getp (z := 1) (v := t) dX6_readMeeting_69 frX6_15 cfX6 at41 rfl rfl hpt ?_
        refine y_getp (z := 14) (v := (t + 11)) dX6_readMeeting_72 frX6_163 cfX10 hTo.at rfl rfl (p10_14 wT hTo) ?_
        refine x_iload_n (i := 1) dX6_readMeeting_75 rfl rfl ?_
        refine x_iald dX6_readMeeting_76 (a10_14 hTo) ⟨by omega, by omega⟩ ?_
        rw [u56]
        refine x_icmp_ne (tgt := 87) dX6_readMeeting_77 rfl (fun h77 => ?_) (fun h77 => ?_)
        · refine y_aln (i := 0) dX6_readMeeting_87 at41.ne0 rfl rfl ?_
          refine y_getp (z := 1) (v := t) dX6_readMeeting_88 frX6_15 cfX6 at41 rfl rfl hpt ?_
          refine y_getp (z := 15) (v := (t + 12)) dX6_readMeeting_91 frX6_166 cfX10 hTo.at rfl rfl (p10_15 wT hTo) ?_
          refine x_iload_n (i := 1) dX6_readMeeting_94 rfl rfl ?_
          refine y_aln (i := 0) dX6_readMeeting_95 at41.ne0 rfl rfl ?_
          refine y_geti (z := 5) dX6_readMeeting_96 frX6_85 cfX6 at41 rfl rfl ?_
          rw [v56]
          refine x_iast dX6_readMeeting_99 (a10_15 hTo) ⟨by omega, by omega⟩ ?_
          have s100 := s56.meet (v := k 2 (i + 1)) hTo (Or.inr rfl)
          refine y_aln (i := 0) dX6_readMeeting_100 at41.ne0 rfl rfl ?_
          refine y_getp (z := 1) (v := t) dX6_readMeeting_101 frX6_15 cfX6 at41 rfl rfl hpt ?_
          refine x_dup dX6_readMeeting_104 rfl ?_
          refine y_geti (z := 3) dX6_readMeeting_105 frX6_160 cfX10 hTo.at rfl rfl ?_
          rw [s100.a.2.2.2]
          refine y_ic dX6_readMeeting_108 ⟨by decide, by decide⟩ ?_
          refine x_iadd dX6_readMeeting_109 ⟨by omega, by omega⟩ ?_
          refine y_puti (z := 3) dX6_readMeeting_110 frX6_160 cfX10 hTo.at rfl rfl rfl ?_
          have s113 := s100.meetF hTo (by omega) (u := k 2 i) (v := k 2 (i + 1)) (by rw [uI_ne (by omega)]; exact u56) (by rw [uI_eq, u1_eq])
          refine y_aln (i := 0) dX6_readMeeting_113 at41.ne0 rfl rfl ?_
          refine x_callVI (c_X6_isSign (i := i + 2) hW (((k48.fl f56).t hTo ⟨by omega, by omega⟩).t hTo ⟨by omega, by omega⟩) (by omega) (by rw [r41 hTo ⟨by omega, by omega⟩, r41 hTo ⟨by omega, by omega⟩, a56.1, show i + 1 + 1 = i + 2 by omega])) dX6_readMeeting_114 lkX6_88 mfX6_isSign cfX6 at41 rfl rfl rfl rfl (Nat.le_of_ble_eq_true rfl) (fun r114 I114 P114 hr114 hf114 => ?_)
          obtain ⟨rfl, f114, a114, q114⟩ := hf114
          rw [r41 hTo ⟨by omega, by omega⟩, r41 hTo ⟨by omega, by omega⟩, z56] at q114
          refine x_pop dX6_readMeeting_117 rfl ?_
          refine x_vret dX6_readMeeting_118 rfl ?_
          refine ⟨rfl, rfl, ((g56.t ⟨by omega, by omega⟩).t ⟨by omega, by omega⟩).tr f114.fc, ?_⟩
          unfold meetR
          rw [ckR_0 (if_neg (by omega)), ckR_0 y28.2.1, ckR_0 y56.2.1, ckR_0 (if_neg (by omega))]
          exact RSC.sgn (r := r114) a114 (by omega) (s113.fl hTo f114) q114
        · refine y_aln (i := 0) dX6_readMeeting_80 at41.ne0 rfl rfl ?_
          refine y_ic dX6_readMeeting_81 ⟨by decide, by decide⟩ ?_
          refine x_callVI (c_X6_refuse hW) dX6_readMeeting_82 lkX6_77 mfX6_refuse cfX6 at41 rfl rfl rfl rfl (Nat.le_of_ble_eq_true rfl) (fun r82 I82 P82 hr82 hf82 => ?_)
          obtain ⟨rfl, rfl, rfl⟩ := hf82
          refine x_pop dX6_readMeeting_85 rfl ?_
          refine x_vret dX6_readMeeting_86 rfl ?_
          refine ⟨rfl, rfl, g56.r, ?_⟩
          unfold meetR
          rw [ckR_0 (if_neg (by omega)), ckR_0 y28.2.1, ckR_0 y56.2.1]
          exact RSC.n2 (v := 4) (if_pos (by omega)) (by decide) (by rw [uI_eq, u1_eq]) (by rw [uI_eq, u1_ne (by decide)]; exact a56.2.1)
      · have n56 := q56.resolve_left (fun q => by have := q.1; omega)
        refine x_vret dX6_readMeeting_63 rfl ?_
        refine ⟨rfl, rfl, g56, ?_⟩
        unfold meetR
        rw [ckR_0 (if_neg (by omega)), ckR_0 y28.2.1]
        exact RSC.no n56.2.1 n56.2.2 a56.2.1
    · have n28 := q28.resolve_left (fun q => by have := q.1; omega)
      refine x_vret dX6_readMeeting_35 rfl ?_
      refine ⟨rfl, rfl, f28.fc, ?_⟩
      unfold meetR
      rw [ckR_0 (if_neg (by omega))]
      exact RSC.no n28.2.1 n28.2.2 a28.2.1
  · refine y_aln (i := 0) dX6_readMeeting_14 at41.ne0 rfl rfl ?_
    refine y_ic dX6_readMeeting_15 ⟨by decide, by decide⟩ ?_
    refine x_callVI (c_X6_refuse hW) dX6_readMeeting_16 lkX6_77 mfX6_refuse cfX6 at41 rfl rfl rfl rfl (Nat.le_of_ble_eq_true rfl) (fun r16 I16 P16 hr16 hf16 => ?_)
    obtain ⟨rfl, rfl, rfl⟩ := hf16
    refine x_pop dX6_readMeeting_19 rfl ?_
    refine x_vret dX6_readMeeting_20 rfl ?_
    refine ⟨rfl, rfl, Fc.rf.r, ?_⟩
    unfold meetR
    exact RSC.n2 (v := 2) (if_pos (by omega)) (by decide) (by rw [uI_eq, u1_eq]) (by rw [uI_eq, u1_ne (by decide)]; exact ha.2.1)
theorem c_X6_readLaw (hW : WP P) (hTo : isT NO t) (hpt : P 41 1 = t) (hk : TKC I k m) (hi : 1 ≤ i) (ha : ATK I k m (i - 1)) (h6 : I 41 6 = 0) (hS : CR I t S 0) : Cv G mX6_readLaw (d + 2) 0 0 [.inr (.inl 41)] NO I P (qV (fun n' I' P' => n' = NO ∧ P' = P ∧ Fc (sR t) I I' ∧ RSC I' t k m (lawR k i S))) := by
  have wT := wp_T hW hTo
  have ht1 := hTo.1
  refine x_enter mfX6_readLaw rfl (Nat.le_of_ble_eq_true rfl) (fun _ => ?_)
  have tail : ∀ (K : Mem) (j : Int) (S1 : Tn), lawR k i S = burR k j S1 → 0 ≤ j → Fc (sR t) I K → TKC K k m → ATK K k m j → K 41 6 = 0 → CR K t S1 0 → V G mX6_readLaw (d + 2) 0 0 89 [some (.inr (.inl 41))] [] NO K P (qV (fun n' I' P' => n' = NO ∧ P' = P ∧ Fc (sR t) I I' ∧ RSC I' t k m (lawR k i S))) := fun K j S1 e1 j0 fK kK aK zK sK => by
    refine y_aln (i := 0) dX6_readLaw_89 at41.ne0 rfl rfl ?_
    refine y_geti (z := 4) dX6_readLaw_90 frX6_44 cfX6 at41 rfl rfl ?_
    rw [aK.2.2.1]
    refine y_bi dX6_readLaw_93 ⟨by decide, by decide⟩ ?_
    refine x_icmp_ne (tgt := 113) dX6_readLaw_95 rfl (fun h95 => ?_) (fun h95 => ?_)
    · have n95 := h95
      refine y_aln (i := 0) dX6_readLaw_113 at41.ne0 rfl rfl ?_
      refine y_geti (z := 4) dX6_readLaw_114 frX6_44 cfX6 at41 rfl rfl ?_
      first | (have z1 := n95; rw [aK.2.2.1]) | (have z1 := y95; rw [a110.2.2.1]) | fail "none"
      refine y_ic dX6_readLaw_117 ⟨by decide, by decide⟩ ?_
      refine x_icmp_eq (tgt := 127) dX6_readLaw_118 rfl (fun h118 => ?_) (fun h118 => ?_)
      · have y118 := h118
        refine x_vret dX6_readLaw_127 rfl ?_
        first | (have z1 := s110; have z2 := y118; refine ⟨rfl, rfl, g110, ?_⟩; rw [e1]; unfold burR; rw [if_pos y95]; exact RSC.sgn (r := 1) a110 (by omega) s110 (Or.inl ⟨rfl, h118, z110⟩)) | (have z1 := s110; have z2 := n118; refine ⟨rfl, rfl, g110.r, ?_⟩; rw [e1]; unfold burR; rw [if_pos y95]; exact RSC.sgn (r := 0) a110.w (by omega) (s110.fl hTo (FL.rf.ui (by decide))) (Or.inr ⟨rfl, h118, by rw [uI_eq, u1_eq]⟩)) | (have z1 := n95; have z2 := y118; refine ⟨rfl, rfl, fK, ?_⟩; rw [e1]; unfold burR; rw [if_neg n95]; exact RSC.sgn (r := 1) aK (by omega) sK (Or.inl ⟨rfl, h118, zK⟩)) | (have z1 := n95; have z2 := n118; refine ⟨rfl, rfl, fK.r, ?_⟩; rw [e1]; unfold burR; rw [if_neg n95]; exact RSC.sgn (r := 0) aK.w (by omega) (sK.fl hTo (FL.rf.ui (by decide))) (Or.inr ⟨rfl, h118, by rw [uI_eq, u1_eq]⟩)) | fail "none"
      · have n118 := h118
        refine y_aln (i := 0) dX6_readLaw_121 at41.ne0 rfl rfl ?_
        refine y_ic dX6_readLaw_122 ⟨by decide, by decide⟩ ?_
        refine x_callVI (c_X6_refuse hW) dX6_readLaw_123 lkX6_77 mfX6_refuse cfX6 at41 rfl rfl rfl rfl (Nat.le_of_ble_eq_true rfl) (fun r123 I123 P123 hr123 hf123 => ?_)
        obtain ⟨rfl, rfl, rfl⟩ := hf123
        refine x_pop dX6_readLaw_126 rfl ?_
        refine x_vret dX6_readLaw_127 rfl ?_
        first | (have z1 := s110; have z2 := y118; refine ⟨rfl, rfl, g110, ?_⟩; rw [e1]; unfold burR; rw [if_pos y95]; exact RSC.sgn (r := 1) a110 (by omega) s110 (Or.inl ⟨rfl, h118, z110⟩)) | (have z1 := s110; have z2 := n118; refine ⟨rfl, rfl, g110.r, ?_⟩; rw [e1]; unfold burR; rw [if_pos y95]; exact RSC.sgn (r := 0) a110.w (by omega) (s110.fl hTo (FL.rf.ui (by decide))) (Or.inr ⟨rfl, h118, by rw [uI_eq, u1_eq]⟩)) | (have z1 := n95; have z2 := y118; refine ⟨rfl, rfl, fK, ?_⟩; rw [e1]; unfold burR; rw [if_neg n95]; exact RSC.sgn (r := 1) aK (by omega) sK (Or.inl ⟨rfl, h118, zK⟩)) | (have z1 := n95; have z2 := n118; refine ⟨rfl, rfl, fK.r, ?_⟩; rw [e1]; unfold burR; rw [if_neg n95]; exact RSC.sgn (r := 0) aK.w (by omega) (sK.fl hTo (FL.rf.ui (by decide))) (Or.inr ⟨rfl, h118, by rw [uI_eq, u1_eq]⟩)) | fail "none"
    · have y95 := h95
      refine y_aln (i := 0) dX6_readLaw_98 at41.ne0 rfl rfl ?_
      refine y_getp (z := 1) (v := t) dX6_readLaw_99 frX6_15 cfX6 at41 rfl rfl hpt ?_
      refine y_getp (z := 16) (v := (t + 13)) dX6_readLaw_102 frX6_47 cfX10 hTo.at rfl rfl (p10_16 wT hTo) ?_
      refine y_ic dX6_readLaw_105 ⟨by decide, by decide⟩ ?_
      refine y_putz (z := 2) dX6_readLaw_106 frX6_145 cfX2 (a10_16 hTo) rfl rfl rfl (by omega) ?_
      have s109 := sK.burn hTo
      refine y_aln (i := 0) dX6_readLaw_109 at41.ne0 rfl rfl ?_
      refine x_callVV (c_X6_advance (i := j + 1) hW (kK.t hTo ⟨by omega, by omega⟩) (by omega) (by rw [r41 hTo ⟨by omega, by omega⟩]; exact aK.1)) dX6_readLaw_110 lkX6_41 mfX6_advance cfX6 at41 rfl rfl rfl rfl (Nat.le_of_ble_eq_true rfl) (fun n110 I110 P110 hf110 => ?_)
      obtain ⟨rfl, rfl, f110, a110⟩ := hf110
      have g110 := (fK.t (a := t + 13) (i := 2) (v := 1) ⟨by omega, by omega⟩).tr (f110.fc (t := t))
      have s110 := s109.fl hTo (f110.mo (by decide))
      have z110 : I110 41 6 = 0 := by rw [f110.2 6 (by decide), r41 hTo ⟨by omega, by omega⟩]; exact zK
      refine y_aln (i := 0) dX6_readLaw_113 at41.ne0 rfl rfl ?_
      refine y_geti (z := 4) dX6_readLaw_114 frX6_44 cfX6 at41 rfl rfl ?_
      first | (have z1 := n95; rw [aK.2.2.1]) | (have z1 := y95; rw [a110.2.2.1]) | fail "none"
      refine y_ic dX6_readLaw_117 ⟨by decide, by decide⟩ ?_
      refine x_icmp_eq (tgt := 127) dX6_readLaw_118 rfl (fun h118 => ?_) (fun h118 => ?_)
      · have y118 := h118
        refine x_vret dX6_readLaw_127 rfl ?_
        first | (have z1 := s110; have z2 := y118; refine ⟨rfl, rfl, g110, ?_⟩; rw [e1]; unfold burR; rw [if_pos y95]; exact RSC.sgn (r := 1) a110 (by omega) s110 (Or.inl ⟨rfl, h118, z110⟩)) | (have z1 := s110; have z2 := n118; refine ⟨rfl, rfl, g110.r, ?_⟩; rw [e1]; unfold burR; rw [if_pos y95]; exact RSC.sgn (r := 0) a110.w (by omega) (s110.fl hTo (FL.rf.ui (by decide))) (Or.inr ⟨rfl, h118, by rw [uI_eq, u1_eq]⟩)) | (have z1 := n95; have z2 := y118; refine ⟨rfl, rfl, fK, ?_⟩; rw [e1]; unfold burR; rw [if_neg n95]; exact RSC.sgn (r := 1) aK (by omega) sK (Or.inl ⟨rfl, h118, zK⟩)) | (have z1 := n95; have z2 := n118; refine ⟨rfl, rfl, fK.r, ?_⟩; rw [e1]; unfold burR; rw [if_neg n95]; exact RSC.sgn (r := 0) aK.w (by omega) (sK.fl hTo (FL.rf.ui (by decide))) (Or.inr ⟨rfl, h118, by rw [uI_eq, u1_eq]⟩)) | fail "none"
      · have n118 := h118
        refine y_aln (i := 0) dX6_readLaw_121 at41.ne0 rfl rfl ?_
        refine y_ic dX6_readLaw_122 ⟨by decide, by decide⟩ ?_
        refine x_callVI (c_X6_refuse hW) dX6_readLaw_123 lkX6_77 mfX6_refuse cfX6 at41 rfl rfl rfl rfl (Nat.le_of_ble_eq_true rfl) (fun r123 I123 P123 hr123 hf123 => ?_)
        obtain ⟨rfl, rfl, rfl⟩ := hf123
        refine x_pop dX6_readLaw_126 rfl ?_
        refine x_vret dX6_readLaw_127 rfl ?_
        first | (have z1 := s110; have z2 := y118; refine ⟨rfl, rfl, g110, ?_⟩; rw [e1]; unfold burR; rw [if_pos y95]; exact RSC.sgn (r := 1) a110 (by omega) s110 (Or.inl ⟨rfl, h118, z110⟩)) | (have z1 := s110; have z2 := n118; refine ⟨rfl, rfl, g110.r, ?_⟩; rw [e1]; unfold burR; rw [if_pos y95]; exact RSC.sgn (r := 0) a110.w (by omega) (s110.fl hTo (FL.rf.ui (by decide))) (Or.inr ⟨rfl, h118, by rw [uI_eq, u1_eq]⟩)) | (have z1 := n95; have z2 := y118; refine ⟨rfl, rfl, fK, ?_⟩; rw [e1]; unfold burR; rw [if_neg n95]; exact RSC.sgn (r := 1) aK (by omega) sK (Or.inl ⟨rfl, h118, zK⟩)) | (have z1 := n95; have z2 := n118; refine ⟨rfl, rfl, fK.r, ?_⟩; rw [e1]; unfold burR; rw [if_neg n95]; exact RSC.sgn (r := 0) aK.w (by omega) (sK.fl hTo (FL.rf.ui (by decide))) (Or.inr ⟨rfl, h118, by rw [uI_eq, u1_eq]⟩)) | fail "none"
  refine y_aln (i := 0) dX6_readLaw_0 at41.ne0 rfl rfl ?_
  refine y_geti (z := 7) dX6_readLaw_1 frX6_37 cfX6 at41 rfl rfl ?_
  rw [hS.b.2.2.2]
  refine x_if_eq (tgt := 14) dX6_readLaw_4 rfl (fun h4 => ?_) (fun h4 => ?_)
  · refine y_aln (i := 0) dX6_readLaw_14 at41.ne0 rfl rfl ?_
    refine y_ic dX6_readLaw_15 ⟨by decide, by decide⟩ ?_
    refine y_putz (z := 7) dX6_readLaw_16 frX6_37 cfX6 at41 rfl rfl rfl (by omega) ?_
    have s19 := hS.told hTo
    refine y_aln (i := 0) dX6_readLaw_19 at41.ne0 rfl rfl ?_
    refine y_ic dX6_readLaw_20 ⟨by decide, by decide⟩ ?_
    refine y_ic dX6_readLaw_21 ⟨by decide, by decide⟩ ?_
    refine x_callVI (c_X6_isNumber (i := i) hW hk.r (by omega) (by rw [uI_eq, u1_ne (by decide)]; exact ha.b)) dX6_readLaw_22 lkX6_81 mfX6_isNumber cfX6 at41 rfl rfl rfl rfl (Nat.le_of_ble_eq_true rfl) (fun r22 I22 P22 hr22 hf22 => ?_)
    obtain ⟨rfl, f22, a22, q22⟩ := hf22
    have s22 := s19.fl hTo f22
    have g22 := (Fc.rf.r (I := I) (t := t) (i := 7) (v := 1)).tr f22.fc
    refine x_if_ne (tgt := 29) dX6_readLaw_25 rfl (fun h25 => ?_) (fun h25 => ?_)
    · have y22 := q22.resolve_right (fun q => h25 q.1)
      have v22 := a22.2.2.2 y22.2.2.1
      have z22 : I22 41 6 = 0 := by rw [y22.2.2.2.2, uI_eq, u1_ne (by decide)]; exact h6
      refine y_aln (i := 0) dX6_readLaw_29 at41.ne0 rfl rfl ?_
      refine y_getp (z := 1) (v := t) dX6_readLaw_30 frX6_15 cfX6 at41 rfl rfl hpt ?_
      refine y_getp (z := 16) (v := (t + 13)) dX6_readLaw_33 frX6_47 cfX10 hTo.at rfl rfl (p10_16 wT hTo) ?_
      refine y_aln (i := 0) dX6_readLaw_36 at41.ne0 rfl rfl ?_
      refine y_geti (z := 5) dX6_readLaw_37 frX6_85 cfX6 at41 rfl rfl ?_
      rw [v22]
      refine y_puti (z := 0) dX6_readLaw_40 frX6_139 cfX2 (a10_16 hTo) rfl rfl rfl ?_
      have s43 := s22.give (v := k 2 i) hTo
      have k43 := (hk.r.fl f22).t (i := 0) (v := k 2 i) hTo (a := t + 13) ⟨by omega, by omega⟩
      refine y_aln (i := 0) dX6_readLaw_43 at41.ne0 rfl rfl ?_
      refine x_callVV (c_X6_advance (i := i + 1) hW k43 (by omega) (by rw [r41 hTo ⟨by omega, by omega⟩]; exact a22.1)) dX6_readLaw_44 lkX6_41 mfX6_advance cfX6 at41 rfl rfl rfl rfl (Nat.le_of_ble_eq_true rfl) (fun n44 I44 P44 hf44 => ?_)
      obtain ⟨rfl, rfl, f44, a44⟩ := hf44
      have s44 := s43.fl hTo (f44.mo (by decide))
      have z44 : I44 41 6 = 0 := by rw [f44.2 6 (by decide), r41 hTo ⟨by omega, by omega⟩]; exact z22
      have g44 := (g22.t (a := t + 13) (i := 0) (v := k 2 i) ⟨by omega, by omega⟩).tr (f44.fc (t := t))
      have e44 : lawR k i S = spoR k (i + 1) (uI (uI S 11 0 1) 0 3 (k 2 i)) := by unfold lawR; rw [ckR_0 (if_pos h4), ckR_0 y22.2.1]
      refine y_aln (i := 0) dX6_readLaw_47 at41.ne0 rfl rfl ?_
      refine y_geti (z := 4) dX6_readLaw_48 frX6_44 cfX6 at41 rfl rfl ?_
      rw [a44.2.2.1]
      refine y_bi dX6_readLaw_51 ⟨by decide, by decide⟩ ?_
      refine x_icmp_ne (tgt := 89) dX6_readLaw_53 rfl (fun h53 => ?_) (fun h53 => ?_)
      · have n53 := h53
        refine x_keep [1] ?_
        first | (have z1 := n53; exact tail I44 (i + 1) _ (by rw [e44]; unfold spoR; rw [if_neg n53]) (by omega) g44 (k43.fl f44) a44 z44 s44) | (have z1 := y53; exact tail I86 (i + 1 + 2) _ e86 (by omega) g86 (k85.fl f86) a86 z86 s86) | fail "none"
      · have y53 := h53
        refine y_aln (i := 0) dX6_readLaw_56 at41.ne0 rfl rfl ?_
        refine y_aln (i := 0) dX6_readLaw_57 at41.ne0 rfl rfl ?_
        refine y_getp (z := 1) (v := t) dX6_readLaw_58 frX6_15 cfX6 at41 rfl rfl hpt ?_
        refine y_geti (z := 1) dX6_readLaw_61 frX6_51 cfX10 hTo.at rfl rfl ?_
        rw [s44.a.2.1]
        refine x_callVI (c_X6_isOneBelow (i := i + 1 + 1) hW (k43.fl f44) (by omega) (by rw [a44.1])) dX6_readLaw_64 lkX6_121 mfX6_isOneBelow cfX6 at41 rfl rfl rfl rfl (Nat.le_of_ble_eq_true rfl) (fun r64 I64 P64 hr64 hf64 => ?_)
        obtain ⟨rfl, f64, a64, q64⟩ := hf64
        rw [z44] at q64
        have s64 := s44.fl hTo f64
        have g64 := g44.tr (f64.fc (t := t))
        refine x_if_ne (tgt := 71) dX6_readLaw_67 rfl (fun h67 => ?_) (fun h67 => ?_)
        · have y64 := q64.resolve_right (fun q => h67 q.1)
          have v64 := a64.2.2.2 y64.2.2.1
          have z64 := y64.2.2.2.2
          refine y_aln (i := 0) dX6_readLaw_71 at41.ne0 rfl rfl ?_
          refine y_getp (z := 1) (v := t) dX6_readLaw_72 frX6_15 cfX6 at41 rfl rfl hpt ?_
          refine y_getp (z := 16) (v := (t + 13)) dX6_readLaw_75 frX6_47 cfX10 hTo.at rfl rfl (p10_16 wT hTo) ?_
          refine y_aln (i := 0) dX6_readLaw_78 at41.ne0 rfl rfl ?_
          refine y_geti (z := 5) dX6_readLaw_79 frX6_85 cfX6 at41 rfl rfl ?_
          rw [v64]
          refine y_puti (z := 1) dX6_readLaw_82 frX6_142 cfX2 (a10_16 hTo) rfl rfl rfl ?_
          have s85 := s64.spoon (v := k 2 (i + 1 + 1)) hTo
          have k85 := ((k43.fl f44).fl f64).t (i := 1) (v := k 2 (i + 1 + 1)) hTo (a := t + 13) ⟨by omega, by omega⟩
          refine y_aln (i := 0) dX6_readLaw_85 at41.ne0 rfl rfl ?_
          refine x_callVV (c_X6_advance (i := i + 1 + 2) hW k85 (by omega) (by rw [r41 hTo ⟨by omega, by omega⟩, a64.1, show i + 1 + 1 + 1 = i + 1 + 2 by omega])) dX6_readLaw_86 lkX6_41 mfX6_advance cfX6 at41 rfl rfl rfl rfl (Nat.le_of_ble_eq_true rfl) (fun n86 I86 P86 hf86 => ?_)
          obtain ⟨rfl, rfl, f86, a86⟩ := hf86
          have s86 := s85.fl hTo (f86.mo (by decide))
          have z86 : I86 41 6 = 0 := by rw [f86.2 6 (by decide), r41 hTo ⟨by omega, by omega⟩]; exact z64
          have g86 := (g64.t (a := t + 13) (i := 1) (v := k 2 (i + 1 + 1)) ⟨by omega, by omega⟩).tr (f86.fc (t := t))
          have e86 : lawR k i S = burR k (i + 1 + 2) (uI (uI (uI S 11 0 1) 0 3 (k 2 i)) 0 4 (k 2 (i + 1 + 1))) := by rw [e44]; unfold spoR; rw [if_pos y53, ckR_0 y64.2.1]
          refine x_keep [1] ?_
          first | (have z1 := n53; exact tail I44 (i + 1) _ (by rw [e44]; unfold spoR; rw [if_neg n53]) (by omega) g44 (k43.fl f44) a44 z44 s44) | (have z1 := y53; exact tail I86 (i + 1 + 2) _ e86 (by omega) g86 (k85.fl f86) a86 z86 s86) | fail "none"
        · have n64 := q64.resolve_left (fun q => by have := q.1; omega)
          refine x_vret dX6_readLaw_70 rfl ?_
          refine ⟨rfl, rfl, g64, ?_⟩
          rw [e44]
          unfold spoR
          rw [if_pos y53]
          exact RSC.no n64.2.1 n64.2.2 a64.2.1
    · have n22 := q22.resolve_left (fun q => by have := q.1; omega)
      refine x_vret dX6_readLaw_28 rfl ?_
      refine ⟨rfl, rfl, g22, ?_⟩
      unfold lawR
      rw [ckR_0 (if_pos h4)]
      exact RSC.no n22.2.1 n22.2.2 a22.2.1
  · refine y_aln (i := 0) dX6_readLaw_7 at41.ne0 rfl rfl ?_
    refine y_ic dX6_readLaw_8 ⟨by decide, by decide⟩ ?_
    refine x_callVI (c_X6_refuse hW) dX6_readLaw_9 lkX6_77 mfX6_refuse cfX6 at41 rfl rfl rfl rfl (Nat.le_of_ble_eq_true rfl) (fun r9 I9 P9 hr9 hf9 => ?_)
    obtain ⟨rfl, rfl, rfl⟩ := hf9
    refine x_pop dX6_readLaw_12 rfl ?_
    refine x_vret dX6_readLaw_13 rfl ?_
    refine ⟨rfl, rfl, Fc.rf.r, ?_⟩
    unfold lawR
    exact RSC.n2 (v := 5) (if_neg h4) (by decide) (by rw [uI_eq, u1_eq]) (by rw [uI_eq, u1_ne (by decide)]; exact ha.2.1)
end

