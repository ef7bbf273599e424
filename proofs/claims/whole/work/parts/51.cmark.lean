/-! ===== the class: a market's worth, laws, trades ===== -/
section
variable {G : HX} {d : Nat} {I : Mem} {P : Ptr} {T : Tn}
theorem c_X3_thingsOf {q t l : Nat} {s : Int} (hW : WP P) (hM : MK I P q t l T) (hF : WF T) (hr : RC (I (q + 1))) (hs : 0 ≤ s ∧ s < 8) : Cv G mX3_thingsOf d 0 0 [.inr (.inl q), .inl s] NO I P (qI NO (fun r I' P' => I' = I ∧ P' = P ∧ r = leftS T (I (q + 1)) s)) := by
  obtain ⟨hq, hTo, hLo, hpt, hpl, hca, hcl⟩ := id hM
  have wT := wp_T hW hTo
  have wL := wp_L hW hLo
  have e0 : I t 0 = T 0 1 := hca.1
  have f1 := hF.1
  refine x_enter mfX3_thingsOf rfl (Nat.le_of_ble_eq_true rfl) (fun _ => ?_)
  have hL : ∀ (j : Nat) (p v : Int), (T 0 1 - p).toNat < j → 0 ≤ p → p ≤ T 0 1 → v = sumN (fun p => I (q + 1) (8 * p + s)) p → 0 ≤ v → v ≤ p * 960 → V G mX3_thingsOf d 0 0 4 [some (.inr (.inl q)), some (.inl (s)), some (.inl (v)), some (.inl (p))] [] NO I P (qI NO (fun r I' P' => I' = I ∧ P' = P ∧ r = leftS T (I (q + 1)) s)) := by
    intro j
    induction j with
    | zero => intro p v hj; omega
    | succ j ih =>
      intro p v hj hp hp2 hv0 hv1 hv2
      refine x_iload_n (i := 3) dX3_thingsOf_4 rfl rfl ?_
      refine y_aln (i := 0) dX3_thingsOf_5 hq.at.ne0 rfl rfl ?_
      refine y_getp (z := 0) (v := t) dX3_thingsOf_6 frX3_15 cfX3 hq.at rfl rfl hpt ?_
      refine y_geti (z := 0) dX3_thingsOf_9 frX3_39 cfX10 hTo.at rfl rfl ?_
      refine x_icmp_ge (tgt := 35) dX3_thingsOf_12 rfl (fun h12 => ?_) (fun h12 => ?_)
      · refine x_iload_n (i := 2) dX3_thingsOf_35 rfl rfl ?_
        refine x_iret dX3_thingsOf_36 rfl ?_
        exact ⟨rfl, rfl, by rw [hv0, show p = T 0 1 by omega]; rfl⟩
      · have hrr := hr (8 * p + s) (by omega) (by omega)
        refine x_iload_n (i := 2) dX3_thingsOf_15 rfl rfl ?_
        refine y_aln (i := 0) dX3_thingsOf_16 hq.at.ne0 rfl rfl ?_
        refine y_getp (z := 2) (v := (q + 1)) dX3_thingsOf_17 frX3_9 cfX3 hq.at rfl rfl (p3_2 hW hq) ?_
        refine x_iload_n (i := 3) dX3_thingsOf_20 rfl rfl ?_
        refine y_bi dX3_thingsOf_21 ⟨by decide, by decide⟩ ?_
        refine x_imul dX3_thingsOf_23 ⟨by omega, by omega⟩ ?_
        rw [Int.mul_comm p 8]
        refine x_iload_n (i := 1) dX3_thingsOf_24 rfl rfl ?_
        refine x_iadd dX3_thingsOf_25 ⟨by omega, by omega⟩ ?_
        refine x_iald dX3_thingsOf_26 (a3_2 hq) ⟨by omega, by omega⟩ ?_
        refine x_iadd dX3_thingsOf_27 ⟨by omega, by omega⟩ ?_
        refine x_istore_n (i := 2) dX3_thingsOf_28 rfl rfl (Nat.le_of_ble_eq_true rfl) ?_
        refine x_iinc dX3_thingsOf_29 rfl ⟨by omega, by omega⟩ rfl (Nat.le_of_ble_eq_true rfl) ?_
        refine x_goto (tgt := 4) dX3_thingsOf_32 rfl ?_
        refine x_keep [1, 1, 1, 1] ?_
        exact ih _ _ (by omega) (by omega) (by omega) (by rw [sumN_s _ hp, hv0]) (by omega) (by omega)
  refine y_ic dX3_thingsOf_0 ⟨by decide, by decide⟩ ?_
  refine x_istore_n (i := 2) dX3_thingsOf_1 rfl rfl (Nat.le_of_ble_eq_true rfl) ?_
  refine y_ic dX3_thingsOf_2 ⟨by decide, by decide⟩ ?_
  refine x_istore_n (i := 3) dX3_thingsOf_3 rfl rfl (Nat.le_of_ble_eq_true rfl) ?_
  refine x_keep [1, 1, 1, 1] ?_
  exact hL _ _ _ (Nat.lt_succ_self _) (by omega) (by omega) (sumN_0 _).symm (by omega) (by omega)
theorem c_X3_things {q t l : Nat} (hW : WP P) (hM : MK I P q t l T) (hF : WF T) (hr : RC (I (q + 1))) : Cv G mX3_things (d + 1) 0 0 [.inr (.inl q)] NO I P (qI NO (fun r I' P' => I' = I ∧ P' = P ∧ r = allS T (I (q + 1)))) := by
  obtain ⟨hq, hTo, hLo, hpt, hpl, hca, hcl⟩ := id hM
  have wT := wp_T hW hTo
  have e1 : I t 1 = T 0 2 := hca.2.1
  have f2 := hF.2.1
  refine x_enter mfX3_things rfl (Nat.le_of_ble_eq_true rfl) (fun _ => ?_)
  have hL : ∀ (j : Nat) (p v : Int), (T 0 2 - p).toNat < j → 0 ≤ p → p ≤ T 0 2 → v = sumN (fun s => leftS T (I (q + 1)) s) p → 0 ≤ v → v ≤ p * 5760 → V G mX3_things (d + 1) 0 0 4 [some (.inr (.inl q)), some (.inl (v)), some (.inl (p))] [] NO I P (qI NO (fun r I' P' => I' = I ∧ P' = P ∧ r = allS T (I (q + 1)))) := by
    intro j
    induction j with
    | zero => intro p s hj; omega
    | succ j ih =>
      intro p v hj hp hp2 hv0 hv1 hv2
      refine x_iload_n (i := 2) dX3_things_4 rfl rfl ?_
      refine y_aln (i := 0) dX3_things_5 hq.at.ne0 rfl rfl ?_
      refine y_getp (z := 0) (v := t) dX3_things_6 frX3_15 cfX3 hq.at rfl rfl hpt ?_
      refine y_geti (z := 1) dX3_things_9 frX3_43 cfX10 hTo.at rfl rfl ?_
      refine x_icmp_ge (tgt := 29) dX3_things_12 rfl (fun h12 => ?_) (fun h12 => ?_)
      · refine x_iload_n (i := 1) dX3_things_29 rfl rfl ?_
        refine x_iret dX3_things_30 rfl ?_
        exact ⟨rfl, rfl, by rw [hv0, show p = T 0 2 by omega]; rfl⟩
      · have hrr := leftS_bd (s := p) hF hr (by omega)
        refine x_iload_n (i := 1) dX3_things_15 rfl rfl ?_
        refine y_aln (i := 0) dX3_things_16 hq.at.ne0 rfl rfl ?_
        refine x_iload_n (i := 2) dX3_things_17 rfl rfl ?_
        refine x_callVI (c_X3_thingsOf hW hM hF hr (by omega)) dX3_things_18 lkX3_46 mfX3_thingsOf cfX3 hq.at rfl rfl rfl rfl (Nat.le_of_ble_eq_true rfl) (fun r18 I18 P18 hr18 hf18 => ?_)
        obtain ⟨i18, p18, q18⟩ := hf18
        rw [i18, p18, q18]
        refine x_iadd dX3_things_21 ⟨by omega, by omega⟩ ?_
        refine x_istore_n (i := 1) dX3_things_22 rfl rfl (Nat.le_of_ble_eq_true rfl) ?_
        refine x_iinc dX3_things_23 rfl ⟨by omega, by omega⟩ rfl (Nat.le_of_ble_eq_true rfl) ?_
        refine x_goto (tgt := 4) dX3_things_26 rfl ?_
        refine x_keep [1, 1, 1] ?_
        exact ih _ _ (by omega) (by omega) (by omega) (by rw [sumN_s _ hp, hv0]) (by omega) (by omega)
  refine y_ic dX3_things_0 ⟨by decide, by decide⟩ ?_
  refine x_istore_n (i := 1) dX3_things_1 rfl rfl (Nat.le_of_ble_eq_true rfl) ?_
  refine y_ic dX3_things_2 ⟨by decide, by decide⟩ ?_
  refine x_istore_n (i := 2) dX3_things_3 rfl rfl (Nat.le_of_ble_eq_true rfl) ?_
  refine x_keep [1, 1, 1] ?_
  exact hL _ _ _ (Nat.lt_succ_self _) (by omega) (by omega) (sumN_0 _).symm (by omega) (by omega)
theorem c_X3_bagWorth {q t l : Nat} {p : Int} (hW : WP P) (hM : MK I P q t l T) (hF : WF T) (hr : RC (I (q + 1))) (hp : 0 ≤ p ∧ p < T 0 1) : Cv G mX3_bagWorth d 0 0 [.inr (.inl q), .inl p] NO I P (qI NO (fun r I' P' => I' = I ∧ P' = P ∧ r = bagS T (I (q + 1)) p)) := by
  obtain ⟨hq, hTo, hLo, hpt, hpl, hca, hcl⟩ := id hM
  have wT := wp_T hW hTo
  obtain ⟨g0, g1, g2, g3, g4, g5, g6, g7, g8⟩ := hca
  have f1 := hF.1
  have f2 := hF.2.1
  have f8 := hF.2.2.2.2.2.2.2.1
  have f9 := hF.2.2.2.2.2.2.2.2.1 p hp.1 hp.2
  have f10 := hF.2.2.2.2.2.2.2.2.2.1 p hp.1 hp.2
  have f11 := hF.2.2.2.2.2.2.2.2.2.2.1 p
  have h3 : I (t + 3) p = T 2 p := (g5 p hp.1 hp.2).1
  have h4 : I (t + 4) p = T 3 p := (g5 p hp.1 hp.2).2
  refine x_enter mfX3_bagWorth rfl (Nat.le_of_ble_eq_true rfl) (fun _ => ?_)
  have hP : ∀ (j : Nat) (k v : Int), (T 3 p - k).toNat < j → 0 ≤ k → k ≤ T 3 p → v = sumN (fun s => wcell (T 1 (8 * p + s)) (T 2 p) (I (q + 1) (8 * p + s))) (T 0 2) + sumN (fun k => pairS T (I (q + 1)) p k) k → 0 ≤ v → v ≤ 76032000 + k * 9900 → V G mX3_bagWorth d 0 0 136 [some (.inr (.inl q)), some (.inl (p)), some (.inl (8 * p)), none, none, some (.inl (v)), some (.inl (6 * p)), some (.inl (k)), none, none] [] NO I P (qI NO (fun r I' P' => I' = I ∧ P' = P ∧ r = bagS T (I (q + 1)) p)) := by
    intro j
    induction j with
    | zero => intro k v hj; omega
    | succ j ih =>
      intro k v hj hk hk2 hv0 hv1 hv2
      have hnx : ∀ v', v' = v + pairS T (I (q + 1)) p k → k < T 3 p → (0 ≤ pairS T (I (q + 1)) p k ∧ pairS T (I (q + 1)) p k ≤ 9900) → V G mX3_bagWorth d 0 0 229 [some (.inr (.inl q)), some (.inl (p)), some (.inl (8 * p)), none, none, some (.inl (v')), some (.inl (6 * p)), some (.inl (k)), none, none] [] NO I P (qI NO (fun r I' P' => I' = I ∧ P' = P ∧ r = bagS T (I (q + 1)) p)) := fun v' hv' hk3 hb => by
        refine x_iinc dX3_bagWorth_229 rfl ⟨by omega, by omega⟩ rfl (Nat.le_of_ble_eq_true rfl) ?_
        refine x_goto (tgt := 136) dX3_bagWorth_232 rfl ?_
        refine x_keep [1, 1, 1, 0, 0, 1, 1, 1, 0, 0] ?_
        exact ih _ _ (by omega) (by omega) (by omega) (by rw [sumN_s _ hk, hv', hv0]; omega) (by omega) (by omega)
      refine x_iload (i := 7) dX3_bagWorth_136 rfl ?_
      refine y_aln (i := 0) dX3_bagWorth_138 hq.at.ne0 rfl rfl ?_
      refine y_getp (z := 0) (v := t) dX3_bagWorth_139 frX3_15 cfX3 hq.at rfl rfl hpt ?_
      refine y_getp (z := 7) (v := (t + 4)) dX3_bagWorth_142 frX3_57 cfX10 hTo.at rfl rfl (p10_7 wT hTo) ?_
      refine x_iload_n (i := 1) dX3_bagWorth_145 rfl rfl ?_
      refine x_iald dX3_bagWorth_146 (a10_7 hTo) ⟨by omega, by omega⟩ ?_
      refine x_icmp_ge (tgt := 235) dX3_bagWorth_147 rfl (fun h147 => ?_) (fun h147 => ?_)
      · refine x_iload (i := 5) dX3_bagWorth_235 rfl ?_
        refine x_iret dX3_bagWorth_237 rfl ?_
        exact ⟨rfl, rfl, by rw [hv0, show k = T 3 p by omega]; rfl⟩
      · have hb := f11 k hp.1 hp.2 hk (by omega)
        have hg := g6 p k hp.1 hp.2 hk (by omega)
        have ep : pairS T (I (q + 1)) p k = if 0 < I (q + 1) (8 * p + T 4 (18 * p + 3 * k)) ∧ 0 < I (q + 1) (8 * p + T 4 (18 * p + 3 * k + 1)) then 100 * T 4 (18 * p + 3 * k + 2) else 0 := rfl
        refine y_aln (i := 0) dX3_bagWorth_150 hq.at.ne0 rfl rfl ?_
        refine y_getp (z := 2) (v := (q + 1)) dX3_bagWorth_151 frX3_9 cfX3 hq.at rfl rfl (p3_2 hW hq) ?_
        refine x_iload_n (i := 2) dX3_bagWorth_154 rfl rfl ?_
        refine y_aln (i := 0) dX3_bagWorth_155 hq.at.ne0 rfl rfl ?_
        refine y_getp (z := 0) (v := t) dX3_bagWorth_156 frX3_15 cfX3 hq.at rfl rfl hpt ?_
        refine y_getp (z := 8) (v := (t + 5)) dX3_bagWorth_159 frX3_60 cfX10 hTo.at rfl rfl (p10_8 wT hTo) ?_
        refine x_iload (i := 6) dX3_bagWorth_162 rfl ?_
        refine x_iload (i := 7) dX3_bagWorth_164 rfl ?_
        refine x_iadd dX3_bagWorth_166 ⟨by omega, by omega⟩ ?_
        refine x_iald dX3_bagWorth_167 (a10_8 hTo) ⟨by omega, by omega⟩ ?_
        rw [hg.1]
        refine x_iadd dX3_bagWorth_168 ⟨by omega, by omega⟩ ?_
        refine x_iald dX3_bagWorth_169 (a3_2 hq) ⟨by omega, by omega⟩ ?_
        refine x_if_le (tgt := 200) dX3_bagWorth_170 rfl (fun h170 => ?_) (fun h170 => ?_)
        · rw [if_neg (by omega)] at ep
          have zp : True := trivial
          refine y_ic dX3_bagWorth_200 ⟨by decide, by decide⟩ ?_
          refine x_istore (i := 8) dX3_bagWorth_201 rfl (Nat.le_of_ble_eq_true rfl) ?_
          refine x_iload (i := 8) dX3_bagWorth_203 rfl ?_
          refine x_if_eq (tgt := 229) dX3_bagWorth_205 rfl (fun h205 => ?_) (fun h205 => ?_)
          · skip
            refine x_keep [1, 1, 1, 0, 0, 1, 1, 1, 0, 0] ?_
            first | (have z := zp; exact hnx v (by omega) (by omega) (by omega)) | (have z := zq; exact hnx (v + 100 * T 4 (18 * p + 3 * k + 2)) (by omega) (by omega) (by omega)) | exact absurd (show (1 : Int) = 0 by assumption) (by decide) | exact absurd rfl (by assumption)
          · refine x_iload (i := 5) dX3_bagWorth_208 rfl ?_
            refine y_bi dX3_bagWorth_210 ⟨by decide, by decide⟩ ?_
            refine y_aln (i := 0) dX3_bagWorth_212 hq.at.ne0 rfl rfl ?_
            refine y_getp (z := 0) (v := t) dX3_bagWorth_213 frX3_15 cfX3 hq.at rfl rfl hpt ?_
            refine y_getp (z := 10) (v := (t + 7)) dX3_bagWorth_216 frX3_66 cfX10 hTo.at rfl rfl (p10_10 wT hTo) ?_
            refine x_iload (i := 6) dX3_bagWorth_219 rfl ?_
            refine x_iload (i := 7) dX3_bagWorth_221 rfl ?_
            refine x_iadd dX3_bagWorth_223 ⟨by omega, by omega⟩ ?_
            refine x_iald dX3_bagWorth_224 (a10_10 hTo) ⟨by omega, by omega⟩ ?_
            rw [hg.2.2]
            refine x_imul dX3_bagWorth_225 ⟨by omega, by omega⟩ ?_
            refine x_iadd dX3_bagWorth_226 ⟨by omega, by omega⟩ ?_
            refine x_istore (i := 5) dX3_bagWorth_227 rfl (Nat.le_of_ble_eq_true rfl) ?_
            refine x_keep [1, 1, 1, 0, 0, 1, 1, 1, 0, 0] ?_
            first | (have z := zp; exact hnx v (by omega) (by omega) (by omega)) | (have z := zq; exact hnx (v + 100 * T 4 (18 * p + 3 * k + 2)) (by omega) (by omega) (by omega)) | exact absurd (show (1 : Int) = 0 by assumption) (by decide) | exact absurd rfl (by assumption)
        · refine y_aln (i := 0) dX3_bagWorth_173 hq.at.ne0 rfl rfl ?_
          refine y_getp (z := 2) (v := (q + 1)) dX3_bagWorth_174 frX3_9 cfX3 hq.at rfl rfl (p3_2 hW hq) ?_
          refine x_iload_n (i := 2) dX3_bagWorth_177 rfl rfl ?_
          refine y_aln (i := 0) dX3_bagWorth_178 hq.at.ne0 rfl rfl ?_
          refine y_getp (z := 0) (v := t) dX3_bagWorth_179 frX3_15 cfX3 hq.at rfl rfl hpt ?_
          refine y_getp (z := 9) (v := (t + 6)) dX3_bagWorth_182 frX3_63 cfX10 hTo.at rfl rfl (p10_9 wT hTo) ?_
          refine x_iload (i := 6) dX3_bagWorth_185 rfl ?_
          refine x_iload (i := 7) dX3_bagWorth_187 rfl ?_
          refine x_iadd dX3_bagWorth_189 ⟨by omega, by omega⟩ ?_
          refine x_iald dX3_bagWorth_190 (a10_9 hTo) ⟨by omega, by omega⟩ ?_
          rw [hg.2.1]
          refine x_iadd dX3_bagWorth_191 ⟨by omega, by omega⟩ ?_
          refine x_iald dX3_bagWorth_192 (a3_2 hq) ⟨by omega, by omega⟩ ?_
          refine x_if_le (tgt := 200) dX3_bagWorth_193 rfl (fun h193 => ?_) (fun h193 => ?_)
          · rw [if_neg (by omega)] at ep
            have zp : True := trivial
            refine y_ic dX3_bagWorth_200 ⟨by decide, by decide⟩ ?_
            refine x_istore (i := 8) dX3_bagWorth_201 rfl (Nat.le_of_ble_eq_true rfl) ?_
            refine x_iload (i := 8) dX3_bagWorth_203 rfl ?_
            refine x_if_eq (tgt := 229) dX3_bagWorth_205 rfl (fun h205 => ?_) (fun h205 => ?_)
            · skip
              refine x_keep [1, 1, 1, 0, 0, 1, 1, 1, 0, 0] ?_
              first | (have z := zp; exact hnx v (by omega) (by omega) (by omega)) | (have z := zq; exact hnx (v + 100 * T 4 (18 * p + 3 * k + 2)) (by omega) (by omega) (by omega)) | exact absurd (show (1 : Int) = 0 by assumption) (by decide) | exact absurd rfl (by assumption)
            · refine x_iload (i := 5) dX3_bagWorth_208 rfl ?_
              refine y_bi dX3_bagWorth_210 ⟨by decide, by decide⟩ ?_
              refine y_aln (i := 0) dX3_bagWorth_212 hq.at.ne0 rfl rfl ?_
              refine y_getp (z := 0) (v := t) dX3_bagWorth_213 frX3_15 cfX3 hq.at rfl rfl hpt ?_
              refine y_getp (z := 10) (v := (t + 7)) dX3_bagWorth_216 frX3_66 cfX10 hTo.at rfl rfl (p10_10 wT hTo) ?_
              refine x_iload (i := 6) dX3_bagWorth_219 rfl ?_
              refine x_iload (i := 7) dX3_bagWorth_221 rfl ?_
              refine x_iadd dX3_bagWorth_223 ⟨by omega, by omega⟩ ?_
              refine x_iald dX3_bagWorth_224 (a10_10 hTo) ⟨by omega, by omega⟩ ?_
              rw [hg.2.2]
              refine x_imul dX3_bagWorth_225 ⟨by omega, by omega⟩ ?_
              refine x_iadd dX3_bagWorth_226 ⟨by omega, by omega⟩ ?_
              refine x_istore (i := 5) dX3_bagWorth_227 rfl (Nat.le_of_ble_eq_true rfl) ?_
              refine x_keep [1, 1, 1, 0, 0, 1, 1, 1, 0, 0] ?_
              first | (have z := zp; exact hnx v (by omega) (by omega) (by omega)) | (have z := zq; exact hnx (v + 100 * T 4 (18 * p + 3 * k + 2)) (by omega) (by omega) (by omega)) | exact absurd (show (1 : Int) = 0 by assumption) (by decide) | exact absurd rfl (by assumption)
          · rw [if_pos (by omega)] at ep
            have zq : True := trivial
            refine y_ic dX3_bagWorth_196 ⟨by decide, by decide⟩ ?_
            refine x_goto (tgt := 201) dX3_bagWorth_197 rfl ?_
            refine x_istore (i := 8) dX3_bagWorth_201 rfl (Nat.le_of_ble_eq_true rfl) ?_
            refine x_iload (i := 8) dX3_bagWorth_203 rfl ?_
            refine x_if_eq (tgt := 229) dX3_bagWorth_205 rfl (fun h205 => ?_) (fun h205 => ?_)
            · skip
              refine x_keep [1, 1, 1, 0, 0, 1, 1, 1, 0, 0] ?_
              first | (have z := zp; exact hnx v (by omega) (by omega) (by omega)) | (have z := zq; exact hnx (v + 100 * T 4 (18 * p + 3 * k + 2)) (by omega) (by omega) (by omega)) | exact absurd (show (1 : Int) = 0 by assumption) (by decide) | exact absurd rfl (by assumption)
            · refine x_iload (i := 5) dX3_bagWorth_208 rfl ?_
              refine y_bi dX3_bagWorth_210 ⟨by decide, by decide⟩ ?_
              refine y_aln (i := 0) dX3_bagWorth_212 hq.at.ne0 rfl rfl ?_
              refine y_getp (z := 0) (v := t) dX3_bagWorth_213 frX3_15 cfX3 hq.at rfl rfl hpt ?_
              refine y_getp (z := 10) (v := (t + 7)) dX3_bagWorth_216 frX3_66 cfX10 hTo.at rfl rfl (p10_10 wT hTo) ?_
              refine x_iload (i := 6) dX3_bagWorth_219 rfl ?_
              refine x_iload (i := 7) dX3_bagWorth_221 rfl ?_
              refine x_iadd dX3_bagWorth_223 ⟨by omega, by omega⟩ ?_
              refine x_iald dX3_bagWorth_224 (a10_10 hTo) ⟨by omega, by omega⟩ ?_
              rw [hg.2.2]
              refine x_imul dX3_bagWorth_225 ⟨by omega, by omega⟩ ?_
              refine x_iadd dX3_bagWorth_226 ⟨by omega, by omega⟩ ?_
              refine x_istore (i := 5) dX3_bagWorth_227 rfl (Nat.le_of_ble_eq_true rfl) ?_
              refine x_keep [1, 1, 1, 0, 0, 1, 1, 1, 0, 0] ?_
              first | (have z := zp; exact hnx v (by omega) (by omega) (by omega)) | (have z := zq; exact hnx (v + 100 * T 4 (18 * p + 3 * k + 2)) (by omega) (by omega) (by omega)) | exact absurd (show (1 : Int) = 0 by assumption) (by decide) | exact absurd rfl (by assumption)
  have hS : ∀ (full : Int), full = (if 0 < T 2 p then (99 + T 2 p) / T 2 p else 1000000) → (1 ≤ full ∧ full ≤ 1000000) → ∀ (j : Nat) (s v : Int), (T 0 2 - s).toNat < j → 0 ≤ s → s ≤ T 0 2 → v = sumN (fun s => wcell (T 1 (8 * p + s)) (T 2 p) (I (q + 1) (8 * p + s))) s → 0 ≤ v → v ≤ s * 9504000 → V G mX3_bagWorth d 0 0 38 [some (.inr (.inl q)), some (.inl (p)), some (.inl (8 * p)), some (.inl (T 2 p)), some (.inl (full)), some (.inl (v)), some (.inl (s)), none, none, none] [] NO I P (qI NO (fun r I' P' => I' = I ∧ P' = P ∧ r = bagS T (I (q + 1)) p)) := by
    intro full hfull hfb j
    induction j with
    | zero => intro s v hj; omega
    | succ j ih =>
      intro s v hj hs hs2 hv0 hv1 hv2
      have es := sumN_s (fun s => wcell (T 1 (8 * p + s)) (T 2 p) (I (q + 1) (8 * p + s))) hs
      have hnx : ∀ v', v' = v + wcell (T 1 (8 * p + s)) (T 2 p) (I (q + 1) (8 * p + s)) → s < T 0 2 → V G mX3_bagWorth d 0 0 121 [some (.inr (.inl q)), some (.inl (p)), some (.inl (8 * p)), some (.inl (T 2 p)), some (.inl (full)), some (.inl (v')), some (.inl (s)), none, none, none] [] NO I P (qI NO (fun r I' P' => I' = I ∧ P' = P ∧ r = bagS T (I (q + 1)) p)) := fun v' hv' hs3 => by
        have hrc := hr (8 * p + s) (by omega) (by omega)
        have hw := f8 p s hp.1 hp.2 hs (by omega)
        have hwb := wcell_bd (c := I (q + 1) (8 * p + s)) hw f9.1 hrc.1
        refine x_iinc dX3_bagWorth_121 rfl ⟨by omega, by omega⟩ rfl (Nat.le_of_ble_eq_true rfl) ?_
        refine x_goto (tgt := 38) dX3_bagWorth_124 rfl ?_
        refine x_keep [1, 1, 1, 1, 1, 1, 1, 0, 0, 0] ?_
        exact ih _ _ (by omega) (by omega) (by omega) (by rw [es, hv', hv0]) (by omega) (by omega)
      have hC : ∀ c, c = min (I (q + 1) (8 * p + s)) full → 0 < I (q + 1) (8 * p + s) → s < T 0 2 → V G mX3_bagWorth d 0 0 82 [some (.inr (.inl q)), some (.inl (p)), some (.inl (8 * p)), some (.inl (T 2 p)), some (.inl (full)), some (.inl (v)), some (.inl (s)), none, some (.inl (c)), none] [] NO I P (qI NO (fun r I' P' => I' = I ∧ P' = P ∧ r = bagS T (I (q + 1)) p)) := fun c hc hn hs3 => by
        have hrc := hr (8 * p + s) (by omega) (by omega)
        have hw := f8 p s hp.1 hp.2 hs (by omega)
        have hwb := wcell_bd (c := I (q + 1) (8 * p + s)) hw f9.1 hrc.1
        have hwe := wcell_eq (w := T 1 (8 * p + s)) f9 hrc.1 hfull hrc.2
        rw [← hc] at hwe
        have hcc : 0 ≤ c * (c - 1) ∧ c * (c - 1) ≤ 960 * 960 := ⟨Int.mul_nonneg (by omega) (by omega), Int.mul_le_mul (by omega) (by omega) (by omega) (by decide)⟩
        obtain ⟨hh, hh0⟩ : ∃ h, h = c * (c - 1) / 2 := ⟨_, rfl⟩
        have hhb : 0 ≤ hh ∧ hh ≤ 460800 := by omega
        have hfh : 0 ≤ T 2 p * hh ∧ T 2 p * hh ≤ 100 * 460800 := ⟨Int.mul_nonneg f9.1 hhb.1, Int.mul_le_mul f9.2 hhb.2 hhb.1 (by decide)⟩
        have g4' := g4 (8 * p + s) (by omega) (by omega)
        rw [← hh0] at hwe
        refine x_iload_n (i := 3) dX3_bagWorth_82 rfl rfl ?_
        refine x_iload (i := 8) dX3_bagWorth_83 rfl ?_
        refine x_iload (i := 8) dX3_bagWorth_85 rfl ?_
        refine y_ic dX3_bagWorth_87 ⟨by decide, by decide⟩ ?_
        refine x_isub dX3_bagWorth_88 ⟨by omega, by omega⟩ ?_
        refine x_imul dX3_bagWorth_89 ⟨by omega, by omega⟩ ?_
        refine y_ic dX3_bagWorth_90 ⟨by decide, by decide⟩ ?_
        refine x_idiv dX3_bagWorth_91 (by omega) (by omega) ?_
        rw [← hh0]
        refine x_imul dX3_bagWorth_92 ⟨by omega, by omega⟩ ?_
        refine x_istore (i := 9) dX3_bagWorth_93 rfl (Nat.le_of_ble_eq_true rfl) ?_
        refine x_iload (i := 5) dX3_bagWorth_95 rfl ?_
        refine y_aln (i := 0) dX3_bagWorth_97 hq.at.ne0 rfl rfl ?_
        refine y_getp (z := 0) (v := t) dX3_bagWorth_98 frX3_15 cfX3 hq.at rfl rfl hpt ?_
        refine y_getp (z := 5) (v := (t + 2)) dX3_bagWorth_101 frX3_54 cfX10 hTo.at rfl rfl (p10_5 wT hTo) ?_
        refine x_iload_n (i := 2) dX3_bagWorth_104 rfl rfl ?_
        refine x_iload (i := 6) dX3_bagWorth_105 rfl ?_
        refine x_iadd dX3_bagWorth_107 ⟨by omega, by omega⟩ ?_
        refine x_iald dX3_bagWorth_108 (a10_5 hTo) ⟨by omega, by omega⟩ ?_
        rw [g4']
        refine y_bi dX3_bagWorth_109 ⟨by decide, by decide⟩ ?_
        refine x_iload (i := 8) dX3_bagWorth_111 rfl ?_
        refine x_imul dX3_bagWorth_113 ⟨by omega, by omega⟩ ?_
        refine x_iload (i := 9) dX3_bagWorth_114 rfl ?_
        refine x_isub dX3_bagWorth_116 ⟨by omega, by omega⟩ ?_
        refine x_imul dX3_bagWorth_117 (by rw [← hwe]; exact ⟨by omega, by omega⟩) ?_
        rw [← hwe]
        refine x_iadd dX3_bagWorth_118 ⟨by omega, by omega⟩ ?_
        refine x_istore (i := 5) dX3_bagWorth_119 rfl (Nat.le_of_ble_eq_true rfl) ?_
        refine x_keep [1, 1, 1, 1, 1, 1, 1, 0, 0, 0] ?_
        exact hnx _ rfl hs3
      refine x_iload (i := 6) dX3_bagWorth_38 rfl ?_
      refine y_aln (i := 0) dX3_bagWorth_40 hq.at.ne0 rfl rfl ?_
      refine y_getp (z := 0) (v := t) dX3_bagWorth_41 frX3_15 cfX3 hq.at rfl rfl hpt ?_
      refine y_geti (z := 1) dX3_bagWorth_44 frX3_43 cfX10 hTo.at rfl rfl ?_
      refine x_icmp_ge (tgt := 127) dX3_bagWorth_47 rfl (fun h47 => ?_) (fun h47 => ?_)
      · refine x_iload_n (i := 1) dX3_bagWorth_127 rfl rfl ?_
        skip
        refine y_bi dX3_bagWorth_128 ⟨by decide, by decide⟩ ?_
        refine x_imul dX3_bagWorth_130 ⟨by omega, by omega⟩ ?_
        refine x_istore (i := 6) dX3_bagWorth_131 rfl (Nat.le_of_ble_eq_true rfl) ?_
        refine y_ic dX3_bagWorth_133 ⟨by decide, by decide⟩ ?_
        refine x_istore (i := 7) dX3_bagWorth_134 rfl (Nat.le_of_ble_eq_true rfl) ?_
        refine x_keep [1, 1, 1, 0, 0, 1, 1, 1, 0, 0] ?_
        rw [Int.mul_comm p 6]
        exact hP _ _ _ (Nat.lt_succ_self _) (by omega) (by omega) (by rw [hv0, show s = T 0 2 by omega, sumN_0]; omega) (by omega) (by omega)
      · have hrc := hr (8 * p + s) (by omega) (by omega)
        refine y_aln (i := 0) dX3_bagWorth_50 hq.at.ne0 rfl rfl ?_
        refine y_getp (z := 2) (v := (q + 1)) dX3_bagWorth_51 frX3_9 cfX3 hq.at rfl rfl (p3_2 hW hq) ?_
        refine x_iload_n (i := 2) dX3_bagWorth_54 rfl rfl ?_
        refine x_iload (i := 6) dX3_bagWorth_55 rfl ?_
        refine x_iadd dX3_bagWorth_57 ⟨by omega, by omega⟩ ?_
        refine x_iald dX3_bagWorth_58 (a3_2 hq) ⟨by omega, by omega⟩ ?_
        refine x_istore (i := 7) dX3_bagWorth_59 rfl (Nat.le_of_ble_eq_true rfl) ?_
        refine x_iload (i := 7) dX3_bagWorth_61 rfl ?_
        refine x_if_le (tgt := 121) dX3_bagWorth_63 rfl (fun h63 => ?_) (fun h63 => ?_)
        · refine x_keep [1, 1, 1, 1, 1, 1, 1, 0, 0, 0] ?_
          exact hnx v (by rw [show I (q + 1) (8 * p + s) = 0 by omega]; show v = v + 0; omega) (by omega)
        · refine x_iload (i := 7) dX3_bagWorth_66 rfl ?_
          refine x_iload (i := 4) dX3_bagWorth_68 rfl ?_
          refine x_icmp_ge (tgt := 78) dX3_bagWorth_70 rfl (fun h70 => ?_) (fun h70 => ?_)
          · refine x_iload (i := 4) dX3_bagWorth_78 rfl ?_
            refine x_istore (i := 8) dX3_bagWorth_80 rfl (Nat.le_of_ble_eq_true rfl) ?_
            refine x_keep [1, 1, 1, 1, 1, 1, 1, 0, 1, 0] ?_
            exact hC _ (by omega) (by omega) (by omega)
          · refine x_iload (i := 7) dX3_bagWorth_73 rfl ?_
            refine x_goto (tgt := 80) dX3_bagWorth_75 rfl ?_
            refine x_istore (i := 8) dX3_bagWorth_80 rfl (Nat.le_of_ble_eq_true rfl) ?_
            refine x_keep [1, 1, 1, 1, 1, 1, 1, 0, 1, 0] ?_
            exact hC _ (by omega) (by omega) (by omega)
  refine x_iload_n (i := 1) dX3_bagWorth_0 rfl rfl ?_
  refine y_bi dX3_bagWorth_1 ⟨by decide, by decide⟩ ?_
  refine x_imul dX3_bagWorth_3 ⟨by omega, by omega⟩ ?_
  rw [Int.mul_comm p 8]
  refine x_istore_n (i := 2) dX3_bagWorth_4 rfl rfl (Nat.le_of_ble_eq_true rfl) ?_
  refine y_aln (i := 0) dX3_bagWorth_5 hq.at.ne0 rfl rfl ?_
  refine y_getp (z := 0) (v := t) dX3_bagWorth_6 frX3_15 cfX3 hq.at rfl rfl hpt ?_
  refine y_getp (z := 6) (v := (t + 3)) dX3_bagWorth_9 frX3_50 cfX10 hTo.at rfl rfl (p10_6 wT hTo) ?_
  refine x_iload_n (i := 1) dX3_bagWorth_12 rfl rfl ?_
  refine x_iald dX3_bagWorth_13 (a10_6 hTo) ⟨by omega, by omega⟩ ?_
  rw [h3]
  refine x_istore_n (i := 3) dX3_bagWorth_14 rfl rfl (Nat.le_of_ble_eq_true rfl) ?_
  refine x_iload_n (i := 3) dX3_bagWorth_15 rfl rfl ?_
  refine x_if_le (tgt := 28) dX3_bagWorth_16 rfl (fun h16 => ?_) (fun h16 => ?_)
  · refine y_ldc dX3_bagWorth_28 kcX3_53 (show _ = oI (1000000) from rfl) ⟨by decide, by decide⟩ ?_
    refine x_istore (i := 4) dX3_bagWorth_30 rfl (Nat.le_of_ble_eq_true rfl) ?_
    refine y_ic dX3_bagWorth_32 ⟨by decide, by decide⟩ ?_
    refine x_istore (i := 5) dX3_bagWorth_33 rfl (Nat.le_of_ble_eq_true rfl) ?_
    refine y_ic dX3_bagWorth_35 ⟨by decide, by decide⟩ ?_
    refine x_istore (i := 6) dX3_bagWorth_36 rfl (Nat.le_of_ble_eq_true rfl) ?_
    refine x_keep [1, 1, 1, 1, 1, 1, 1, 0, 0, 0] ?_
    first | (refine hS _ ?_ ?_ _ 0 0 (Nat.lt_succ_self _) (Int.le_refl 0) (by omega) (sumN_0 _).symm (by omega) (by omega); rw [if_neg (by omega)]; exact ⟨by decide, by decide⟩) | (refine hS _ ?_ ?_ _ 0 0 (Nat.lt_succ_self _) (Int.le_refl 0) (by omega) (sumN_0 _).symm (by omega) (by omega); rw [if_pos (by omega)]; have e1 := Int.ediv_le_self (T 2 p) (show 0 ≤ 99 + T 2 p by omega); have e2 : 1 ≤ (99 + T 2 p) / T 2 p := (by rw [Int.le_ediv_iff_mul_le (by omega)]; omega); omega)
  · refine y_bi dX3_bagWorth_19 ⟨by decide, by decide⟩ ?_
    refine x_iload_n (i := 3) dX3_bagWorth_21 rfl rfl ?_
    refine x_iadd dX3_bagWorth_22 ⟨by omega, by omega⟩ ?_
    refine x_iload_n (i := 3) dX3_bagWorth_23 rfl rfl ?_
    refine x_idiv dX3_bagWorth_24 (by omega) (by omega) ?_
    refine x_goto (tgt := 30) dX3_bagWorth_25 rfl ?_
    refine x_istore (i := 4) dX3_bagWorth_30 rfl (Nat.le_of_ble_eq_true rfl) ?_
    refine y_ic dX3_bagWorth_32 ⟨by decide, by decide⟩ ?_
    refine x_istore (i := 5) dX3_bagWorth_33 rfl (Nat.le_of_ble_eq_true rfl) ?_
    refine y_ic dX3_bagWorth_35 ⟨by decide, by decide⟩ ?_
    refine x_istore (i := 6) dX3_bagWorth_36 rfl (Nat.le_of_ble_eq_true rfl) ?_
    refine x_keep [1, 1, 1, 1, 1, 1, 1, 0, 0, 0] ?_
    first | (refine hS _ ?_ ?_ _ 0 0 (Nat.lt_succ_self _) (Int.le_refl 0) (by omega) (sumN_0 _).symm (by omega) (by omega); rw [if_neg (by omega)]; exact ⟨by decide, by decide⟩) | (refine hS _ ?_ ?_ _ 0 0 (Nat.lt_succ_self _) (Int.le_refl 0) (by omega) (sumN_0 _).symm (by omega) (by omega); rw [if_pos (by omega)]; have e1 := Int.ediv_le_self (T 2 p) (show 0 ≤ 99 + T 2 p by omega); have e2 : 1 ≤ (99 + T 2 p) / T 2 p := (by rw [Int.le_ediv_iff_mul_le (by omega)]; omega); omega)
theorem c_X3_allWorth {q t l : Nat} (hW : WP P) (hM : MK I P q t l T) (hF : WF T) (hr : RC (I (q + 1))) : Cv G mX3_allWorth (d + 1) 0 0 [.inr (.inl q)] NO I P (qI NO (fun r I' P' => I' = I ∧ P' = P ∧ r = worthS T (I (q + 1)))) := by
  obtain ⟨hq, hTo, hLo, hpt, hpl, hca, hcl⟩ := id hM
  have wT := wp_T hW hTo
  have e0 : I t 0 = T 0 1 := hca.1
  have f1 := hF.1
  refine x_enter mfX3_allWorth rfl (Nat.le_of_ble_eq_true rfl) (fun _ => ?_)
  have hL : ∀ (j : Nat) (p v : Int), (T 0 1 - p).toNat < j → 0 ≤ p → p ≤ T 0 1 → v = sumN (fun s => bagS T (I (q + 1)) s) p → 0 ≤ v → v ≤ p * 76100000 → V G mX3_allWorth (d + 1) 0 0 4 [some (.inr (.inl q)), some (.inl (v)), some (.inl (p))] [] NO I P (qI NO (fun r I' P' => I' = I ∧ P' = P ∧ r = worthS T (I (q + 1)))) := by
    intro j
    induction j with
    | zero => intro p s hj; omega
    | succ j ih =>
      intro p v hj hp hp2 hv0 hv1 hv2
      refine x_iload_n (i := 2) dX3_allWorth_4 rfl rfl ?_
      refine y_aln (i := 0) dX3_allWorth_5 hq.at.ne0 rfl rfl ?_
      refine y_getp (z := 0) (v := t) dX3_allWorth_6 frX3_15 cfX3 hq.at rfl rfl hpt ?_
      refine y_geti (z := 0) dX3_allWorth_9 frX3_39 cfX10 hTo.at rfl rfl ?_
      refine x_icmp_ge (tgt := 29) dX3_allWorth_12 rfl (fun h12 => ?_) (fun h12 => ?_)
      · refine x_iload_n (i := 1) dX3_allWorth_29 rfl rfl ?_
        refine x_iret dX3_allWorth_30 rfl ?_
        exact ⟨rfl, rfl, by rw [hv0, show p = T 0 1 by omega]; rfl⟩
      · have hrr := bagS_bd (p := p) hF hr (by omega)
        refine x_iload_n (i := 1) dX3_allWorth_15 rfl rfl ?_
        refine y_aln (i := 0) dX3_allWorth_16 hq.at.ne0 rfl rfl ?_
        refine x_iload_n (i := 2) dX3_allWorth_17 rfl rfl ?_
        refine x_callVI (c_X3_bagWorth hW hM hF hr (by omega)) dX3_allWorth_18 lkX3_69 mfX3_bagWorth cfX3 hq.at rfl rfl rfl rfl (Nat.le_of_ble_eq_true rfl) (fun r18 I18 P18 hr18 hf18 => ?_)
        obtain ⟨i18, p18, q18⟩ := hf18
        rw [i18, p18, q18]
        refine x_iadd dX3_allWorth_21 ⟨by omega, by omega⟩ ?_
        refine x_istore_n (i := 1) dX3_allWorth_22 rfl rfl (Nat.le_of_ble_eq_true rfl) ?_
        refine x_iinc dX3_allWorth_23 rfl ⟨by omega, by omega⟩ rfl (Nat.le_of_ble_eq_true rfl) ?_
        refine x_goto (tgt := 4) dX3_allWorth_26 rfl ?_
        refine x_keep [1, 1, 1] ?_
        exact ih _ _ (by omega) (by omega) (by omega) (by rw [sumN_s _ hp, hv0]) (by omega) (by omega)
  refine y_ic dX3_allWorth_0 ⟨by decide, by decide⟩ ?_
  refine x_istore_n (i := 1) dX3_allWorth_1 rfl rfl (Nat.le_of_ble_eq_true rfl) ?_
  refine y_ic dX3_allWorth_2 ⟨by decide, by decide⟩ ?_
  refine x_istore_n (i := 2) dX3_allWorth_3 rfl rfl (Nat.le_of_ble_eq_true rfl) ?_
  refine x_keep [1, 1, 1] ?_
  exact hL _ _ _ (Nat.lt_succ_self _) (by omega) (by omega) (sumN_0 _).symm (by omega) (by omega)
theorem c_X3_leastWorth {q t l : Nat} (hW : WP P) (hM : MK I P q t l T) (hF : WF T) (hr : RC (I (q + 1))) (h1p : 1 ≤ T 0 1) : Cv G mX3_leastWorth (d + 1) 0 0 [.inr (.inl q)] NO I P (qI NO (fun r I' P' => I' = I ∧ P' = P ∧ r = lowS T (I (q + 1)))) := by
  obtain ⟨hq, hTo, hLo, hpt, hpl, hca, hcl⟩ := id hM
  have wT := wp_T hW hTo
  have e0 : I t 0 = T 0 1 := hca.1
  have f1 := hF.1
  refine x_enter mfX3_leastWorth rfl (Nat.le_of_ble_eq_true rfl) (fun _ => ?_)
  have hL : ∀ (j : Nat) (p : Int), (T 0 1 - p).toNat < j → 1 ≤ p → p ≤ T 0 1 → V G mX3_leastWorth (d + 1) 0 0 8 [some (.inr (.inl q)), some (.inl (lowN T (I (q + 1)) p)), some (.inl (p))] [] NO I P (qI NO (fun r I' P' => I' = I ∧ P' = P ∧ r = lowS T (I (q + 1)))) := by
    intro j
    induction j with
    | zero => intro p hj; omega
    | succ j ih =>
      intro p hj hp hp2
      have els := lowN_s (T := T) (r := I (q + 1)) (n := p) (by omega)
      refine x_iload_n (i := 2) dX3_leastWorth_8 rfl rfl ?_
      refine y_aln (i := 0) dX3_leastWorth_9 hq.at.ne0 rfl rfl ?_
      refine y_getp (z := 0) (v := t) dX3_leastWorth_10 frX3_15 cfX3 hq.at rfl rfl hpt ?_
      refine y_geti (z := 0) dX3_leastWorth_13 frX3_39 cfX10 hTo.at rfl rfl ?_
      refine x_icmp_ge (tgt := 35) dX3_leastWorth_16 rfl (fun h16 => ?_) (fun h16 => ?_)
      · refine x_iload_n (i := 1) dX3_leastWorth_35 rfl rfl ?_
        refine x_iret dX3_leastWorth_36 rfl ?_
        exact ⟨rfl, rfl, by unfold lowS; rw [show p = T 0 1 by omega]⟩
      · refine x_iload_n (i := 1) dX3_leastWorth_19 rfl rfl ?_
        refine y_aln (i := 0) dX3_leastWorth_20 hq.at.ne0 rfl rfl ?_
        refine x_iload_n (i := 2) dX3_leastWorth_21 rfl rfl ?_
        refine x_callVI (c_X3_bagWorth hW hM hF hr (by omega)) dX3_leastWorth_22 lkX3_69 mfX3_bagWorth cfX3 hq.at rfl rfl rfl rfl (Nat.le_of_ble_eq_true rfl) (fun r22 I22 P22 hr22 hf22 => ?_)
        obtain ⟨i22, p22, q22⟩ := hf22
        rw [i22, p22, q22]
        refine y_min dX3_leastWorth_25 jkX3_72 (by omega) (Nat.le_of_ble_eq_true rfl) ?_
        refine x_istore_n (i := 1) dX3_leastWorth_28 rfl rfl (Nat.le_of_ble_eq_true rfl) ?_
        refine x_iinc dX3_leastWorth_29 rfl ⟨by omega, by omega⟩ rfl (Nat.le_of_ble_eq_true rfl) ?_
        refine x_goto (tgt := 8) dX3_leastWorth_32 rfl ?_
        refine x_keep [1, 1, 1] ?_
        have := ih (p + 1) (by omega) (by omega) (by omega)
        rw [els] at this
        have em : min (lowN T (I (q + 1)) p) (bagS T (I (q + 1)) p) = if bagS T (I (q + 1)) p < lowN T (I (q + 1)) p then bagS T (I (q + 1)) p else lowN T (I (q + 1)) p := by split <;> omega
        rw [em]
        exact this
  refine y_aln (i := 0) dX3_leastWorth_0 hq.at.ne0 rfl rfl ?_
  refine y_ic dX3_leastWorth_1 ⟨by decide, by decide⟩ ?_
  refine x_callVI (c_X3_bagWorth hW hM hF hr ⟨by decide, by omega⟩) dX3_leastWorth_2 lkX3_69 mfX3_bagWorth cfX3 hq.at rfl rfl rfl rfl (Nat.le_of_ble_eq_true rfl) (fun r2 I2 P2 hr2 hf2 => ?_)
  obtain ⟨i2, p2, q2⟩ := hf2
  rw [i2, p2, q2]
  refine x_istore_n (i := 1) dX3_leastWorth_5 rfl rfl (Nat.le_of_ble_eq_true rfl) ?_
  refine y_ic dX3_leastWorth_6 ⟨by decide, by decide⟩ ?_
  refine x_istore_n (i := 2) dX3_leastWorth_7 rfl rfl (Nat.le_of_ble_eq_true rfl) ?_
  refine x_keep [1, 1, 1] ?_
  have := hL _ 1 (Nat.lt_succ_self _) (by decide) h1p
  rw [lowN_1] at this
  exact this
theorem c_X3_canGet {q t l : Nat} {b o z : Int} (hW : WP P) (hM : MK I P q t l T) (hF : WF T) (hb : 0 ≤ b ∧ b < 6) (ho : 0 ≤ o ∧ o < OFN T) (hz : 0 ≤ z ∧ z < 8) : Cv G mX3_canGet d 0 0 [.inr (.inl q), .inl b, .inl o, .inl z] NO I P (qI NO (fun r I' P' => I' = I ∧ P' = P ∧ ((r = 1 ∧ gtP T (I (q + 1)) b o z) ∨ (r = 0 ∧ ¬ gtP T (I (q + 1)) b o z)))) := by
  obtain ⟨hq, hTo, hLo, hpt, hpl, hca, hcl⟩ := id hM
  have wL := wp_L hW hLo
  have hON := OFN_bd hF
  have hm := (hcl.2.2.2.2 o ho.1 ho.2).2.2.2.1 z hz.1 hz.2
  refine x_enter mfX3_canGet rfl (Nat.le_of_ble_eq_true rfl) (fun _ => ?_)
  refine y_aln (i := 0) dX3_canGet_0 hq.at.ne0 rfl rfl ?_
  refine y_getp (z := 2) (v := (q + 1)) dX3_canGet_1 frX3_9 cfX3 hq.at rfl rfl (p3_2 hW hq) ?_
  refine x_iload_n (i := 1) dX3_canGet_4 rfl rfl ?_
  refine y_bi dX3_canGet_5 ⟨by decide, by decide⟩ ?_
  refine x_imul dX3_canGet_7 ⟨by omega, by omega⟩ ?_
  rw [Int.mul_comm b 8]
  refine x_iload_n (i := 3) dX3_canGet_8 rfl rfl ?_
  refine x_iadd dX3_canGet_9 ⟨by omega, by omega⟩ ?_
  refine x_iald dX3_canGet_10 (a3_2 hq) ⟨by omega, by omega⟩ ?_
  refine x_if_le (tgt := 34) dX3_canGet_11 rfl (fun h11 => ?_) (fun h11 => ?_)
  · refine y_ic dX3_canGet_34 ⟨by decide, by decide⟩ ?_
    refine x_zret dX3_canGet_35 (by omega) rfl ?_
    first | exact ⟨rfl, rfl, Or.inl ⟨rfl, by omega, hy⟩⟩ | exact ⟨rfl, rfl, Or.inr ⟨rfl, fun h => hn h.2⟩⟩ | exact ⟨rfl, rfl, Or.inr ⟨rfl, fun h => absurd h.1 (by omega)⟩⟩
  · refine y_aln (i := 0) dX3_canGet_14 hq.at.ne0 rfl rfl ?_
    refine y_getp (z := 1) (v := l) dX3_canGet_15 frX3_25 cfX3 hq.at rfl rfl hpl ?_
    refine y_getp (z := 7) (v := (l + 4)) dX3_canGet_18 frX3_98 cfX2 hLo.at rfl rfl (p2_7 wL hLo) ?_
    refine x_iload_n (i := 2) dX3_canGet_21 rfl rfl ?_
    refine x_iald dX3_canGet_22 (a2_7 hLo) ⟨by omega, by omega⟩ ?_
    refine x_iload_n (i := 3) dX3_canGet_23 rfl rfl ?_
    refine y_ishr dX3_canGet_24 ?_
    refine y_ic dX3_canGet_25 ⟨by decide, by decide⟩ ?_
    refine y_iand dX3_canGet_26 ?_
    rw [hm]
    refine x_if_ne (tgt := 34) dX3_canGet_27 rfl (fun h27 => ?_) (fun h27 => ?_)
    · have hn : askS T (OF T o) z ≠ 0 := fun q => h27 (if_pos q)
      refine y_ic dX3_canGet_34 ⟨by decide, by decide⟩ ?_
      refine x_zret dX3_canGet_35 (by omega) rfl ?_
      first | exact ⟨rfl, rfl, Or.inl ⟨rfl, by omega, hy⟩⟩ | exact ⟨rfl, rfl, Or.inr ⟨rfl, fun h => hn h.2⟩⟩ | exact ⟨rfl, rfl, Or.inr ⟨rfl, fun h => absurd h.1 (by omega)⟩⟩
    · have hy : askS T (OF T o) z = 0 := by
        by_cases q : askS T (OF T o) z = 0
        · exact q
        · rw [if_neg q] at h27; exact absurd (show (1 : Int) = 0 by omega) (by decide)
      refine y_ic dX3_canGet_30 ⟨by decide, by decide⟩ ?_
      refine x_goto (tgt := 35) dX3_canGet_31 rfl ?_
      refine x_zret dX3_canGet_35 (by omega) rfl ?_
      first | exact ⟨rfl, rfl, Or.inl ⟨rfl, by omega, hy⟩⟩ | exact ⟨rfl, rfl, Or.inr ⟨rfl, fun h => hn h.2⟩⟩ | exact ⟨rfl, rfl, Or.inr ⟨rfl, fun h => absurd h.1 (by omega)⟩⟩
theorem c_X3_canGive {q t l : Nat} {a o : Int} (hW : WP P) (hM : MK I P q t l T) (hF : WF T) (hr : RC (I (q + 1))) (ha : 0 ≤ a ∧ a < 6) (ho : 0 ≤ o ∧ o < OFN T) : Cv G mX3_canGive d 0 0 [.inr (.inl q), .inl a, .inl o] NO I P (qI NO (fun r I' P' => I' = I ∧ P' = P ∧ ((r = 1 ∧ gvP T (I (q + 1)) a o) ∨ (r = 0 ∧ ¬ gvP T (I (q + 1)) a o)))) := by
  obtain ⟨hq, hTo, hLo, hpt, hpl, hca, hcl⟩ := id hM
  have wL := wp_L hW hLo
  have hON := OFN_bd hF
  have f3 := hF.2.2.1
  have g3 : I l 0 = T 0 3 := hcl.1
  have ho2 := hcl.2.2.2.2 o ho.1 ho.2
  have hth := ho2.1
  have hsp := ho2.2.2.2.2
  have hgv := gv_iff (γ := OF T o) (f := fun s => I (q + 1) (8 * a + s)) f3 (OF_so hF ho)
  have hO8 : ∀ j, 0 ≤ j → j < 3 → 0 ≤ OF T o j ∧ OF T o j < 8 := fun j j0 j1 => by have := OF_bd hF ho.1 ho.2 j0 j1; have := hF.2.1; omega
  refine x_enter mfX3_canGive rfl (Nat.le_of_ble_eq_true rfl) (fun _ => ?_)
  have hL : (T 0 4 = -1 ∨ 0 < askS T (OF T o) (T 0 4)) → ∀ (j : Nat) (k : Int), (T 0 3 - k).toNat < j → 0 ≤ k → k ≤ T 0 3 → (0 ≤ cnS (OF T o) k ∧ cnS (OF T o) k ≤ k) → (∀ i, 0 ≤ i → i < k → cnS (OF T o) (i + 1) ≤ I (q + 1) (8 * a + OF T o i)) → V G mX3_canGive d 0 0 24 [some (.inr (.inl q)), some (.inl (a)), none, some (.inl (3 * o)), some (.inl (cnS (OF T o) k)), some (.inl (k)), none] [] NO I P (qI NO (fun r I' P' => I' = I ∧ P' = P ∧ ((r = 1 ∧ gvP T (I (q + 1)) a o) ∨ (r = 0 ∧ ¬ gvP T (I (q + 1)) a o)))) := by
    intro hs j
    induction j with
    | zero => intro k hj; omega
    | succ j ih =>
      intro k hj hk hk2 hcb hk3
      have hcs := cnS_s (γ := OF T o) hk
      have hkk := fun (z : k < T 0 3) => hO8 k hk (by omega)
      have ht := fun (z : k < T 0 3) => hth k hk (by omega)
      have ht1 := fun (z : k < T 0 3) (z2 : 0 < k) => hth (k - 1) (by omega) (by omega)
      have nx : ∀ need, need = cnS (OF T o) (k + 1) → (0 ≤ need ∧ need ≤ k + 1) → k < T 0 3 → V G mX3_canGive d 0 0 84 [some (.inr (.inl q)), some (.inl (a)), none, some (.inl (3 * o)), some (.inl (need)), some (.inl (k)), some (.inl (OF T o k))] [] NO I P (qI NO (fun r I' P' => I' = I ∧ P' = P ∧ ((r = 1 ∧ gvP T (I (q + 1)) a o) ∨ (r = 0 ∧ ¬ gvP T (I (q + 1)) a o)))) := fun need hn hnb hk4 => by
        have hrc := hr (8 * a + OF T o k) (by have := hkk hk4; omega) (by have := hkk hk4; omega)
        have hkk' := hkk hk4
        refine y_aln (i := 0) dX3_canGive_84 hq.at.ne0 rfl rfl ?_
        refine y_getp (z := 2) (v := (q + 1)) dX3_canGive_85 frX3_9 cfX3 hq.at rfl rfl (p3_2 hW hq) ?_
        refine x_iload_n (i := 1) dX3_canGive_88 rfl rfl ?_
        refine y_bi dX3_canGive_89 ⟨by decide, by decide⟩ ?_
        refine x_imul dX3_canGive_91 ⟨by omega, by omega⟩ ?_
        rw [Int.mul_comm a 8]
        refine x_iload (i := 6) dX3_canGive_92 rfl ?_
        refine x_iadd dX3_canGive_94 ⟨by omega, by omega⟩ ?_
        refine x_iald dX3_canGive_95 (a3_2 hq) ⟨by omega, by omega⟩ ?_
        refine x_iload (i := 4) dX3_canGive_96 rfl ?_
        refine x_icmp_ge (tgt := 103) dX3_canGive_98 rfl (fun h98 => ?_) (fun h98 => ?_)
        · refine x_iinc dX3_canGive_103 rfl ⟨by omega, by omega⟩ rfl (Nat.le_of_ble_eq_true rfl) ?_
          refine x_goto (tgt := 24) dX3_canGive_106 rfl ?_
          refine x_keep [1, 1, 0, 1, 1, 1, 0] ?_
          rw [hn]
          refine ih (k + 1) (by omega) (by omega) (by omega) (by omega) (fun i i0 i1 => ?_)
          by_cases e : i = k
          · rw [e]; omega
          · exact hk3 i i0 (by omega)
        · refine y_ic dX3_canGive_101 ⟨by decide, by decide⟩ ?_
          refine x_zret dX3_canGive_102 (by omega) rfl ?_
          exact ⟨rfl, rfl, Or.inr ⟨rfl, fun h => by
            have := (hgv.mpr h.2) k hk hk4
            change cnS (OF T o) (k + 1) ≤ I (q + 1) (8 * a + OF T o k) at this
            omega⟩⟩
      refine x_iload (i := 5) dX3_canGive_24 rfl ?_
      refine y_aln (i := 0) dX3_canGive_26 hq.at.ne0 rfl rfl ?_
      refine y_getp (z := 1) (v := l) dX3_canGive_27 frX3_25 cfX3 hq.at rfl rfl hpl ?_
      refine y_geti (z := 0) dX3_canGive_30 frX3_92 cfX2 hLo.at rfl rfl ?_
      refine x_icmp_ge (tgt := 109) dX3_canGive_33 rfl (fun h33 => ?_) (fun h33 => ?_)
      · refine y_ic dX3_canGive_109 ⟨by decide, by decide⟩ ?_
        refine x_zret dX3_canGive_110 (by omega) rfl ?_
        exact ⟨rfl, rfl, Or.inl ⟨rfl, hs, hgv.mp (fun i i0 i1 => hk3 i i0 (by omega))⟩⟩
      · have hkk' := hkk (by omega)
        have ht' := ht (by omega)
        refine y_aln (i := 0) dX3_canGive_36 hq.at.ne0 rfl rfl ?_
        refine y_getp (z := 1) (v := l) dX3_canGive_37 frX3_25 cfX3 hq.at rfl rfl hpl ?_
        refine y_getp (z := 4) (v := (l + 1)) dX3_canGive_40 frX3_95 cfX2 hLo.at rfl rfl (p2_4 wL hLo) ?_
        refine x_iload_n (i := 3) dX3_canGive_43 rfl rfl ?_
        refine x_iload (i := 5) dX3_canGive_44 rfl ?_
        refine x_iadd dX3_canGive_46 ⟨by omega, by omega⟩ ?_
        refine x_iald dX3_canGive_47 (a2_4 hLo) ⟨by omega, by omega⟩ ?_
        rw [ht']
        refine x_istore (i := 6) dX3_canGive_48 rfl (Nat.le_of_ble_eq_true rfl) ?_
        refine x_iload (i := 5) dX3_canGive_50 rfl ?_
        refine x_if_le (tgt := 81) dX3_canGive_52 rfl (fun h52 => ?_) (fun h52 => ?_)
        · have hc0 : ¬ (0 < k ∧ OF T o (k - 1) = OF T o k) := by omega
          refine y_ic dX3_canGive_81 ⟨by decide, by decide⟩ ?_
          refine x_istore (i := 4) dX3_canGive_82 rfl (Nat.le_of_ble_eq_true rfl) ?_
          refine x_keep [1, 1, 0, 1, 1, 1, 1] ?_
          first | (have z := hc1; exact nx _ (by rw [hcs, if_pos hc1]) (by omega) (by omega)) | (have z := hc0; exact nx _ (by rw [hcs, if_neg hc0]) (by omega) (by omega))
        · have ht1' := ht1 (by omega) (by omega)
          rw [show 3 * o + (k - 1) = 3 * o + k - 1 by omega] at ht1'
          refine y_aln (i := 0) dX3_canGive_55 hq.at.ne0 rfl rfl ?_
          refine y_getp (z := 1) (v := l) dX3_canGive_56 frX3_25 cfX3 hq.at rfl rfl hpl ?_
          refine y_getp (z := 4) (v := (l + 1)) dX3_canGive_59 frX3_95 cfX2 hLo.at rfl rfl (p2_4 wL hLo) ?_
          refine x_iload_n (i := 3) dX3_canGive_62 rfl rfl ?_
          refine x_iload (i := 5) dX3_canGive_63 rfl ?_
          refine x_iadd dX3_canGive_65 ⟨by omega, by omega⟩ ?_
          refine y_ic dX3_canGive_66 ⟨by decide, by decide⟩ ?_
          refine x_isub dX3_canGive_67 ⟨by omega, by omega⟩ ?_
          refine x_iald dX3_canGive_68 (a2_4 hLo) ⟨by omega, by omega⟩ ?_
          rw [ht1']
          refine x_iload (i := 6) dX3_canGive_69 rfl ?_
          refine x_icmp_ne (tgt := 81) dX3_canGive_71 rfl (fun h71 => ?_) (fun h71 => ?_)
          · have hc0 : ¬ (0 < k ∧ OF T o (k - 1) = OF T o k) := by omega
            refine y_ic dX3_canGive_81 ⟨by decide, by decide⟩ ?_
            refine x_istore (i := 4) dX3_canGive_82 rfl (Nat.le_of_ble_eq_true rfl) ?_
            refine x_keep [1, 1, 0, 1, 1, 1, 1] ?_
            first | (have z := hc1; exact nx _ (by rw [hcs, if_pos hc1]) (by omega) (by omega)) | (have z := hc0; exact nx _ (by rw [hcs, if_neg hc0]) (by omega) (by omega))
          · have hc1 : 0 < k ∧ OF T o (k - 1) = OF T o k := by omega
            refine x_iload (i := 4) dX3_canGive_74 rfl ?_
            refine y_ic dX3_canGive_76 ⟨by decide, by decide⟩ ?_
            refine x_iadd dX3_canGive_77 ⟨by omega, by omega⟩ ?_
            refine x_goto (tgt := 82) dX3_canGive_78 rfl ?_
            refine x_istore (i := 4) dX3_canGive_82 rfl (Nat.le_of_ble_eq_true rfl) ?_
            refine x_keep [1, 1, 0, 1, 1, 1, 1] ?_
            first | (have z := hc1; exact nx _ (by rw [hcs, if_pos hc1]) (by omega) (by omega)) | (have z := hc0; exact nx _ (by rw [hcs, if_neg hc0]) (by omega) (by omega))
  refine y_aln (i := 0) dX3_canGive_0 hq.at.ne0 rfl rfl ?_
  refine y_getp (z := 1) (v := l) dX3_canGive_1 frX3_25 cfX3 hq.at rfl rfl hpl ?_
  refine y_getp (z := 8) (v := (l + 5)) dX3_canGive_4 frX3_86 cfX2 hLo.at rfl rfl (p2_8 wL hLo) ?_
  refine x_iload_n (i := 2) dX3_canGive_7 rfl rfl ?_
  refine x_zald dX3_canGive_8 (a2_8 hLo) ⟨by omega, by omega⟩ ?_
  refine x_if_ne (tgt := 14) dX3_canGive_9 rfl (fun h9 => ?_) (fun h9 => ?_)
  · refine x_iload_n (i := 2) dX3_canGive_14 rfl rfl ?_
    refine y_ic dX3_canGive_15 ⟨by decide, by decide⟩ ?_
    refine x_imul dX3_canGive_16 ⟨by omega, by omega⟩ ?_
    rw [Int.mul_comm o 3]
    refine x_istore_n (i := 3) dX3_canGive_17 rfl rfl (Nat.le_of_ble_eq_true rfl) ?_
    refine y_ic dX3_canGive_18 ⟨by decide, by decide⟩ ?_
    refine x_istore (i := 4) dX3_canGive_19 rfl (Nat.le_of_ble_eq_true rfl) ?_
    refine y_ic dX3_canGive_21 ⟨by decide, by decide⟩ ?_
    refine x_istore (i := 5) dX3_canGive_22 rfl (Nat.le_of_ble_eq_true rfl) ?_
    refine x_keep [1, 1, 0, 1, 1, 1, 0] ?_
    exact hL (hsp.resolve_right (fun q => by have := q.1; omega)).2 _ 0 (Nat.lt_succ_self _) (Int.le_refl 0) (by omega) ⟨Int.le_refl _, Int.le_refl _⟩ (fun i i0 i1 => by omega)
  · refine y_ic dX3_canGive_12 ⟨by decide, by decide⟩ ?_
    refine x_zret dX3_canGive_13 (by omega) rfl ?_
    exact ⟨rfl, rfl, Or.inr ⟨rfl, fun h => (hsp.resolve_left (fun q => by have := q.1; omega)).2 h.1⟩⟩
end

