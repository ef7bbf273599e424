/-! ===== the class: meeting, days, the end, images ===== -/
section
variable {G : HX} {d : Nat} {I : Mem} {P : Ptr} {T : Tn}
theorem isM46 : isM 46 := Or.inl rfl
theorem c_X11_meet {t : Nat} {a b : Int} (hW : WP P) (hM : MK I P 46 t (t + 13) T) (h1t : P 1 2 = t) (hF : WF T) (hr : RW T (I 47)) : Cv G mX11_meet (d + 8) 1 6 [.inr (.inl 1), .inl a, .inl b] NO I P (qX NO (fun r I' P' => P' = P ∧ ((0 ≤ a ∧ a < T 0 1) ∧ (0 ≤ b ∧ b < T 0 1) ∧ a ≠ b) ∧ r = (meetS T (I 47) a b).1 ∧ I' 47 = (meetS T (I 47) a b).2 ∧ Fc (sM 46) I I') (fun c I' P' => (I' = I ∧ P' = P) ∧ ¬ ((0 ≤ a ∧ a < T 0 1) ∧ (0 ≤ b ∧ b < T 0 1) ∧ a ≠ b) ∧ c = tEN)) := by
  refine x_enter mfX11_meet rfl (Nat.le_of_ble_eq_true rfl) (fun _ => ?_)
  refine y_aln (i := 0) dX11_meet_0 at1.ne0 rfl rfl ?_
  refine x_iload_n (i := 1) dX11_meet_1 rfl rfl ?_
  refine x_iload_n (i := 2) dX11_meet_2 rfl rfl ?_
  refine x_callVI (c_X11_isNoTwo hW hM h1t) dX11_meet_3 lkX11_221 mfX11_isNoTwo cfX11 at1 rfl rfl rfl rfl (Nat.le_of_ble_eq_true rfl) (fun r3 I3 P3 hr3 hf3 => ?_)
  obtain ⟨i3, p3, q3⟩ := hf3
  rw [i3, p3]
  refine x_if_eq (tgt := 20) dX11_meet_6 rfl (fun h6 => ?_) (fun h6 => ?_)
  · refine y_aln (i := 0) dX11_meet_20 at1.ne0 rfl rfl ?_
    refine y_getp (z := 9) (v := 46) dX11_meet_21 frX11_46 cfX11 at1 rfl rfl (wp (v := 46) hW rfl rfl (by decide)) ?_
    refine x_iload_n (i := 1) dX11_meet_24 rfl rfl ?_
    refine x_iload_n (i := 2) dX11_meet_25 rfl rfl ?_
    refine x_callVI (c_X3_encounter hW hM hF hr (by omega) (by omega) (by omega)) dX11_meet_26 lkX11_322 mfX3_encounter cfX3 at46 rfl rfl rfl rfl (Nat.le_of_ble_eq_true rfl) (fun r26 I26 P26 hr26 hf26 => ?_)
    obtain ⟨rfl, p26, o26, f26⟩ := hf26
    refine x_iretX dX11_meet_29 rfl ?_
    exact ⟨rfl, by omega, p26, o26, f26⟩
  · refine xnNW (text := "no such two people") rfl rfl (by decide +kernel) (Nat.le_of_ble_eq_true rfl) (by omega) (by decide) (by decide) dX11_meet_9 dX11_meet_12 dX11_meet_13 dX11_meet_16 dX11_meet_19 ?_
    exact ⟨⟨rfl, rfl⟩, by omega, rfl⟩
theorem c_X11_days {t : Nat} {n : Int} (hW : WP P) (hM : MK I P 46 t (t + 13) T) (h1t : P 1 2 = t) (hF : WF T) (hr : RW T (I 47)) : Cv G mX11_days (d + 8) 1 6 [.inr (.inl 1), .inl n] NO I P (qX NO (fun r I' P' => P' = P ∧ (0 ≤ n ∧ n ≤ 60) ∧ r = (daysS T n (I 47)).1 ∧ I' 47 = (daysS T n (I 47)).2 ∧ Fc (sM 46) I I') (fun c I' P' => (I' = I ∧ P' = P) ∧ ¬ (0 ≤ n ∧ n ≤ 60) ∧ c = tEI)) := by
  refine x_enter mfX11_days rfl (Nat.le_of_ble_eq_true rfl) (fun _ => ?_)
  have hL : ∀ (j : Nat) (k : Int) (K : Mem), (n - k).toNat < j → 0 ≤ k → k ≤ n → n ≤ 60 → K 47 = (daysS T k (I 47)).2 → Fc (sM 46) I K → V G mX11_days (d + 8) 1 6 25 [some (.inr (.inl 1)), some (.inl (n)), some (.inl ((daysS T k (I 47)).1)), some (.inl (k))] [] NO K P (qX NO (fun r I' P' => P' = P ∧ (0 ≤ n ∧ n ≤ 60) ∧ r = (daysS T n (I 47)).1 ∧ I' 47 = (daysS T n (I 47)).2 ∧ Fc (sM 46) I I') (fun c I' P' => (I' = I ∧ P' = P) ∧ ¬ (0 ≤ n ∧ n ≤ 60) ∧ c = tEI)) := by
    intro j
    induction j with
    | zero => intro k K hj; omega
    | succ j ih =>
      intro k K hj hk hk2 hn hK hFc
      have hMK := hM.fq hFc
      have ho := daysS_ok hF hr hk
      have es := daysS_s (T := T) (r := I 47) hk
      have hd := dayS_ok (w := -1) hF ho.1
      refine x_iload_n (i := 3) dX11_days_25 rfl rfl ?_
      refine x_iload_n (i := 1) dX11_days_26 rfl rfl ?_
      refine x_icmp_ge (tgt := 47) dX11_days_27 rfl (fun h27 => ?_) (fun h27 => ?_)
      · refine x_iload_n (i := 2) dX11_days_47 rfl rfl ?_
        refine x_iretX dX11_days_48 rfl ?_
        exact ⟨rfl, by omega, by rw [show n = k by omega], by rw [show n = k by omega]; exact hK, hFc⟩
      · refine x_iload_n (i := 2) dX11_days_30 rfl rfl ?_
        refine y_aln (i := 0) dX11_days_31 at1.ne0 rfl rfl ?_
        refine y_getp (z := 9) (v := 46) dX11_days_32 frX11_46 cfX11 at1 rfl rfl (wp (v := 46) hW rfl rfl (by decide)) ?_
        refine y_ic dX11_days_35 ⟨by decide, by decide⟩ ?_
        refine x_callVI (c_X3_passDay hW hMK hF (by show RW T (K 47); rw [hK]; exact ho.1)) dX11_days_36 lkX11_327 mfX3_passDay cfX3 at46 rfl rfl rfl rfl (Nat.le_of_ble_eq_true rfl) (fun r36 I36 P36 hr36 hf36 => ?_)
        obtain ⟨rfl, p36, o36, f36⟩ := hf36
        rw [show K (46 + 1) = (daysS T k (I 47)).2 from hK] at p36 o36
        rw [p36]
        refine x_iadd dX11_days_39 ⟨by omega, by omega⟩ ?_
        refine x_istore_n (i := 2) dX11_days_40 rfl rfl (Nat.le_of_ble_eq_true rfl) ?_
        refine x_iinc dX11_days_41 rfl ⟨by omega, by omega⟩ rfl (Nat.le_of_ble_eq_true rfl) ?_
        refine x_goto (tgt := 25) dX11_days_44 rfl ?_
        refine x_keep [1, 1, 1, 1] ?_
        have := ih (k + 1) I36 (by omega) (by omega) (by omega) hn (by rw [es]; exact o36) (hFc.tr f36)
        rw [es] at this
        exact this
  refine x_iload_n (i := 1) dX11_days_0 rfl rfl ?_
  refine x_if_lt (tgt := 10) dX11_days_1 rfl (fun h1 => ?_) (fun h1 => ?_)
  · refine xnIW (text := "0 to 60 days go by") rfl rfl (by decide +kernel) (Nat.le_of_ble_eq_true rfl) (by omega) (by decide) (by decide) dX11_days_10 dX11_days_13 dX11_days_14 dX11_days_17 dX11_days_20 ?_
    exact ⟨⟨rfl, rfl⟩, by omega, rfl⟩
  · refine x_iload_n (i := 1) dX11_days_4 rfl rfl ?_
    refine y_bi dX11_days_5 ⟨by decide, by decide⟩ ?_
    refine x_icmp_le (tgt := 21) dX11_days_7 rfl (fun h7 => ?_) (fun h7 => ?_)
    · refine y_ic dX11_days_21 ⟨by decide, by decide⟩ ?_
      refine x_istore_n (i := 2) dX11_days_22 rfl rfl (Nat.le_of_ble_eq_true rfl) ?_
      refine y_ic dX11_days_23 ⟨by decide, by decide⟩ ?_
      refine x_istore_n (i := 3) dX11_days_24 rfl rfl (Nat.le_of_ble_eq_true rfl) ?_
      refine x_keep [1, 1, 1, 1] ?_
      exact hL _ 0 _ (Nat.lt_succ_self _) (by omega) (by omega) (by omega) rfl Fc.rf
    · refine xnIW (text := "0 to 60 days go by") rfl rfl (by decide +kernel) (Nat.le_of_ble_eq_true rfl) (by omega) (by decide) (by decide) dX11_days_10 dX11_days_13 dX11_days_14 dX11_days_17 dX11_days_20 ?_
      exact ⟨⟨rfl, rfl⟩, by omega, rfl⟩
theorem c_X11_end {t : Nat} {w : Int} (hW : WP P) (hM : MK I P 46 t (t + 13) T) (h1t : P 1 2 = t) (hF : WF T) (hr : RW T (I 47)) : Cv G mX11_end (d + 8) 1 6 [.inr (.inl 1), .inl w] NO I P (qX NO (fun r I' P' => (PK P P' ∧ Fc (sM 48) I I') ∧ (w = 0 ∨ w = 1 ∨ w = 2 ∨ (3 ≤ w ∧ w - 3 < T 0 1)) ∧ r = endA T (I 47) w) (fun c I' P' => (I' = I ∧ P' = P) ∧ ¬ (w = 0 ∨ w = 1 ∨ w = 2 ∨ (3 ≤ w ∧ w - 3 < T 0 1)) ∧ c = tEN)) := by
  obtain ⟨hq, hTo, hLo, hpt, hpl, hca, hcl⟩ := id hM
  have wT := wp_T hW hTo
  have e0 : I t 0 = T 0 1 := hca.1
  have f1 := hF.1
  refine x_enter mfX11_end rfl (Nat.le_of_ble_eq_true rfl) (fun _ => ?_)
  have h39 : ∀ (K : Mem) (R : Ptr), PK P R → MK K R 48 t (t + 13) T → RE (I 47) (K 49) → Fc (sM 48) I K → (w = 0 ∨ w = 1 ∨ w = 2 ∨ (3 ≤ w ∧ w - 3 < T 0 1)) → V G mX11_end (d + 8) 1 6 39 [some (.inr (.inl 1)), some (.inl (w)), none] [] NO K R (qX NO (fun r I' P' => (PK P P' ∧ Fc (sM 48) I I') ∧ (w = 0 ∨ w = 1 ∨ w = 2 ∨ (3 ≤ w ∧ w - 3 < T 0 1)) ∧ r = endA T (I 47) w) (fun c I' P' => (I' = I ∧ P' = P) ∧ ¬ (w = 0 ∨ w = 1 ∨ w = 2 ∨ (3 ≤ w ∧ w - 3 < T 0 1)) ∧ c = tEN)) := fun K R hP hM48 kre kF hw => by
    have hWR := hP.1
    have ho := endN_ok hF 60 _ (kre.rw hr)
    have hre := RE.endd hF (f := 60) kre
    have eA := RE.enda (w := w) kre hF hw
    unfold endA at eA
    refine y_aln (i := 0) dX11_end_39 at1.ne0 rfl rfl ?_
    refine y_getp (z := 10) (v := 48) dX11_end_40 frX11_50 cfX11 at1 rfl rfl (wp (v := 48) hWR rfl rfl (by decide)) ?_
    refine x_callVI (c_X3_passAllDays hWR hM48 hF (kre.rw hr)) dX11_end_43 lkX11_332 mfX3_passAllDays cfX3 at48 rfl rfl rfl rfl (Nat.le_of_ble_eq_true rfl) (fun r43 I43 P43 hr43 hf43 => ?_)
    obtain ⟨rfl, r43, hI43, f43⟩ := hf43
    have hM43 := hM48.fq f43
    have rc43 : RC (I43 (48 + 1)) := by rw [hI43]; exact ho.1.rc
    refine x_istore_n (i := 2) dX11_end_46 rfl rfl (Nat.le_of_ble_eq_true rfl) ?_
    refine x_iload_n (i := 1) dX11_end_47 rfl rfl ?_
    refine y_tsw (td := 94) dX11_end_48 (fun j off tgt hx48 ho48 ht48 hle48 => ?_) (by decide) (by decide) (by decide) (fun h48 => ?_)
    · have hj48 : j = 0 ∨ j = 1 ∨ j = 2 := by omega
      rcases hj48 with rfl | rfl | rfl
      · have eo48 : off = 28 := Option.some.inj (ho48.symm.trans rfl)
        obtain rfl : tgt = 76 := by omega
        refine x_iload_n (i := 2) dX11_end_76 rfl rfl ?_
        refine x_iretX dX11_end_77 rfl ?_
        exact ⟨⟨hP, kF.tr f43⟩, hw, by unfold endA; rw [if_pos (by omega), r43]; exact hre.1.symm⟩
      · have eo48 : off = 30 := Option.some.inj (ho48.symm.trans rfl)
        obtain rfl : tgt = 78 := by omega
        refine y_aln (i := 0) dX11_end_78 at1.ne0 rfl rfl ?_
        refine y_getp (z := 10) (v := 48) dX11_end_79 frX11_50 cfX11 at1 rfl rfl (wp (v := 48) hWR rfl rfl (by decide)) ?_
        refine x_callVI (c_X3_things hWR hM43 hF rc43) dX11_end_82 lkX11_159 mfX3_things cfX3 at48 rfl rfl rfl rfl (Nat.le_of_ble_eq_true rfl) (fun r82 I82 P82 hr82 hf82 => ?_)
        obtain ⟨i82, p82, q82⟩ := hf82
        rw [i82, p82, q82]
        refine x_iretX dX11_end_85 rfl ?_
        exact ⟨⟨hP, kF.tr f43⟩, hw, by unfold endA; rw [if_neg (by omega), if_pos (by omega), hI43]; exact (hre.2.all hF).symm⟩
      · have eo48 : off = 38 := Option.some.inj (ho48.symm.trans rfl)
        obtain rfl : tgt = 86 := by omega
        refine y_aln (i := 0) dX11_end_86 at1.ne0 rfl rfl ?_
        refine y_getp (z := 10) (v := 48) dX11_end_87 frX11_50 cfX11 at1 rfl rfl (wp (v := 48) hWR rfl rfl (by decide)) ?_
        refine x_callVI (c_X3_allWorth hWR hM43 hF rc43) dX11_end_90 lkX11_187 mfX3_allWorth cfX3 at48 rfl rfl rfl rfl (Nat.le_of_ble_eq_true rfl) (fun r90 I90 P90 hr90 hf90 => ?_)
        obtain ⟨i90, p90, q90⟩ := hf90
        rw [i90, p90, q90]
        refine x_iretX dX11_end_93 rfl ?_
        exact ⟨⟨hP, kF.tr f43⟩, hw, by unfold endA; rw [if_neg (by omega), if_neg (by omega), if_pos (by omega), hI43]; exact (hre.2.worth hF).symm⟩
    · refine y_aln (i := 0) dX11_end_94 at1.ne0 rfl rfl ?_
      refine y_getp (z := 10) (v := 48) dX11_end_95 frX11_50 cfX11 at1 rfl rfl (wp (v := 48) hWR rfl rfl (by decide)) ?_
      refine x_iload_n (i := 1) dX11_end_98 rfl rfl ?_
      refine y_ic dX11_end_99 ⟨by decide, by decide⟩ ?_
      refine x_isub dX11_end_100 ⟨by omega, by omega⟩ ?_
      refine x_callVI (c_X3_bagWorth hWR hM43 hF rc43 (by omega)) dX11_end_101 lkX11_196 mfX3_bagWorth cfX3 at48 rfl rfl rfl rfl (Nat.le_of_ble_eq_true rfl) (fun r101 I101 P101 hr101 hf101 => ?_)
      obtain ⟨i101, p101, q101⟩ := hf101
      rw [i101, p101, q101]
      refine x_iretX dX11_end_104 rfl ?_
      exact ⟨⟨hP, kF.tr f43⟩, hw, by unfold endA; rw [if_neg (by omega), if_neg (by omega), if_neg (by omega), hI43]; exact (hre.2.bag hF (by omega)).symm⟩
  refine x_iload_n (i := 1) dX11_end_0 rfl rfl ?_
  refine x_if_lt (tgt := 17) dX11_end_1 rfl (fun h1 => ?_) (fun h1 => ?_)
  · refine xnNW (text := "nothing such of the end") rfl rfl (by decide +kernel) (Nat.le_of_ble_eq_true rfl) (by omega) (by decide) (by decide) dX11_end_17 dX11_end_20 dX11_end_21 dX11_end_24 dX11_end_27 ?_
    exact ⟨⟨rfl, rfl⟩, by omega, rfl⟩
  · refine x_iload_n (i := 1) dX11_end_4 rfl rfl ?_
    refine y_ic dX11_end_5 ⟨by decide, by decide⟩ ?_
    refine y_aln (i := 0) dX11_end_6 at1.ne0 rfl rfl ?_
    refine y_getp (z := 2) (v := t) dX11_end_7 frX11_16 cfX11 at1 rfl rfl h1t ?_
    refine y_geti (z := 0) dX11_end_10 frX11_134 cfX10 hTo.at rfl rfl ?_
    refine x_iadd dX11_end_13 ⟨by omega, by omega⟩ ?_
    refine x_icmp_lt (tgt := 28) dX11_end_14 rfl (fun h14 => ?_) (fun h14 => ?_)
    · refine y_aln (i := 0) dX11_end_28 at1.ne0 rfl rfl ?_
      refine y_getp (z := 10) (v := 48) dX11_end_29 frX11_50 cfX11 at1 rfl rfl (wp (v := 48) hW rfl rfl (by decide)) ?_
      refine y_aln (i := 0) dX11_end_32 at1.ne0 rfl rfl ?_
      refine y_getp (z := 9) (v := 46) dX11_end_33 frX11_46 cfX11 at1 rfl rfl (wp (v := 46) hW rfl rfl (by decide)) ?_
      refine x_callVV (c_X3_take (q := 48) hW isM48 hM (by decide)) dX11_end_36 lkX11_232 mfX3_take cfX3 at48 rfl rfl rfl rfl (Nat.le_of_ble_eq_true rfl) (fun n36 I36 P36 hf36 => ?_)
      obtain ⟨rfl, rfl, hI36⟩ := hf36
      have F36 : Fc (sM 48) I I36 := by rw [hI36]; exact Fc.rf.ua (Or.inr rfl)
      obtain ⟨y1, y2, y3⟩ := trl hW hM isM48 (by decide) F36
      refine x_keep [1, 1, 0] ?_
      exact h39 _ _ y1 y2 (fun c c0 c1 => by rw [hI36]; show _ = (if 0 ≤ c ∧ c < 48 then I 47 c else I 49 c); rw [if_pos ⟨c0, c1⟩]) F36 (by omega)
    · refine xnNW (text := "nothing such of the end") rfl rfl (by decide +kernel) (Nat.le_of_ble_eq_true rfl) (by omega) (by decide) (by decide) dX11_end_17 dX11_end_20 dX11_end_21 dX11_end_24 dX11_end_27 ?_
      exact ⟨⟨rfl, rfl⟩, by omega, rfl⟩
theorem c_X11_image (hW : WP P) : Cv G mX11_image (d + 2) 0 0 [.inr (.inl 1)] NO I P (qV (fun n I' P' => n = NO ∧ P' = P ∧ (∀ a, a ≠ 85 → a ≠ 90 → I' a = I a) ∧ (∀ k, k ≠ 9 → I' 85 k = I 85 k) ∧ I' 85 9 = 1 ∧ RE (I 47) (I' 90))) := by
  refine x_enter mfX11_image rfl (Nat.le_of_ble_eq_true rfl) (fun _ => ?_)
  refine y_aln (i := 0) dX11_image_0 at1.ne0 rfl rfl ?_
  refine y_getp (z := 9) (v := 46) dX11_image_1 frX11_46 cfX11 at1 rfl rfl (wp (v := 46) hW rfl rfl (by decide)) ?_
  refine y_getp (z := 2) (v := 47) dX11_image_4 frX11_180 cfX3 at46 rfl rfl (wp (v := 47) hW rfl rfl (by decide)) ?_
  refine y_ic dX11_image_7 ⟨by decide, by decide⟩ ?_
  refine y_aln (i := 0) dX11_image_8 at1.ne0 rfl rfl ?_
  refine y_getp (z := 17) (v := 85) dX11_image_9 frX11_100 cfX11 at1 rfl rfl (wp (v := 85) hW rfl rfl (by decide)) ?_
  refine y_getp (z := 8) (v := 90) dX11_image_12 frX11_412 cfX1 at85 rfl rfl (wp (v := 90) hW rfl rfl (by decide)) ?_
  refine y_ic dX11_image_15 ⟨by decide, by decide⟩ ?_
  refine y_bi dX11_image_16 ⟨by decide, by decide⟩ ?_
  refine x_copy (own := "") dX11_image_18 jkX11_415 rfl ar47 ar90 (by omega) (by omega) (by omega) (by omega) (by omega) rfl (by omega) ?_
  refine y_aln (i := 0) dX11_image_21 at1.ne0 rfl rfl ?_
  refine y_getp (z := 17) (v := 85) dX11_image_22 frX11_100 cfX11 at1 rfl rfl (wp (v := 85) hW rfl rfl (by decide)) ?_
  refine y_ic dX11_image_25 ⟨by decide, by decide⟩ ?_
  refine y_putz (z := 9) dX11_image_26 frX11_421 cfX1 at85 rfl rfl rfl (by omega) ?_
  refine x_vret dX11_image_29 rfl ?_
  refine ⟨rfl, rfl, fun a h1 h2 => by rw [uI_ne h1, uA_ne h2], fun k hk => by rw [uI_eq, u1_ne hk, uA_ne (by decide)], by rw [uI_eq, u1_eq], fun x x0 x1 => ?_⟩
  rw [uI_ne (by decide), uA_eq, if_pos ⟨x0, by omega⟩, Int.sub_zero, Int.zero_add]
theorem c_X11_restore (hW : WP P) : Cv G mX11_restore (d + 2) 0 0 [.inr (.inl 1)] NO I P (qI NO (fun r I' P' => P' = P ∧ ((I 85 9 = 0 ∧ r = 0 ∧ I' = I) ∨ (I 85 9 ≠ 0 ∧ r = 1 ∧ (∀ a, a ≠ 47 → I' a = I a) ∧ RE (I 90) (I' 47))))) := by
  refine x_enter mfX11_restore rfl (Nat.le_of_ble_eq_true rfl) (fun _ => ?_)
  refine y_aln (i := 0) dX11_restore_0 at1.ne0 rfl rfl ?_
  refine y_getp (z := 17) (v := 85) dX11_restore_1 frX11_100 cfX11 at1 rfl rfl (wp (v := 85) hW rfl rfl (by decide)) ?_
  refine y_geti (z := 9) dX11_restore_4 frX11_421 cfX1 at85 rfl rfl ?_
  refine x_if_ne (tgt := 12) dX11_restore_7 rfl (fun h7 => ?_) (fun h7 => ?_)
  · refine y_aln (i := 0) dX11_restore_12 at1.ne0 rfl rfl ?_
    refine y_getp (z := 17) (v := 85) dX11_restore_13 frX11_100 cfX11 at1 rfl rfl (wp (v := 85) hW rfl rfl (by decide)) ?_
    refine y_getp (z := 8) (v := 90) dX11_restore_16 frX11_412 cfX1 at85 rfl rfl (wp (v := 90) hW rfl rfl (by decide)) ?_
    refine y_ic dX11_restore_19 ⟨by decide, by decide⟩ ?_
    refine y_aln (i := 0) dX11_restore_20 at1.ne0 rfl rfl ?_
    refine y_getp (z := 9) (v := 46) dX11_restore_21 frX11_46 cfX11 at1 rfl rfl (wp (v := 46) hW rfl rfl (by decide)) ?_
    refine y_getp (z := 2) (v := 47) dX11_restore_24 frX11_180 cfX3 at46 rfl rfl (wp (v := 47) hW rfl rfl (by decide)) ?_
    refine y_ic dX11_restore_27 ⟨by decide, by decide⟩ ?_
    refine y_bi dX11_restore_28 ⟨by decide, by decide⟩ ?_
    refine x_copy (own := "") dX11_restore_30 jkX11_415 rfl ar90 ar47 (by omega) (by omega) (by omega) (by omega) (by omega) rfl (by omega) ?_
    refine y_ic dX11_restore_33 ⟨by decide, by decide⟩ ?_
    refine x_zret dX11_restore_34 (by omega) rfl ?_
    refine ⟨rfl, Or.inr ⟨by omega, rfl, fun a ha => by rw [uA_ne ha], fun x x0 x1 => ?_⟩⟩
    rw [uA_eq, if_pos ⟨x0, by omega⟩, Int.sub_zero, Int.zero_add]
  · refine y_ic dX11_restore_10 ⟨by decide, by decide⟩ ?_
    refine x_zret dX11_restore_11 (by omega) rfl ?_
    exact ⟨rfl, Or.inl ⟨by omega, rfl, rfl⟩⟩
theorem c_X11_freely {t : Nat} (hW : WP P) (hM : MK I P 46 t (t + 13) T) (h1t : P 1 2 = t) (hF : WF T) (hr : RW T (I 47)) : Cv G mX11_freely (d + 2) 0 0 [.inr (.inl 1)] NO I P (qI NO (fun r I' P' => I' = I ∧ P' = P ∧ r = freeS T (I 47))) := by
  obtain ⟨hq, hTo, hLo, hpt, hpl, hca, hcl⟩ := id hM
  have wT := wp_T hW hTo
  have e1 : I t 1 = T 0 2 := hca.2.1
  have f1 := hF.1
  have f2 := hF.2.1
  have f10 := hF.2.2.2.2.2.2.2.2.2.1
  have f11 := hF.2.2.2.2.2.2.2.2.2.2.1
  have hA : 0 ≤ sumN (fun p => sumN (fun k => T 4 (18 * p + 3 * k + 2)) (T 3 p)) (T 0 1) ∧ sumN (fun p => sumN (fun k => T 4 (18 * p + 3 * k + 2)) (T 3 p)) (T 0 1) ≤ 594 * T 0 1 :=
    (by
      have := sumN_bd (f := fun p => sumN (fun k => T 4 (18 * p + 3 * k + 2)) (T 3 p)) (n := T 0 1) (lo := 0) (hi := 594) f1.1 (fun p p0 p1 => by
        have c10 := f10 p p0 p1
        have := sumN_bd (f := fun k => T 4 (18 * p + 3 * k + 2)) (n := T 3 p) (lo := 0) (hi := 99) c10.1 (fun k k0 k1 => by
          have := f11 p k p0 p1 k0 k1
          omega)
        omega)
      omega)
  refine x_enter mfX11_freely rfl (Nat.le_of_ble_eq_true rfl) (fun _ => ?_)
  have hL : ∀ (j : Nat) (s v : Int), (T 0 2 - s).toNat < j → 0 ≤ s → s ≤ T 0 2 → v = sumN (fun s => leftS T (I 47) s * dearS T s * 100) s → 0 ≤ v → v ≤ s * 57024000 → V G mX11_freely (d + 2) 0 0 4 [some (.inr (.inl 1)), some (.inl (v)), some (.inl (s))] [] NO I P (qI NO (fun r I' P' => I' = I ∧ P' = P ∧ r = freeS T (I 47))) := by
    intro j
    induction j with
    | zero => intro s v hj; omega
    | succ j ih =>
      intro s v hj hs hs2 hv0 hv1 hv2
      refine x_iload_n (i := 2) dX11_freely_4 rfl rfl ?_
      refine y_aln (i := 0) dX11_freely_5 at1.ne0 rfl rfl ?_
      refine y_getp (z := 2) (v := t) dX11_freely_6 frX11_16 cfX11 at1 rfl rfl h1t ?_
      refine y_geti (z := 1) dX11_freely_9 frX11_137 cfX10 hTo.at rfl rfl ?_
      refine x_icmp_ge (tgt := 44) dX11_freely_12 rfl (fun h12 => ?_) (fun h12 => ?_)
      · refine x_iload_n (i := 1) dX11_freely_44 rfl rfl ?_
        refine y_aln (i := 0) dX11_freely_45 at1.ne0 rfl rfl ?_
        refine y_getp (z := 2) (v := t) dX11_freely_46 frX11_16 cfX11 at1 rfl rfl h1t ?_
        refine x_callVI (c_X10_allPairs hW hTo hca hF) dX11_freely_49 lkX11_317 mfX10_allPairs cfX10 hTo.at rfl rfl rfl rfl (Nat.le_of_ble_eq_true rfl) (fun r49 I49 P49 hr49 hf49 => ?_)
        obtain ⟨i49, p49, q49⟩ := hf49
        rw [i49, p49, q49]
        refine y_bi dX11_freely_52 ⟨by decide, by decide⟩ ?_
        refine x_imul dX11_freely_54 ⟨by omega, by omega⟩ ?_
        refine x_iadd dX11_freely_55 ⟨by omega, by omega⟩ ?_
        refine x_iret dX11_freely_56 rfl ?_
        exact ⟨rfl, rfl, by rw [free_c, hv0, show s = T 0 2 by omega]⟩
      · have hl := leftS_bd (s := s) hF hr.rc (by omega)
        have hd := dear_bd (s := s) hF (by omega)
        have hp : 0 ≤ leftS T (I 47) s * dearS T s ∧ leftS T (I 47) s * dearS T s ≤ 5760 * 99 := ⟨Int.mul_nonneg hl.1 hd.1, Int.mul_le_mul hl.2 hd.2 hd.1 (by decide)⟩
        refine x_iload_n (i := 1) dX11_freely_15 rfl rfl ?_
        refine y_aln (i := 0) dX11_freely_16 at1.ne0 rfl rfl ?_
        refine y_getp (z := 9) (v := 46) dX11_freely_17 frX11_46 cfX11 at1 rfl rfl (wp (v := 46) hW rfl rfl (by decide)) ?_
        refine x_iload_n (i := 2) dX11_freely_20 rfl rfl ?_
        refine x_callVI (c_X3_thingsOf hW hM hF hr.rc (by omega)) dX11_freely_21 lkX11_205 mfX3_thingsOf cfX3 at46 rfl rfl rfl rfl (Nat.le_of_ble_eq_true rfl) (fun r21 I21 P21 hr21 hf21 => ?_)
        obtain ⟨i21, p21, q21⟩ := hf21
        rw [i21, p21, q21]
        rw [show I (46 + 1) = I 47 from rfl]
        refine y_aln (i := 0) dX11_freely_24 at1.ne0 rfl rfl ?_
        refine y_getp (z := 2) (v := t) dX11_freely_25 frX11_16 cfX11 at1 rfl rfl h1t ?_
        refine x_iload_n (i := 2) dX11_freely_28 rfl rfl ?_
        refine x_callVI (c_X10_dearest hW hTo hca hF (by omega)) dX11_freely_29 lkX11_314 mfX10_dearest cfX10 hTo.at rfl rfl rfl rfl (Nat.le_of_ble_eq_true rfl) (fun r29 I29 P29 hr29 hf29 => ?_)
        obtain ⟨i29, p29, q29⟩ := hf29
        rw [i29, p29, q29]
        refine x_imul dX11_freely_32 ⟨by omega, by omega⟩ ?_
        refine y_bi dX11_freely_33 ⟨by decide, by decide⟩ ?_
        refine x_imul dX11_freely_35 ⟨by omega, by omega⟩ ?_
        refine x_iadd dX11_freely_36 ⟨by omega, by omega⟩ ?_
        refine x_istore_n (i := 1) dX11_freely_37 rfl rfl (Nat.le_of_ble_eq_true rfl) ?_
        refine x_iinc dX11_freely_38 rfl ⟨by omega, by omega⟩ rfl (Nat.le_of_ble_eq_true rfl) ?_
        refine x_goto (tgt := 4) dX11_freely_41 rfl ?_
        refine x_keep [1, 1, 1] ?_
        exact ih _ _ (by omega) (by omega) (by omega) (by rw [sumN_s _ hs, hv0]) (by omega) (by omega)
  refine y_ic dX11_freely_0 ⟨by decide, by decide⟩ ?_
  refine x_istore_n (i := 1) dX11_freely_1 rfl rfl (Nat.le_of_ble_eq_true rfl) ?_
  refine y_ic dX11_freely_2 ⟨by decide, by decide⟩ ?_
  refine x_istore_n (i := 2) dX11_freely_3 rfl rfl (Nat.le_of_ble_eq_true rfl) ?_
  refine x_keep [1, 1, 1] ?_
  exact hL _ _ _ (Nat.lt_succ_self _) (by omega) (by omega) (sumN_0 _).symm (by omega) (by omega)
theorem c_X11_ahead {t : Nat} {p : Int} (hW : WP P) (hM : MK I P 46 t (t + 13) T) (h1t : P 1 2 = t) (hF : WF T) (hr : RW T (I 47)) : Cv G mX11_ahead (d + 30) 1 6 [.inr (.inl 1), .inl p] NO I P (qX NO (fun r I' P' => (PK P P' ∧ Fc (sF 0) I I') ∧ (0 ≤ p ∧ p < T 0 1) ∧ ∃ R, RE (I 47) R ∧ r = if (ahS T (T 0 6).toNat 0 R).2 ≤ 3000 then (ahS T (T 0 6).toNat 0 R).1 p else -2) (fun c I' P' => (I' = I ∧ P' = P) ∧ ¬ (0 ≤ p ∧ p < T 0 1) ∧ c = tEN)) := by
  have f1 := hF.1
  have f6 := hF.2.2.2.2.2.1
  have hre : RE (I 47) (fun j => if 0 ≤ j ∧ j < 48 then I (46 + 1) j else I 66 j) := fun c c0 c1 => by
    show _ = if 0 ≤ c ∧ c < 48 then I (46 + 1) c else I 66 c
    rw [if_pos ⟨c0, c1⟩]
  have hPK : PK P (uP (uP P 65 0 t) 65 1 (t + 13)) := PK.mk hW (Or.inr (Or.inr (Or.inr rfl))) (by decide)
  have hfo := c_X0_foresee (G := G) (N := (T 0 6).toNat) (z := d + 24 - 2 * (T 0 6).toNat + 2 * (T 0 6).toNat) hW hM hF (hre.rw hr) (by decide) (fun P' hW' => c_X0_thinkN hW' hF _ _ _ (by omega) (Int.le_refl 0))
  rw [show d + 24 - 2 * (T 0 6).toNat + 2 * (T 0 6).toNat + 5 = d + 29 by omega] at hfo
  refine x_enter mfX11_ahead rfl (Nat.le_of_ble_eq_true rfl) (fun _ => ?_)
  have h29 : ∀ (K : Mem) (R : Ptr) (r : Int) (R0 : Rw), PK P R → RE (I 47) R0 → Fc (sF 0) I K → (0 ≤ p ∧ p < T 0 1) → ((r = 1 ∧ (ahS T (T 0 6).toNat 0 R0).2 ≤ 3000 ∧ ∀ p, 0 ≤ p → p < T 0 1 → K 68 p = (ahS T (T 0 6).toNat 0 R0).1 p) ∨ (r = 0 ∧ 3000 < (ahS T (T 0 6).toNat 0 R0).2)) → V G mX11_ahead (d + 30) 1 6 29 [some (.inr (.inl 1)), some (.inl (p))] [.inl r] NO K R (qX NO (fun r I' P' => (PK P P' ∧ Fc (sF 0) I I') ∧ (0 ≤ p ∧ p < T 0 1) ∧ ∃ R, RE (I 47) R ∧ r = if (ahS T (T 0 6).toNat 0 R).2 ≤ 3000 then (ahS T (T 0 6).toNat 0 R).1 p else -2) (fun c I' P' => (I' = I ∧ P' = P) ∧ ¬ (0 ≤ p ∧ p < T 0 1) ∧ c = tEN)) := fun K R r R0 hP hR hK hp hrr => by
    have hWR := hP.1
    refine x_if_eq (tgt := 46) dX11_ahead_29 rfl (fun h29 => ?_) (fun h29 => ?_)
    · refine y_bi dX11_ahead_46 ⟨by decide, by decide⟩ ?_
      refine x_iretX dX11_ahead_48 rfl ?_
      first | (rcases hrr with ⟨q1, q2, q3⟩ | ⟨q1, q2⟩; exact ⟨⟨hP, hK⟩, hp, R0, hR, (by rw [if_pos q2]; exact q3 p hp.1 hp.2)⟩; exact absurd q1 h29) | (rcases hrr with ⟨q1, q2, q3⟩ | ⟨q1, q2⟩; omega; exact ⟨⟨hP, hK⟩, hp, R0, hR, (by rw [if_neg (by omega)])⟩)
    · refine y_aln (i := 0) dX11_ahead_32 at1.ne0 rfl rfl ?_
      refine y_getp (z := 13) (v := 64) dX11_ahead_33 frX11_72 cfX11 at1 rfl rfl (wp (v := 64) hWR rfl rfl (by decide)) ?_
      refine y_getp (z := 3) (v := 67) dX11_ahead_36 frX11_359 cfX0 at64 rfl rfl (wp (v := 67) hWR rfl rfl (by decide)) ?_
      refine y_ic dX11_ahead_39 ⟨by decide, by decide⟩ ?_
      refine x_aald dX11_ahead_40 ar67 ⟨by omega, by omega⟩ (eR_p (l := 0) hWR ⟨by decide, by decide⟩) (by decide) ?_
      refine x_iload_n (i := 1) dX11_ahead_41 rfl rfl ?_
      refine x_iald dX11_ahead_42 ar68 ⟨by omega, by omega⟩ ?_
      refine x_goto (tgt := 48) dX11_ahead_43 rfl ?_
      refine x_iretX dX11_ahead_48 rfl ?_
      first | (rcases hrr with ⟨q1, q2, q3⟩ | ⟨q1, q2⟩; exact ⟨⟨hP, hK⟩, hp, R0, hR, (by rw [if_pos q2]; exact q3 p hp.1 hp.2)⟩; exact absurd q1 h29) | (rcases hrr with ⟨q1, q2, q3⟩ | ⟨q1, q2⟩; omega; exact ⟨⟨hP, hK⟩, hp, R0, hR, (by rw [if_neg (by omega)])⟩)
  refine y_aln (i := 0) dX11_ahead_0 at1.ne0 rfl rfl ?_
  refine x_iload_n (i := 1) dX11_ahead_1 rfl rfl ?_
  refine x_callVI (c_X11_isNobody hW hM h1t) dX11_ahead_2 lkX11_190 mfX11_isNobody cfX11 at1 rfl rfl rfl rfl (Nat.le_of_ble_eq_true rfl) (fun r2 I2 P2 hr2 hf2 => ?_)
  obtain ⟨i2, p2, q2⟩ := hf2
  rw [i2, p2]
  refine x_if_eq (tgt := 18) dX11_ahead_5 rfl (fun h5 => ?_) (fun h5 => ?_)
  · refine y_aln (i := 0) dX11_ahead_18 at1.ne0 rfl rfl ?_
    refine y_getp (z := 13) (v := 64) dX11_ahead_19 frX11_72 cfX11 at1 rfl rfl (wp (v := 64) hW rfl rfl (by decide)) ?_
    refine y_aln (i := 0) dX11_ahead_22 at1.ne0 rfl rfl ?_
    refine y_getp (z := 9) (v := 46) dX11_ahead_23 frX11_46 cfX11 at1 rfl rfl (wp (v := 46) hW rfl rfl (by decide)) ?_
    refine x_callVI (hfo) dX11_ahead_26 lkX11_355 mfX0_foresee cfX0 at64 rfl rfl rfl rfl (Nat.le_of_ble_eq_true rfl) (fun r26 I26 P26 hr26 hf26 => ?_)
    obtain ⟨rfl, R0, hR0, -, F26, q26⟩ := hf26
    refine x_keep [1, 1] ?_
    exact h29 _ _ _ R0 hPK (by rw [hR0]; exact hre) F26 (by omega) q26
  · refine xnN (text := "no such person") rfl rfl (by decide +kernel) (Nat.le_of_ble_eq_true rfl) (by omega) (by decide) (by decide) dX11_ahead_8 dX11_ahead_11 dX11_ahead_12 dX11_ahead_14 dX11_ahead_17 ?_
    exact ⟨⟨rfl, rfl⟩, by omega, rfl⟩
end

