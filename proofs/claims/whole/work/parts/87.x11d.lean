/-! ===== the class: laws, staying, running ===== -/
theorem CA.f50 {I J : Mem} {t : Nat} {T : Tn} (h : CA I t T) (ht : isT NO t) (hn : ∀ a, 3 ≤ a → a ≤ 40 → J a = I a) : CA J t T := by
  have h1 := ht.1
  unfold CA
  rw [hn t (by omega) (by omega), hn (t + 2) (by omega) (by omega), hn (t + 3) (by omega) (by omega), hn (t + 4) (by omega) (by omega), hn (t + 5) (by omega) (by omega), hn (t + 6) (by omega) (by omega), hn (t + 7) (by omega) (by omega), hn (t + 8) (by omega) (by omega), hn (t + 9) (by omega) (by omega), hn (t + 10) (by omega) (by omega), hn (t + 11) (by omega) (by omega), hn (t + 12) (by omega) (by omega)]
  exact h
theorem CL.f50 {I J : Mem} {l : Nat} {T : Tn} (h : CL I l T) (hl : 3 ≤ l ∧ l + 5 ≤ 40) (hn : ∀ a, 3 ≤ a → a ≤ 40 → J a = I a) : CL J l T := by
  unfold CL CLo
  rw [hn l (by omega) (by omega), hn (l + 1) (by omega) (by omega), hn (l + 2) (by omega) (by omega), hn (l + 3) (by omega) (by omega), hn (l + 4) (by omega) (by omega), hn (l + 5) (by omega) (by omega)]
  exact h
theorem MK.f50 {I J : Mem} {P P' : Ptr} {q t : Nat} {T : Tn} (h : MK I P q t (t + 13) T) (hP : P' q = P q) (hn : ∀ a, 3 ≤ a → a ≤ 40 → J a = I a) : MK J P' q t (t + 13) T := by
  obtain ⟨hq, hTo, hLo, hpt, hpl, hca, hcl⟩ := h
  have h1 := hTo.1
  exact ⟨hq, hTo, hLo, by rw [hP]; exact hpt, by rw [hP]; exact hpl, hca.f50 hTo hn, hcl.f50 (by omega) hn⟩
theorem isL50 : isL NO 50 := ⟨Or.inr (Or.inr rfl), by decide⟩
def sGL : Nat → Prop := fun a => 48 ≤ a ∧ a ≤ 55
theorem MK.gl {I J : Mem} {P P' : Ptr} {t : Nat} {T : Tn} (h : MK I P 46 t (t + 13) T) (hP : PK P P') (hf : Fc sGL I J) : MK J P' 46 t (t + 13) T := h.f50 hP.2.2 (fun a a0 a1 => hf a (by unfold sGL; omega))
section
variable {G : HX} {d : Nat} {I : Mem} {P : Ptr} {T : Tn}
theorem c_X11_goUnderLaw {t : Nat} {l : Int} (hW : WP P) (hM : MK I P 46 t (t + 13) T) (h1t : P 1 2 = t) (hF : WF T) (hr : RW T (I 47)) (hl : 0 ≤ l ∧ l ≤ 5) : Cv G mX11_goUnderLaw (d + 5) 0 0 [.inr (.inl 1), .inl l] NO I P (qV (fun n' I' P' => n' = NO ∧ PK P P' ∧ MK I' P' 48 t 50 (lawT T l) ∧ Fc sGL I I' ∧ ∃ R, RE (I 47) R ∧ I' 49 = (endN (lawT T l) 60 R).2)) := by
  obtain ⟨hq, hTo, hLo, hpt, hpl, hca, hcl⟩ := id hM
  have wT := wp_T hW hTo
  have hFl := lawT_WF hF hl
  have ht1 := hTo.1
  refine x_enter mfX11_goUnderLaw rfl (Nat.le_of_ble_eq_true rfl) (fun _ => ?_)
  have h73 : ∀ (K : Mem) (R : Ptr), PK P R → R 48 0 = t → CA K t T → CL K 50 (lawT T l) → RE (I 47) (K 49) → Fc sGL I K → V G mX11_goUnderLaw (d + 5) 0 0 73 [some (.inr (.inl 1)), none] [] NO K R (qV (fun n' I' P' => n' = NO ∧ PK P P' ∧ MK I' P' 48 t 50 (lawT T l) ∧ Fc sGL I I' ∧ ∃ R, RE (I 47) R ∧ I' 49 = (endN (lawT T l) 60 R).2)) := fun K R hP hR0 kA kL kre kF => by
    have hWR := hP.1
    have hW2 : WP (uP R 48 1 50) := WP.up (k := 1) hWR (sp_m0 isM48).2
    have hP2 : PK P (uP R 48 1 50) := ⟨hW2, by rw [uP_ne (by decide)]; exact hP.2.1, by rw [uP_ne (by decide)]; exact hP.2.2⟩
    have hM2 : MK K (uP R 48 1 50) 48 t 50 (lawT T l) := ⟨isM48, hTo, isL50, by rw [uP_eq, u1_ne (by decide)]; exact hR0, by rw [uP_eq, u1_eq], kA.law, kL⟩
    have h84 : V G mX11_goUnderLaw (d + 5) 0 0 84 [some (.inr (.inl 1)), none] [] NO K (uP R 48 1 50) (qV (fun n' I' P' => n' = NO ∧ PK P P' ∧ MK I' P' 48 t 50 (lawT T l) ∧ Fc sGL I I' ∧ ∃ R, RE (I 47) R ∧ I' 49 = (endN (lawT T l) 60 R).2)) := by
      refine y_aln (i := 0) dX11_goUnderLaw_84 at1.ne0 rfl rfl ?_
      refine y_getp (z := 10) (v := 48) dX11_goUnderLaw_85 frX11_50 cfX11 at1 rfl rfl (wp (v := 48) hW2 rfl rfl (by decide)) ?_
      refine x_callVI (c_X3_passAllDays hW2 hM2 hFl (lawT_RW (kre.rw hr))) dX11_goUnderLaw_88 lkX11_332 mfX3_passAllDays cfX3 at48 rfl rfl rfl rfl (Nat.le_of_ble_eq_true rfl) (fun r88 I88 P88 hr88 hf88 => ?_)
      obtain ⟨rfl, r88, hI88, f88⟩ := hf88
      refine x_pop dX11_goUnderLaw_91 rfl ?_
      refine x_vret dX11_goUnderLaw_92 rfl ?_
      exact ⟨rfl, hP2, hM2.fq f88, kF.tr (f88.mo (fun a ha => by unfold sGL; omega)), _, kre, hI88⟩
    refine y_aln (i := 0) dX11_goUnderLaw_73 at1.ne0 rfl rfl ?_
    refine y_getp (z := 10) (v := 48) dX11_goUnderLaw_74 frX11_50 cfX11 at1 rfl rfl (wp (v := 48) hWR rfl rfl (by decide)) ?_
    refine y_aln (i := 0) dX11_goUnderLaw_77 at1.ne0 rfl rfl ?_
    refine y_getp (z := 11) (v := 50) dX11_goUnderLaw_78 frX11_56 cfX11 at1 rfl rfl (wp (v := 50) hWR rfl rfl (by decide)) ?_
    refine y_putp (z := 1) dX11_goUnderLaw_81 frX11_430 cfX3 at48 rfl rfl rfl ?_
    refine x_keep [1, 0] ?_
    exact h84
  have h31 : ∀ b : Int, b = l % 2 → V G mX11_goUnderLaw (d + 5) 0 0 31 [some (.inr (.inl 1)), none] [] NO (uI (uI I 50 0 (l / 2 + 1)) 50 2 b) P (qV (fun n' I' P' => n' = NO ∧ PK P P' ∧ MK I' P' 48 t 50 (lawT T l) ∧ Fc sGL I I' ∧ ∃ R, RE (I 47) R ∧ I' 49 = (endN (lawT T l) 60 R).2)) := fun b hb => by
    obtain ⟨J, hJ⟩ : ∃ J, J = uI (uI I 50 0 (l / 2 + 1)) 50 2 b := ⟨_, rfl⟩
    rw [← hJ]
    have eJ : ∀ a, a ≠ 50 → J a = I a := fun a ha => by rw [hJ, uI_ne ha, uI_ne ha]
    have e13 : J (t + 13) 1 = T 0 4 := by rw [eJ _ (by omega)]; exact hcl.2.1
    obtain ⟨K, hK⟩ : ∃ K, K = uI J 50 1 (T 0 4) := ⟨_, rfl⟩
    have eK : ∀ a, a ≠ 50 → K a = I a := fun a ha => by rw [hK, uI_ne ha]; exact eJ a ha
    have k0 : K 50 0 = lawT T l 0 3 := by rw [lawT_3, hK, uI_eq, u1_ne (by decide), hJ, uI_eq, u1_ne (by decide), uI_eq, u1_eq]
    have k1 : K 50 1 = lawT T l 0 4 := by rw [lawT_0 (by decide) (by decide), hK, uI_eq, u1_eq]
    have k2 : K 50 2 = lawT T l 0 7 := by rw [lawT_7, hK, uI_eq, u1_ne (by decide), hJ, uI_eq, u1_eq]; exact hb
    have es : K t 1 = T 0 2 := by rw [eK t (by omega)]; exact hca.2.1
    refine y_aln (i := 0) dX11_goUnderLaw_31 at1.ne0 rfl rfl ?_
    refine y_getp (z := 11) (v := 50) dX11_goUnderLaw_32 frX11_56 cfX11 at1 rfl rfl (wp (v := 50) hW rfl rfl (by decide)) ?_
    refine y_aln (i := 0) dX11_goUnderLaw_35 at1.ne0 rfl rfl ?_
    refine y_getp (z := 2) (v := t) dX11_goUnderLaw_36 frX11_16 cfX11 at1 rfl rfl h1t ?_
    refine y_getp (z := 16) (v := (t + 13)) dX11_goUnderLaw_39 frX11_140 cfX10 hTo.at rfl rfl (p10_16 wT hTo) ?_
    refine y_geti (z := 1) dX11_goUnderLaw_42 frX11_146 cfX2 (a10_16 hTo) rfl rfl ?_
    rw [e13]
    refine y_puti (z := 1) dX11_goUnderLaw_45 frX11_146 cfX2 at50 rfl rfl rfl ?_
    rw [← hK]
    refine y_aln (i := 0) dX11_goUnderLaw_48 at1.ne0 rfl rfl ?_
    refine y_getp (z := 11) (v := 50) dX11_goUnderLaw_49 frX11_56 cfX11 at1 rfl rfl (wp (v := 50) hW rfl rfl (by decide)) ?_
    refine y_aln (i := 0) dX11_goUnderLaw_52 at1.ne0 rfl rfl ?_
    refine y_getp (z := 2) (v := t) dX11_goUnderLaw_53 frX11_16 cfX11 at1 rfl rfl h1t ?_
    refine y_geti (z := 1) dX11_goUnderLaw_56 frX11_137 cfX10 hTo.at rfl rfl ?_
    refine x_callVV (c_X2_makeOffers (T := lawT T l) hW isL50 hFl k0 k1 (by rw [es, lawT_0 (by decide) (by decide)])) dX11_goUnderLaw_59 lkX11_427 mfX2_makeOffers cfX2 at50 rfl rfl rfl rfl (Nat.le_of_ble_eq_true rfl) (fun n59 I59 P59 hf59 => ?_)
    obtain ⟨rfl, rfl, f59, o59, c59⟩ := hf59
    have e59 : ∀ a, 3 ≤ a → a ≤ 40 → I59 a = I a := fun a a0 a1 => (f59 a (by unfold sL; omega)).trans (eK a (by omega))
    have n59 : ∀ a, ¬ sGL a → I59 a = I a := fun a ha => (f59 a (fun z => ha (by unfold sGL; unfold sL at z; omega))).trans (eK a (fun z => ha (by unfold sGL; omega)))
    have hM59 : MK I59 _ 46 t (t + 13) T := hM.f50 rfl e59
    have c59' : CL I59 50 (lawT T l) := ⟨by rw [o59, u1_ne (by decide)]; exact k0, by rw [o59, u1_ne (by decide)]; exact k1, by rw [o59, u1_ne (by decide)]; exact k2, by rw [o59, u1_eq], c59⟩
    refine y_aln (i := 0) dX11_goUnderLaw_62 at1.ne0 rfl rfl ?_
    refine y_getp (z := 10) (v := 48) dX11_goUnderLaw_63 frX11_50 cfX11 at1 rfl rfl (wp (v := 48) hW rfl rfl (by decide)) ?_
    refine y_aln (i := 0) dX11_goUnderLaw_66 at1.ne0 rfl rfl ?_
    refine y_getp (z := 9) (v := 46) dX11_goUnderLaw_67 frX11_46 cfX11 at1 rfl rfl (wp (v := 46) hW rfl rfl (by decide)) ?_
    refine x_callVV (c_X3_take (q := 48) hW isM48 hM59 (by decide)) dX11_goUnderLaw_70 lkX11_232 mfX3_take cfX3 at48 rfl rfl rfl rfl (Nat.le_of_ble_eq_true rfl) (fun n70 I70 P70 hf70 => ?_)
    obtain ⟨rfl, rfl, hI70⟩ := hf70
    have F70 : Fc (sM 48) I59 I70 := by rw [hI70]; exact Fc.rf.ua (Or.inr rfl)
    refine x_keep [1, 0] ?_
    refine h73 _ _ (PK.mk hW isM48 (by decide)) mk_P.1 (hM59.2.2.2.2.2.1.fr hTo F70 s48_tl) (c59'.fr isL50 F70 s48_tl) (fun c c0 c1 => ?_) (fun a ha => (F70 a (fun z => ha (by unfold sGL; omega))).trans (n59 a ha))
    rw [hI70]
    show _ = (if 0 ≤ c ∧ c < 48 then I59 47 c else I59 49 c)
    rw [if_pos ⟨c0, c1⟩, n59 47 (by unfold sGL; omega)]
  refine y_aln (i := 0) dX11_goUnderLaw_0 at1.ne0 rfl rfl ?_
  refine y_getp (z := 11) (v := 50) dX11_goUnderLaw_1 frX11_56 cfX11 at1 rfl rfl (wp (v := 50) hW rfl rfl (by decide)) ?_
  refine x_iload_n (i := 1) dX11_goUnderLaw_4 rfl rfl ?_
  refine y_ic dX11_goUnderLaw_5 ⟨by decide, by decide⟩ ?_
  refine x_idiv dX11_goUnderLaw_6 (by omega) (by omega) ?_
  refine y_ic dX11_goUnderLaw_7 ⟨by decide, by decide⟩ ?_
  refine x_iadd dX11_goUnderLaw_8 ⟨by omega, by omega⟩ ?_
  refine y_puti (z := 0) dX11_goUnderLaw_9 frX11_143 cfX2 at50 rfl rfl rfl ?_
  refine y_aln (i := 0) dX11_goUnderLaw_12 at1.ne0 rfl rfl ?_
  refine y_getp (z := 11) (v := 50) dX11_goUnderLaw_13 frX11_56 cfX11 at1 rfl rfl (wp (v := 50) hW rfl rfl (by decide)) ?_
  refine x_iload_n (i := 1) dX11_goUnderLaw_16 rfl rfl ?_
  refine y_ic dX11_goUnderLaw_17 ⟨by decide, by decide⟩ ?_
  refine x_irem dX11_goUnderLaw_18 (by omega) (by omega) ?_
  refine y_ic dX11_goUnderLaw_19 ⟨by decide, by decide⟩ ?_
  refine x_icmp_ne (tgt := 27) dX11_goUnderLaw_20 rfl (fun h20 => ?_) (fun h20 => ?_)
  · refine y_ic dX11_goUnderLaw_27 ⟨by decide, by decide⟩ ?_
    refine y_putz (z := 2) dX11_goUnderLaw_28 frX11_149 cfX2 at50 rfl rfl rfl (by omega) ?_
    refine x_keep [1, 0] ?_
    exact h31 _ (by omega)
  · refine y_ic dX11_goUnderLaw_23 ⟨by decide, by decide⟩ ?_
    refine x_goto (tgt := 28) dX11_goUnderLaw_24 rfl ?_
    refine y_putz (z := 2) dX11_goUnderLaw_28 frX11_149 cfX2 at50 rfl rfl rfl (by omega) ?_
    refine x_keep [1, 0] ?_
    exact h31 _ (by omega)
theorem c_X11_law {t : Nat} {l w : Int} (hW : WP P) (hM : MK I P 46 t (t + 13) T) (h1t : P 1 2 = t) (hF : WF T) (hr : RW T (I 47)) : Cv G mX11_law (d + 8) 1 6 [.inr (.inl 1), .inl l, .inl w] NO I P (qX NO (fun r I' P' => (PK P P' ∧ Fc sGL I I') ∧ ((0 ≤ l ∧ l ≤ 5) ∧ 0 ≤ w ∧ w ≤ 1) ∧ r = lawV T (I 47) l w) (fun c I' P' => (I' = I ∧ P' = P) ∧ ¬ ((0 ≤ l ∧ l ≤ 5) ∧ 0 ≤ w ∧ w ≤ 1) ∧ c = tEN)) := by
  refine x_enter mfX11_law rfl (Nat.le_of_ble_eq_true rfl) (fun _ => ?_)
  have h35 : ∀ (K : Mem) (R : Ptr) (r : Rw), PK P R → MK K R 48 t 50 (lawT T l) → Fc sGL I K → RE (I 47) r → K 49 = (endN (lawT T l) 60 r).2 → (0 ≤ l ∧ l ≤ 5) → (0 ≤ w ∧ w ≤ 1) → V G mX11_law (d + 8) 1 6 35 [some (.inr (.inl 1)), none, some (.inl (w))] [] NO K R (qX NO (fun r I' P' => (PK P P' ∧ Fc sGL I I') ∧ ((0 ≤ l ∧ l ≤ 5) ∧ 0 ≤ w ∧ w ≤ 1) ∧ r = lawV T (I 47) l w) (fun c I' P' => (I' = I ∧ P' = P) ∧ ¬ ((0 ≤ l ∧ l ≤ 5) ∧ 0 ≤ w ∧ w ≤ 1) ∧ c = tEN)) := fun K R r hP hM2 kF hre hK hl hw => by
    have hWR := hP.1
    have hFl := lawT_WF hF hl
    have ho := endN_ok hFl 60 _ (lawT_RW (hre.rw hr))
    have hee := (RE.endd hFl (f := 60) hre).2
    have rcK : RC (K (48 + 1)) := by show RC (K 49); rw [hK]; exact ho.1.rc
    refine x_iload_n (i := 2) dX11_law_35 rfl rfl ?_
    refine x_if_ne (tgt := 49) dX11_law_36 rfl (fun h36 => ?_) (fun h36 => ?_)
    · refine y_aln (i := 0) dX11_law_49 at1.ne0 rfl rfl ?_
      refine y_getp (z := 10) (v := 48) dX11_law_50 frX11_50 cfX11 at1 rfl rfl (wp (v := 48) hWR rfl rfl (by decide)) ?_
      refine x_callVI (c_X3_allWorth hWR hM2 hFl rcK) dX11_law_53 lkX11_187 mfX3_allWorth cfX3 at48 rfl rfl rfl rfl (Nat.le_of_ble_eq_true rfl) (fun r53 I53 P53 hr53 hf53 => ?_)
      obtain ⟨i53, p53, q53⟩ := hf53
      rw [i53, p53, q53]
      refine x_iretX dX11_law_56 rfl ?_
      refine ⟨⟨hP, kF⟩, ⟨hl, hw⟩, ?_⟩
      unfold lawV
      rw [show K (48 + 1) = (endN (lawT T l) 60 r).2 from hK]
      first | (rw [if_pos (by omega)]; exact (hee.all hFl).symm) | (rw [if_neg (by omega)]; exact (hee.worth hFl).symm)
    · refine y_aln (i := 0) dX11_law_39 at1.ne0 rfl rfl ?_
      refine y_getp (z := 10) (v := 48) dX11_law_40 frX11_50 cfX11 at1 rfl rfl (wp (v := 48) hWR rfl rfl (by decide)) ?_
      refine x_callVI (c_X3_things hWR hM2 hFl rcK) dX11_law_43 lkX11_159 mfX3_things cfX3 at48 rfl rfl rfl rfl (Nat.le_of_ble_eq_true rfl) (fun r43 I43 P43 hr43 hf43 => ?_)
      obtain ⟨i43, p43, q43⟩ := hf43
      rw [i43, p43, q43]
      refine x_goto (tgt := 56) dX11_law_46 rfl ?_
      refine x_iretX dX11_law_56 rfl ?_
      refine ⟨⟨hP, kF⟩, ⟨hl, hw⟩, ?_⟩
      unfold lawV
      rw [show K (48 + 1) = (endN (lawT T l) 60 r).2 from hK]
      first | (rw [if_pos (by omega)]; exact (hee.all hFl).symm) | (rw [if_neg (by omega)]; exact (hee.worth hFl).symm)
  refine x_iload_n (i := 1) dX11_law_0 rfl rfl ?_
  refine x_if_lt (tgt := 19) dX11_law_1 rfl (fun h1 => ?_) (fun h1 => ?_)
  · refine xnNW (text := "no such law, or nothing of it") rfl rfl (by decide +kernel) (Nat.le_of_ble_eq_true rfl) (by omega) (by decide) (by decide) dX11_law_19 dX11_law_22 dX11_law_23 dX11_law_26 dX11_law_29 ?_
    exact ⟨⟨rfl, rfl⟩, by omega, rfl⟩
  · refine x_iload_n (i := 1) dX11_law_4 rfl rfl ?_
    refine y_bi dX11_law_5 ⟨by decide, by decide⟩ ?_
    refine x_icmp_ge (tgt := 19) dX11_law_7 rfl (fun h7 => ?_) (fun h7 => ?_)
    · refine xnNW (text := "no such law, or nothing of it") rfl rfl (by decide +kernel) (Nat.le_of_ble_eq_true rfl) (by omega) (by decide) (by decide) dX11_law_19 dX11_law_22 dX11_law_23 dX11_law_26 dX11_law_29 ?_
      exact ⟨⟨rfl, rfl⟩, by omega, rfl⟩
    · refine x_iload_n (i := 2) dX11_law_10 rfl rfl ?_
      refine x_if_eq (tgt := 30) dX11_law_11 rfl (fun h11 => ?_) (fun h11 => ?_)
      · refine y_aln (i := 0) dX11_law_30 at1.ne0 rfl rfl ?_
        refine x_iload_n (i := 1) dX11_law_31 rfl rfl ?_
        refine x_callVV (c_X11_goUnderLaw hW hM h1t hF hr (by omega)) dX11_law_32 lkX11_401 mfX11_goUnderLaw cfX11 at1 rfl rfl rfl rfl (Nat.le_of_ble_eq_true rfl) (fun n32 I32 P32 hf32 => ?_)
        obtain ⟨rfl, hP32, hM32, F32, R32, re32, e32⟩ := hf32
        refine x_keep [1, 0, 1] ?_
        exact h35 _ _ _ hP32 hM32 F32 re32 e32 (by omega) (by omega)
      · refine x_iload_n (i := 2) dX11_law_14 rfl rfl ?_
        refine y_ic dX11_law_15 ⟨by decide, by decide⟩ ?_
        refine x_icmp_eq (tgt := 30) dX11_law_16 rfl (fun h16 => ?_) (fun h16 => ?_)
        · refine y_aln (i := 0) dX11_law_30 at1.ne0 rfl rfl ?_
          refine x_iload_n (i := 1) dX11_law_31 rfl rfl ?_
          refine x_callVV (c_X11_goUnderLaw hW hM h1t hF hr (by omega)) dX11_law_32 lkX11_401 mfX11_goUnderLaw cfX11 at1 rfl rfl rfl rfl (Nat.le_of_ble_eq_true rfl) (fun n32 I32 P32 hf32 => ?_)
          obtain ⟨rfl, hP32, hM32, F32, R32, re32, e32⟩ := hf32
          refine x_keep [1, 0, 1] ?_
          exact h35 _ _ _ hP32 hM32 F32 re32 e32 (by omega) (by omega)
        · refine xnNW (text := "no such law, or nothing of it") rfl rfl (by decide +kernel) (Nat.le_of_ble_eq_true rfl) (by omega) (by decide) (by decide) dX11_law_19 dX11_law_22 dX11_law_23 dX11_law_26 dX11_law_29 ?_
          exact ⟨⟨rfl, rfl⟩, by omega, rfl⟩
theorem c_X11_best {t : Nat} (hW : WP P) (hM : MK I P 46 t (t + 13) T) (h1t : P 1 2 = t) (hF : WF T) (hr : RW T (I 47)) : Cv G mX11_best (d + 6) 0 0 [.inr (.inl 1)] NO I P (qI NO (fun r I' P' => (PK P P' ∧ Fc sGL I I') ∧ r = bestL T (I 47))) := by
  refine x_enter mfX11_best rfl (Nat.le_of_ble_eq_true rfl) (fun _ => ?_)
  have hL : ∀ (j : Nat) (l : Int) (K : Mem) (R : Ptr), (6 - l).toNat < j → 0 ≤ l → l ≤ 6 → PK P R → Fc sGL I K → V G mX11_best (d + 6) 0 0 6 [some (.inr (.inl 1)), some (.inl ((itN (fun l x => bestB T (I 47) l x) l (0, -1)).2)), some (.inl ((itN (fun l x => bestB T (I 47) l x) l (0, -1)).1)), some (.inl (l)), none] [] NO K R (qI NO (fun r I' P' => (PK P P' ∧ Fc sGL I I') ∧ r = bestL T (I 47))) := by
    intro j
    induction j with
    | zero => intro l K R hj; omega
    | succ j ih =>
      intro l K R hj hl hl2 hP kF
      have hWR := hP.1
      have hMK := hM.gl hP kF
      have h1R : R 1 2 = t := by rw [hP.2.1]; exact h1t
      have k47 : K 47 = I 47 := kF 47 (by unfold sGL; omega)
      have es := itN_s (fun l x => bestB T (I 47) l x) ((0 : Int), (-1 : Int)) hl
      obtain ⟨x, hx⟩ : ∃ x, x = itN (fun l x => bestB T (I 47) l x) l ((0 : Int), (-1 : Int)) := ⟨_, rfl⟩
      have nx : ∀ (a b : Int) (K' : Mem) (R' : Ptr), b = (bestB T (I 47) l x).1 → a = (bestB T (I 47) l x).2 → l < 6 → PK P R' → Fc sGL I K' → V G mX11_best (d + 6) 0 0 6 [some (.inr (.inl 1)), some (.inl (a)), some (.inl (b)), some (.inl (l + 1)), none] [] NO K' R' (qI NO (fun r I' P' => (PK P P' ∧ Fc sGL I I') ∧ r = bestL T (I 47))) := fun a b K' R' hb ha hl3 q0 qF => by
        have := ih (l + 1) K' R' (by omega) (by omega) (by omega) q0 qF
        rw [es, ← hx, ← ha, ← hb] at this
        exact this
      rw [← hx]
      have h17 : ∀ (K' : Mem) (R' : Ptr) (r : Rw), l < 6 → PK P R' → MK K' R' 48 t 50 (lawT T l) → Fc sGL I K' → RE (I 47) r → K' 49 = (endN (lawT T l) 60 r).2 → V G mX11_best (d + 6) 0 0 17 [some (.inr (.inl 1)), some (.inl (x.2)), some (.inl (x.1)), some (.inl (l)), none] [] NO K' R' (qI NO (fun r I' P' => (PK P P' ∧ Fc sGL I I') ∧ r = bestL T (I 47))) := fun K' R' r hl6 hP' hM2 kF' hre hK => by
        have hW2 := hP'.1
        have hl5 : 0 ≤ l ∧ l ≤ 5 := ⟨hl, by omega⟩
        have hFl := lawT_WF hF hl5
        have ho := endN_ok hFl 60 _ (lawT_RW (hre.rw hr))
        have hee := (RE.endd hFl (f := 60) hre).2
        have rcK : RC (K' (48 + 1)) := by show RC (K' 49); rw [hK]; exact ho.1.rc
        have ev : worthS (lawT T l) (K' (48 + 1)) = lawV T (I 47) l 1 := by
          unfold lawV
          rw [if_neg (by decide), show K' (48 + 1) = (endN (lawT T l) 60 r).2 from hK]
          exact (hee.worth hFl).symm
        refine y_aln (i := 0) dX11_best_17 at1.ne0 rfl rfl ?_
        refine y_getp (z := 10) (v := 48) dX11_best_18 frX11_50 cfX11 at1 rfl rfl (wp (v := 48) hW2 rfl rfl (by decide)) ?_
        refine x_callVI (c_X3_allWorth hW2 hM2 hFl rcK) dX11_best_21 lkX11_187 mfX3_allWorth cfX3 at48 rfl rfl rfl rfl (Nat.le_of_ble_eq_true rfl) (fun r21 I21 P21 hr21 hf21 => ?_)
        obtain ⟨i21, p21, q21⟩ := hf21
        rw [i21, p21, q21]
        rw [ev]
        refine x_istore (i := 4) dX11_best_24 rfl (Nat.le_of_ble_eq_true rfl) ?_
        refine x_iload (i := 4) dX11_best_26 rfl ?_
        refine x_iload_n (i := 1) dX11_best_28 rfl rfl ?_
        refine x_icmp_le (tgt := 37) dX11_best_29 rfl (fun h29 => ?_) (fun h29 => ?_)
        · refine x_iinc dX11_best_37 rfl ⟨by omega, by omega⟩ rfl (Nat.le_of_ble_eq_true rfl) ?_
          refine x_goto (tgt := 6) dX11_best_40 rfl ?_
          refine x_keep [1, 1, 1, 1, 0] ?_
          refine nx _ _ _ _ ?_ ?_ hl6 hP' kF'
          · unfold bestB; dsimp only; first | (rw [if_pos (by omega)]; done) | (rw [if_neg (by omega)]; done)
          · unfold bestB; dsimp only; first | (rw [if_pos (by omega)]; done) | (rw [if_neg (by omega)]; done)
        · refine x_iload (i := 4) dX11_best_32 rfl ?_
          refine x_istore_n (i := 1) dX11_best_34 rfl rfl (Nat.le_of_ble_eq_true rfl) ?_
          refine x_iload_n (i := 3) dX11_best_35 rfl rfl ?_
          refine x_istore_n (i := 2) dX11_best_36 rfl rfl (Nat.le_of_ble_eq_true rfl) ?_
          refine x_iinc dX11_best_37 rfl ⟨by omega, by omega⟩ rfl (Nat.le_of_ble_eq_true rfl) ?_
          refine x_goto (tgt := 6) dX11_best_40 rfl ?_
          refine x_keep [1, 1, 1, 1, 0] ?_
          refine nx _ _ _ _ ?_ ?_ hl6 hP' kF'
          · unfold bestB; dsimp only; first | (rw [if_pos (by omega)]; done) | (rw [if_neg (by omega)]; done)
          · unfold bestB; dsimp only; first | (rw [if_pos (by omega)]; done) | (rw [if_neg (by omega)]; done)
      refine x_iload_n (i := 3) dX11_best_6 rfl rfl ?_
      refine y_bi dX11_best_7 ⟨by decide, by decide⟩ ?_
      refine x_icmp_ge (tgt := 43) dX11_best_9 rfl (fun h9 => ?_) (fun h9 => ?_)
      · refine x_iload_n (i := 2) dX11_best_43 rfl rfl ?_
        refine x_iret dX11_best_44 rfl ?_
        exact ⟨⟨hP, kF⟩, by rw [hx, show l = 6 by omega]; rfl⟩
      · refine y_aln (i := 0) dX11_best_12 at1.ne0 rfl rfl ?_
        refine x_iload_n (i := 3) dX11_best_13 rfl rfl ?_
        refine x_callVV (c_X11_goUnderLaw hWR hMK h1R hF (by rw [k47]; exact hr) (by omega)) dX11_best_14 lkX11_401 mfX11_goUnderLaw cfX11 at1 rfl rfl rfl rfl (Nat.le_of_ble_eq_true rfl) (fun n14 I14 P14 hf14 => ?_)
        obtain ⟨rfl, hP14, hM14, F14, R14, re14, e14⟩ := hf14
        rw [k47] at re14
        refine x_keep [1, 1, 1, 1, 0] ?_
        exact h17 _ _ _ (by omega) (hP.tr hP14) hM14 (kF.tr F14) re14 e14
  refine y_ic dX11_best_0 ⟨by decide, by decide⟩ ?_
  refine x_istore_n (i := 1) dX11_best_1 rfl rfl (Nat.le_of_ble_eq_true rfl) ?_
  refine y_ic dX11_best_2 ⟨by decide, by decide⟩ ?_
  refine x_istore_n (i := 2) dX11_best_3 rfl rfl (Nat.le_of_ble_eq_true rfl) ?_
  refine y_ic dX11_best_4 ⟨by decide, by decide⟩ ?_
  refine x_istore_n (i := 3) dX11_best_5 rfl rfl (Nat.le_of_ble_eq_true rfl) ?_
  refine x_keep [1, 1, 1, 1, 0] ?_
  exact hL _ 0 _ _ (Nat.lt_succ_self _) (by omega) (by omega) (PK.rf hW) Fc.rf
theorem c_X11_worthAfterWaiting {t : Nat} {p w m : Int} (hW : WP P) (hM : MK I P 46 t (t + 13) T) (hF : WF T) (hr : RW T (I 47)) (hp : 0 ≤ p ∧ p < T 0 1) (hw : 0 ≤ w ∧ w ≤ 10) (hm : 0 ≤ m ∧ m ≤ 10) : Cv G mX11_worthAfterWaiting (d + 4) 0 0 [.inr (.inl 1), .inl p, .inl w, .inl m] NO I P (qI NO (fun r I' P' => (PK P P' ∧ Fc (sM 48) I I') ∧ r = bagS T (stillR T (I 47) p w m) p)) := by
  refine x_enter mfX11_worthAfterWaiting rfl (Nat.le_of_ble_eq_true rfl) (fun _ => ?_)
  have hD2 : ∀ (R : Ptr) (r1 : Rw), PK P R → RW T r1 → RE (stayR T (I 47) p w) r1 → ∀ (j : Nat) (i : Int) (K : Mem), (m - i).toNat < j → 0 ≤ i → i ≤ m → MK K R 48 t (t + 13) T → K 49 = itN (fun _ r => (dayS T (-1) r).2) i r1 → Fc (sM 48) I K → V G mX11_worthAfterWaiting (d + 4) 0 0 38 [some (.inr (.inl 1)), some (.inl (p)), none, some (.inl (m)), some (.inl (i))] [] NO K R (qI NO (fun r I' P' => (PK P P' ∧ Fc (sM 48) I I') ∧ r = bagS T (stillR T (I 47) p w m) p)) := by
    intro R r1 hP hr1 hre1 j
    have hWR := hP.1
    induction j with
    | zero => intro i K hj; omega
    | succ j ihd =>
      intro i K hj hi hi2 hMK hK kF
      have hro := dayR_ok (w := -1) (n := i) hF hr1
      have hes := stay_s (T := T) (r := r1) (p := -1) hi
      refine x_iload (i := 4) dX11_worthAfterWaiting_38 rfl ?_
      refine x_iload_n (i := 3) dX11_worthAfterWaiting_40 rfl rfl ?_
      refine x_icmp_ge (tgt := 59) dX11_worthAfterWaiting_41 rfl (fun h41 => ?_) (fun h41 => ?_)
      · refine y_aln (i := 0) dX11_worthAfterWaiting_59 at1.ne0 rfl rfl ?_
        refine y_getp (z := 10) (v := 48) dX11_worthAfterWaiting_60 frX11_50 cfX11 at1 rfl rfl (wp (v := 48) hWR rfl rfl (by decide)) ?_
        refine x_iload_n (i := 1) dX11_worthAfterWaiting_63 rfl rfl ?_
        refine x_callVI (c_X3_bagWorth hWR hMK hF (by show RC (K 49); rw [hK]; exact hro.rc) hp) dX11_worthAfterWaiting_64 lkX11_196 mfX3_bagWorth cfX3 at48 rfl rfl rfl rfl (Nat.le_of_ble_eq_true rfl) (fun r64 I64 P64 hr64 hf64 => ?_)
        obtain ⟨i64, p64, q64⟩ := hf64
        rw [i64, p64, q64]
        refine x_iret dX11_worthAfterWaiting_67 rfl ?_
        exact ⟨⟨hP, kF⟩, by rw [show K (48 + 1) = _ from hK, show i = m by omega]; exact ((RE.dayr hre1 hF).bag hF hp).symm⟩
      · refine y_aln (i := 0) dX11_worthAfterWaiting_44 at1.ne0 rfl rfl ?_
        refine y_getp (z := 10) (v := 48) dX11_worthAfterWaiting_45 frX11_50 cfX11 at1 rfl rfl (wp (v := 48) hWR rfl rfl (by decide)) ?_
        refine y_ic dX11_worthAfterWaiting_48 ⟨by decide, by decide⟩ ?_
        refine x_callVI (c_X3_passDay hWR hMK hF (by show RW T (K 49); rw [hK]; exact hro)) dX11_worthAfterWaiting_49 lkX11_327 mfX3_passDay cfX3 at48 rfl rfl rfl rfl (Nat.le_of_ble_eq_true rfl) (fun r49 I49 P49 hr49 hf49 => ?_)
        obtain ⟨rfl, p49, o49, f49⟩ := hf49
        refine x_pop dX11_worthAfterWaiting_52 rfl ?_
        refine x_iinc dX11_worthAfterWaiting_53 rfl ⟨by omega, by omega⟩ rfl (Nat.le_of_ble_eq_true rfl) ?_
        refine x_goto (tgt := 38) dX11_worthAfterWaiting_56 rfl ?_
        refine x_keep [1, 1, 0, 1, 1] ?_
        exact ihd _ _ (by omega) (by omega) (by omega) (hMK.fq f49) (by show I49 (48 + 1) = _; rw [o49, show K (48 + 1) = _ from hK, hes]) (kF.tr f49)
  have hD1 : ∀ (R : Ptr) (r1 : Rw), PK P R → RW T r1 → RE (I 47) r1 → ∀ (j : Nat) (i : Int) (K : Mem), (w - i).toNat < j → 0 ≤ i → i ≤ w → MK K R 48 t (t + 13) T → K 49 = itN (fun _ r => (dayS T p r).2) i r1 → Fc (sM 48) I K → V G mX11_worthAfterWaiting (d + 4) 0 0 14 [some (.inr (.inl 1)), some (.inl (p)), some (.inl (w)), some (.inl (m)), some (.inl (i))] [] NO K R (qI NO (fun r I' P' => (PK P P' ∧ Fc (sM 48) I I') ∧ r = bagS T (stillR T (I 47) p w m) p)) := by
    intro R r1 hP hr1 hre1 j
    have hWR := hP.1
    induction j with
    | zero => intro i K hj; omega
    | succ j ihd =>
      intro i K hj hi hi2 hMK hK kF
      have hro := dayR_ok (w := p) (n := i) hF hr1
      have hes := stay_s (T := T) (r := r1) (p := p) hi
      refine x_iload (i := 4) dX11_worthAfterWaiting_14 rfl ?_
      refine x_iload_n (i := 2) dX11_worthAfterWaiting_16 rfl rfl ?_
      refine x_icmp_ge (tgt := 35) dX11_worthAfterWaiting_17 rfl (fun h17 => ?_) (fun h17 => ?_)
      · refine y_ic dX11_worthAfterWaiting_35 ⟨by decide, by decide⟩ ?_
        refine x_istore (i := 4) dX11_worthAfterWaiting_36 rfl (Nat.le_of_ble_eq_true rfl) ?_
        refine x_keep [1, 1, 0, 1, 1] ?_
        refine hD2 R (K 49) hP (by rw [hK]; exact hro) ?_ _ 0 _ (Nat.lt_succ_self _) (by omega) (by omega) hMK (itN_0 _ _).symm kF
        rw [hK, show i = w by omega]
        exact RE.dayr hre1 hF
      · refine y_aln (i := 0) dX11_worthAfterWaiting_20 at1.ne0 rfl rfl ?_
        refine y_getp (z := 10) (v := 48) dX11_worthAfterWaiting_21 frX11_50 cfX11 at1 rfl rfl (wp (v := 48) hWR rfl rfl (by decide)) ?_
        refine x_iload_n (i := 1) dX11_worthAfterWaiting_24 rfl rfl ?_
        refine x_callVI (c_X3_passDay hWR hMK hF (by show RW T (K 49); rw [hK]; exact hro)) dX11_worthAfterWaiting_25 lkX11_327 mfX3_passDay cfX3 at48 rfl rfl rfl rfl (Nat.le_of_ble_eq_true rfl) (fun r25 I25 P25 hr25 hf25 => ?_)
        obtain ⟨rfl, p25, o25, f25⟩ := hf25
        refine x_pop dX11_worthAfterWaiting_28 rfl ?_
        refine x_iinc dX11_worthAfterWaiting_29 rfl ⟨by omega, by omega⟩ rfl (Nat.le_of_ble_eq_true rfl) ?_
        refine x_goto (tgt := 14) dX11_worthAfterWaiting_32 rfl ?_
        refine x_keep [1, 1, 1, 1, 1] ?_
        exact ihd _ _ (by omega) (by omega) (by omega) (hMK.fq f25) (by show I25 (48 + 1) = _; rw [o25, show K (48 + 1) = _ from hK, hes]) (kF.tr f25)
  refine y_aln (i := 0) dX11_worthAfterWaiting_0 at1.ne0 rfl rfl ?_
  refine y_getp (z := 10) (v := 48) dX11_worthAfterWaiting_1 frX11_50 cfX11 at1 rfl rfl (wp (v := 48) hW rfl rfl (by decide)) ?_
  refine y_aln (i := 0) dX11_worthAfterWaiting_4 at1.ne0 rfl rfl ?_
  refine y_getp (z := 9) (v := 46) dX11_worthAfterWaiting_5 frX11_46 cfX11 at1 rfl rfl (wp (v := 46) hW rfl rfl (by decide)) ?_
  refine x_callVV (c_X3_take (q := 48) hW isM48 hM (by decide)) dX11_worthAfterWaiting_8 lkX11_232 mfX3_take cfX3 at48 rfl rfl rfl rfl (Nat.le_of_ble_eq_true rfl) (fun n8 I8 P8 hf8 => ?_)
  obtain ⟨rfl, rfl, hI8⟩ := hf8
  have F8 : Fc (sM 48) I I8 := by rw [hI8]; exact Fc.rf.ua (Or.inr rfl)
  obtain ⟨y1, y2, y3⟩ := trl hW hM isM48 (by decide) F8
  have re8 : RE (I 47) (I8 49) := fun c c0 c1 => by rw [hI8]; show _ = (if 0 ≤ c ∧ c < 48 then I 47 c else I 49 c); rw [if_pos ⟨c0, c1⟩]
  refine y_ic dX11_worthAfterWaiting_11 ⟨by decide, by decide⟩ ?_
  refine x_istore (i := 4) dX11_worthAfterWaiting_12 rfl (Nat.le_of_ble_eq_true rfl) ?_
  refine x_keep [1, 1, 1, 1, 1] ?_
  exact hD1 _ _ y1 (re8.rw hr) re8 _ 0 _ (Nat.lt_succ_self _) (by omega) (by omega) y2 (itN_0 _ _).symm F8
theorem c_X11_still {t : Nat} {p m w : Int} (hW : WP P) (hM : MK I P 46 t (t + 13) T) (h1t : P 1 2 = t) (hF : WF T) (hr : RW T (I 47)) : Cv G mX11_still (d + 8) 1 6 [.inr (.inl 1), .inl p, .inl m, .inl w] NO I P (qX NO (fun r I' P' => (PK P P' ∧ Fc (sM 48) I I') ∧ stillA T (I 47) p m w = (0, r)) (fun c I' P' => (I' = I ∧ P' = P) ∧ ((c = tEN ∧ stillA T (I 47) p m w = (1, 0)) ∨ (c = tEI ∧ stillA T (I 47) p m w = (2, 0))))) := by
  refine x_enter mfX11_still rfl (Nat.le_of_ble_eq_true rfl) (fun _ => ?_)
  have hL : (0 ≤ p ∧ p < T 0 1) → (0 ≤ w ∧ w ≤ 1) → (1 ≤ m ∧ m ≤ 10) → ∀ (j : Nat) (k a : Int) (K : Mem) (R : Ptr), (11 - k).toNat < j → 0 ≤ k → k ≤ 11 → PK P R → Fc (sM 48) I K → ((k = 0 ∧ a = 0) ∨ (0 < k ∧ a = (itN (fun w x => stillB T (I 47) p m w x) k (-1, -1)).1)) → V G mX11_still (d + 8) 1 6 59 [some (.inr (.inl 1)), some (.inl (p)), some (.inl (m)), some (.inl (w)), some (.inl ((itN (fun w x => stillB T (I 47) p m w x) k (-1, -1)).2)), some (.inl (a)), some (.inl (k)), none] [] NO K R (qX NO (fun r I' P' => (PK P P' ∧ Fc (sM 48) I I') ∧ stillA T (I 47) p m w = (0, r)) (fun c I' P' => (I' = I ∧ P' = P) ∧ ((c = tEN ∧ stillA T (I 47) p m w = (1, 0)) ∨ (c = tEI ∧ stillA T (I 47) p m w = (2, 0))))) := by
    intro hp hw hm j
    induction j with
    | zero => intro k a K R hj; omega
    | succ j ih =>
      intro k a K R hj hk hk2 hP kF ha
      have hWR := hP.1
      have hMK := hM.pk hP kF s48_tl
      have h1R : R 1 2 = t := by rw [hP.2.1]; exact h1t
      have k47 : K 47 = I 47 := n48 kF
      have es := itN_s (fun w x => stillB T (I 47) p m w x) ((-1 : Int), (-1 : Int)) hk
      have ho := stillN_ok (m := m) hF hr hp hk2
      have hb := bagS_bd hF (stillR_ok (p := p) (w := k) (m := m) hF hr).rc hp
      obtain ⟨x, hx⟩ : ∃ x, x = itN (fun w x => stillB T (I 47) p m w x) k ((-1 : Int), (-1 : Int)) := ⟨_, rfl⟩
      have x0 : k = 0 → x.2 = -1 := fun e => by rw [hx, e]; rfl
      have nx : ∀ (a' b : Int) (K' : Mem) (R' : Ptr), a' = (stillB T (I 47) p m k x).1 → b = (stillB T (I 47) p m k x).2 → k < 11 → PK P R' → Fc (sM 48) I K' → V G mX11_still (d + 8) 1 6 59 [some (.inr (.inl 1)), some (.inl (p)), some (.inl (m)), some (.inl (w)), some (.inl (b)), some (.inl (a')), some (.inl (k + 1)), none] [] NO K' R' (qX NO (fun r I' P' => (PK P P' ∧ Fc (sM 48) I I') ∧ stillA T (I 47) p m w = (0, r)) (fun c I' P' => (I' = I ∧ P' = P) ∧ ((c = tEN ∧ stillA T (I 47) p m w = (1, 0)) ∨ (c = tEI ∧ stillA T (I 47) p m w = (2, 0))))) := fun a' b K' R' ha hb hk3 qP qF => by
        have := ih (k + 1) a' K' R' (by omega) (by omega) (by omega) qP qF (Or.inr ⟨by omega, by rw [es, ← hx]; exact ha⟩)
        rw [es, ← hx, ← hb] at this
        exact this
      rw [← hx] at ho ha ⊢
      refine x_iload (i := 6) dX11_still_59 rfl ?_
      refine y_bi dX11_still_61 ⟨by decide, by decide⟩ ?_
      refine x_icmp_gt (tgt := 97) dX11_still_63 rfl (fun h63 => ?_) (fun h63 => ?_)
      · refine x_iload_n (i := 3) dX11_still_97 rfl rfl ?_
        refine x_if_ne (tgt := 106) dX11_still_98 rfl (fun h98 => ?_) (fun h98 => ?_)
        · refine x_iload (i := 4) dX11_still_106 rfl ?_
          refine x_iretX dX11_still_108 rfl ?_
          refine ⟨⟨hP, kF⟩, ?_⟩
          unfold stillA
          rw [cif_pos ⟨hp, hw⟩, if_pos hm]
          unfold stillS
          have e11 : k = 11 := by omega
          have ha2 : a = x.1 := by rcases ha with ⟨q1, q2⟩ | ⟨q1, q2⟩; omega; exact q2
          first | (rw [if_pos (by omega), ha2, hx, e11]; done) | (rw [if_neg (by omega), hx, e11]; done)
        · refine x_iload (i := 5) dX11_still_101 rfl ?_
          refine x_goto (tgt := 108) dX11_still_103 rfl ?_
          refine x_iretX dX11_still_108 rfl ?_
          refine ⟨⟨hP, kF⟩, ?_⟩
          unfold stillA
          rw [cif_pos ⟨hp, hw⟩, if_pos hm]
          unfold stillS
          have e11 : k = 11 := by omega
          have ha2 : a = x.1 := by rcases ha with ⟨q1, q2⟩ | ⟨q1, q2⟩; omega; exact q2
          first | (rw [if_pos (by omega), ha2, hx, e11]; done) | (rw [if_neg (by omega), hx, e11]; done)
      · refine y_aln (i := 0) dX11_still_66 at1.ne0 rfl rfl ?_
        refine x_iload_n (i := 1) dX11_still_67 rfl rfl ?_
        refine x_iload (i := 6) dX11_still_68 rfl ?_
        refine x_iload_n (i := 2) dX11_still_70 rfl rfl ?_
        refine x_callVI (c_X11_worthAfterWaiting hWR hMK hF (by rw [k47]; exact hr) hp (by omega) (by omega)) dX11_still_71 lkX11_367 mfX11_worthAfterWaiting cfX11 at1 rfl rfl rfl rfl (Nat.le_of_ble_eq_true rfl) (fun r71 I71 P71 hr71 hf71 => ?_)
        obtain ⟨⟨hP71, F71⟩, e71⟩ := hf71
        rw [k47] at e71
        rw [e71]
        refine x_istore (i := 7) dX11_still_74 rfl (Nat.le_of_ble_eq_true rfl) ?_
        refine x_iload (i := 7) dX11_still_76 rfl ?_
        refine x_iload (i := 4) dX11_still_78 rfl ?_
        refine x_icmp_le (tgt := 91) dX11_still_80 rfl (fun h80 => ?_) (fun h80 => ?_)
        · refine x_iinc dX11_still_91 rfl ⟨by omega, by omega⟩ rfl (Nat.le_of_ble_eq_true rfl) ?_
          refine x_goto (tgt := 59) dX11_still_94 rfl ?_
          refine x_keep [1, 1, 1, 1, 1, 1, 1, 0] ?_
          refine nx _ _ _ _ ?_ ?_ (by omega) (hP.tr hP71) (kF.tr F71)
          · unfold stillB; dsimp only; first | (rw [if_pos (by omega)]; done) | (rw [if_neg (by omega)]; rcases ha with ⟨q1, q2⟩ | ⟨q1, q2⟩; (exfalso; have := x0 q1; omega); exact q2)
          · unfold stillB; dsimp only; first | (rw [if_pos (by omega)]; done) | (rw [if_neg (by omega)]; done)
        · refine x_iload (i := 7) dX11_still_83 rfl ?_
          refine x_istore (i := 4) dX11_still_85 rfl (Nat.le_of_ble_eq_true rfl) ?_
          refine x_iload (i := 6) dX11_still_87 rfl ?_
          refine x_istore (i := 5) dX11_still_89 rfl (Nat.le_of_ble_eq_true rfl) ?_
          refine x_iinc dX11_still_91 rfl ⟨by omega, by omega⟩ rfl (Nat.le_of_ble_eq_true rfl) ?_
          refine x_goto (tgt := 59) dX11_still_94 rfl ?_
          refine x_keep [1, 1, 1, 1, 1, 1, 1, 0] ?_
          refine nx _ _ _ _ ?_ ?_ (by omega) (hP.tr hP71) (kF.tr F71)
          · unfold stillB; dsimp only; first | (rw [if_pos (by omega)]; done) | (rw [if_neg (by omega)]; rcases ha with ⟨q1, q2⟩ | ⟨q1, q2⟩; (exfalso; have := x0 q1; omega); exact q2)
          · unfold stillB; dsimp only; first | (rw [if_pos (by omega)]; done) | (rw [if_neg (by omega)]; done)
  refine y_aln (i := 0) dX11_still_0 at1.ne0 rfl rfl ?_
  refine x_iload_n (i := 1) dX11_still_1 rfl rfl ?_
  refine x_callVI (c_X11_isNobody hW hM h1t) dX11_still_2 lkX11_190 mfX11_isNobody cfX11 at1 rfl rfl rfl rfl (Nat.le_of_ble_eq_true rfl) (fun r2 I2 P2 hr2 hf2 => ?_)
  obtain ⟨i2, p2, q2⟩ := hf2
  rw [i2, p2]
  refine x_if_ne (tgt := 17) dX11_still_5 rfl (fun h5 => ?_) (fun h5 => ?_)
  · refine xnNW (text := "no such person, or nothing of it") rfl rfl (by decide +kernel) (Nat.le_of_ble_eq_true rfl) (by omega) (by decide) (by decide) dX11_still_17 dX11_still_20 dX11_still_21 dX11_still_24 dX11_still_27 ?_
    exact ⟨⟨rfl, rfl⟩, Or.inl ⟨rfl, by unfold stillA; rw [cif_neg (by omega)]⟩⟩
  · refine x_iload_n (i := 3) dX11_still_8 rfl rfl ?_
    refine x_if_eq (tgt := 28) dX11_still_9 rfl (fun h9 => ?_) (fun h9 => ?_)
    · refine x_iload_n (i := 2) dX11_still_28 rfl rfl ?_
      refine y_ic dX11_still_29 ⟨by decide, by decide⟩ ?_
      refine x_icmp_lt (tgt := 39) dX11_still_30 rfl (fun h30 => ?_) (fun h30 => ?_)
      · refine xnIW (text := "1 to 10 days go by with him") rfl rfl (by decide +kernel) (Nat.le_of_ble_eq_true rfl) (by omega) (by decide) (by decide) dX11_still_39 dX11_still_42 dX11_still_43 dX11_still_46 dX11_still_49 ?_
        exact ⟨⟨rfl, rfl⟩, Or.inr ⟨rfl, by unfold stillA; rw [cif_pos (by omega), if_neg (by omega)]⟩⟩
      · refine x_iload_n (i := 2) dX11_still_33 rfl rfl ?_
        refine y_bi dX11_still_34 ⟨by decide, by decide⟩ ?_
        refine x_icmp_le (tgt := 50) dX11_still_36 rfl (fun h36 => ?_) (fun h36 => ?_)
        · refine y_ic dX11_still_50 ⟨by decide, by decide⟩ ?_
          refine x_istore (i := 4) dX11_still_51 rfl (Nat.le_of_ble_eq_true rfl) ?_
          refine y_ic dX11_still_53 ⟨by decide, by decide⟩ ?_
          refine x_istore (i := 5) dX11_still_54 rfl (Nat.le_of_ble_eq_true rfl) ?_
          refine y_ic dX11_still_56 ⟨by decide, by decide⟩ ?_
          refine x_istore (i := 6) dX11_still_57 rfl (Nat.le_of_ble_eq_true rfl) ?_
          refine x_keep [1, 1, 1, 1, 1, 1, 1, 0] ?_
          exact hL (by omega) (by omega) (by omega) _ 0 0 _ _ (Nat.lt_succ_self _) (by omega) (by omega) (PK.rf hW) Fc.rf (Or.inl ⟨rfl, rfl⟩)
        · refine xnIW (text := "1 to 10 days go by with him") rfl rfl (by decide +kernel) (Nat.le_of_ble_eq_true rfl) (by omega) (by decide) (by decide) dX11_still_39 dX11_still_42 dX11_still_43 dX11_still_46 dX11_still_49 ?_
          exact ⟨⟨rfl, rfl⟩, Or.inr ⟨rfl, by unfold stillA; rw [cif_pos (by omega), if_neg (by omega)]⟩⟩
    · refine x_iload_n (i := 3) dX11_still_12 rfl rfl ?_
      refine y_ic dX11_still_13 ⟨by decide, by decide⟩ ?_
      refine x_icmp_eq (tgt := 28) dX11_still_14 rfl (fun h14 => ?_) (fun h14 => ?_)
      · refine x_iload_n (i := 2) dX11_still_28 rfl rfl ?_
        refine y_ic dX11_still_29 ⟨by decide, by decide⟩ ?_
        refine x_icmp_lt (tgt := 39) dX11_still_30 rfl (fun h30 => ?_) (fun h30 => ?_)
        · refine xnIW (text := "1 to 10 days go by with him") rfl rfl (by decide +kernel) (Nat.le_of_ble_eq_true rfl) (by omega) (by decide) (by decide) dX11_still_39 dX11_still_42 dX11_still_43 dX11_still_46 dX11_still_49 ?_
          exact ⟨⟨rfl, rfl⟩, Or.inr ⟨rfl, by unfold stillA; rw [cif_pos (by omega), if_neg (by omega)]⟩⟩
        · refine x_iload_n (i := 2) dX11_still_33 rfl rfl ?_
          refine y_bi dX11_still_34 ⟨by decide, by decide⟩ ?_
          refine x_icmp_le (tgt := 50) dX11_still_36 rfl (fun h36 => ?_) (fun h36 => ?_)
          · refine y_ic dX11_still_50 ⟨by decide, by decide⟩ ?_
            refine x_istore (i := 4) dX11_still_51 rfl (Nat.le_of_ble_eq_true rfl) ?_
            refine y_ic dX11_still_53 ⟨by decide, by decide⟩ ?_
            refine x_istore (i := 5) dX11_still_54 rfl (Nat.le_of_ble_eq_true rfl) ?_
            refine y_ic dX11_still_56 ⟨by decide, by decide⟩ ?_
            refine x_istore (i := 6) dX11_still_57 rfl (Nat.le_of_ble_eq_true rfl) ?_
            refine x_keep [1, 1, 1, 1, 1, 1, 1, 0] ?_
            exact hL (by omega) (by omega) (by omega) _ 0 0 _ _ (Nat.lt_succ_self _) (by omega) (by omega) (PK.rf hW) Fc.rf (Or.inl ⟨rfl, rfl⟩)
          · refine xnIW (text := "1 to 10 days go by with him") rfl rfl (by decide +kernel) (Nat.le_of_ble_eq_true rfl) (by omega) (by decide) (by decide) dX11_still_39 dX11_still_42 dX11_still_43 dX11_still_46 dX11_still_49 ?_
            exact ⟨⟨rfl, rfl⟩, Or.inr ⟨rfl, by unfold stillA; rw [cif_pos (by omega), if_neg (by omega)]⟩⟩
      · refine xnNW (text := "no such person, or nothing of it") rfl rfl (by decide +kernel) (Nat.le_of_ble_eq_true rfl) (by omega) (by decide) (by decide) dX11_still_17 dX11_still_20 dX11_still_21 dX11_still_24 dX11_still_27 ?_
        exact ⟨⟨rfl, rfl⟩, Or.inl ⟨rfl, by unfold stillA; rw [cif_neg (by omega)]⟩⟩
theorem c_X11_nextSeed {s : Int} : Cv G mX11_nextSeed d 0 0 [.inl s] NO I P (qI NO (fun r I' P' => I' = I ∧ P' = P ∧ r = seedS s)) := by
  refine x_enter mfX11_nextSeed rfl (Nat.le_of_ble_eq_true rfl) (fun _ => ?_)
  refine x_iload_n (i := 0) dX11_nextSeed_0 rfl rfl ?_
  refine y_ldcw dX11_nextSeed_1 kcX11_431 (show _ = oI (1103515245) from rfl) ⟨by decide, by decide⟩ ?_
  refine x_imulW dX11_nextSeed_4 ?_
  refine y_si dX11_nextSeed_5 ⟨by decide, by decide⟩ ?_
  refine x_iaddW dX11_nextSeed_8 ?_
  refine x_iret dX11_nextSeed_9 rfl ?_
  exact ⟨rfl, rfl, rfl⟩
theorem c_X11_draw {s n : Int} (hn : 1 ≤ n ∧ n ≤ 6) : Cv G mX11_draw d 0 0 [.inl s, .inl n] NO I P (qI NO (fun r I' P' => I' = I ∧ P' = P ∧ r = drawS s n)) := by
  have hb := and15 (ushrF s 16)
  refine x_enter mfX11_draw rfl (Nat.le_of_ble_eq_true rfl) (fun _ => ?_)
  refine x_iload_n (i := 1) dX11_draw_0 rfl rfl ?_
  refine x_if_le (tgt := 17) dX11_draw_1 rfl (fun h1 => ?_) (fun h1 => ?_)
  · refine y_ic dX11_draw_17 ⟨by decide, by decide⟩ ?_
    refine x_iret dX11_draw_18 rfl ?_
    first | (exfalso; omega) | exact ⟨rfl, rfl, by unfold drawS; rw [dr_eq]⟩
  · refine x_iload_n (i := 0) dX11_draw_4 rfl rfl ?_
    refine y_bi dX11_draw_5 ⟨by decide, by decide⟩ ?_
    refine y_iushr dX11_draw_7 ?_
    refine y_si dX11_draw_8 ⟨by decide, by decide⟩ ?_
    refine y_iand dX11_draw_11 ?_
    refine x_iload_n (i := 1) dX11_draw_12 rfl rfl ?_
    refine x_irem dX11_draw_13 (by omega) (by omega) ?_
    refine x_goto (tgt := 18) dX11_draw_14 rfl ?_
    refine x_iret dX11_draw_18 rfl ?_
    first | (exfalso; omega) | exact ⟨rfl, rfl, by unfold drawS; rw [dr_eq]⟩
theorem c_X11_run {t : Nat} {n s : Int} (hW : WP P) (hM : MK I P 46 t (t + 13) T) (h1t : P 1 2 = t) (hF : WF T) (hr : RW T (I 47)) : Cv G mX11_run (d + 8) 1 6 [.inr (.inl 1), .inl n, .inl s] NO I P (qX NO (fun r I' P' => P' = P ∧ ((0 ≤ n ∧ n ≤ 400) ∧ 2 ≤ T 0 1) ∧ r = (runS T n s (I 47)).2.1 ∧ I' 47 = (runS T n s (I 47)).2.2 ∧ Fc (sM 46) I I') (fun c I' P' => (I' = I ∧ P' = P) ∧ ¬ ((0 ≤ n ∧ n ≤ 400) ∧ 2 ≤ T 0 1) ∧ c = tEI)) := by
  obtain ⟨hq, hTo, hLo, hpt, hpl, hca, hcl⟩ := id hM
  have wT := wp_T hW hTo
  have e0 : I t 0 = T 0 1 := hca.1
  have f1 := hF.1
  refine x_enter mfX11_run rfl (Nat.le_of_ble_eq_true rfl) (fun _ => ?_)
  have hL : ∀ (j : Nat) (k : Int) (K : Mem), (n - k).toNat < j → 0 ≤ k → k ≤ n → n ≤ 400 → 2 ≤ T 0 1 → K 47 = (runS T k s (I 47)).2.2 → Fc (sM 46) I K → V G mX11_run (d + 8) 1 6 41 [some (.inr (.inl 1)), some (.inl (n)), none, some (.inl ((runS T k s (I 47)).2.1)), some (.inl ((runS T k s (I 47)).1)), some (.inl (k)), none, none] [] NO K P (qX NO (fun r I' P' => P' = P ∧ ((0 ≤ n ∧ n ≤ 400) ∧ 2 ≤ T 0 1) ∧ r = (runS T n s (I 47)).2.1 ∧ I' 47 = (runS T n s (I 47)).2.2 ∧ Fc (sM 46) I I') (fun c I' P' => (I' = I ∧ P' = P) ∧ ¬ ((0 ≤ n ∧ n ≤ 400) ∧ 2 ≤ T 0 1) ∧ c = tEI)) := by
    intro j
    induction j with
    | zero => intro k K hj; omega
    | succ j ih =>
      intro k K hj hk hk2 hn ht hK kF
      have hMK := hM.fq kF
      have eK : K t 0 = T 0 1 := hMK.2.2.2.2.2.1.1
      have ho := runS_ok (s := s) hF hr ht hk
      have es := runS_s (T := T) (s := s) (r := I 47) hk
      obtain ⟨x, hx⟩ : ∃ x, x = runS T k s (I 47) := ⟨_, rfl⟩
      rw [← hx] at hK ho es ⊢
      have h2 := run_two (T := T) (s := x.1) ht
      have ed2 : drawS (seedS (seedS x.1)) (T 0 1 - 1) = andF (shrF (seedS (seedS x.1)) 16) 32767 % (T 0 1 - 1) := rfl
      have hC : ∀ i : Int, i = (if drawS (seedS (seedS x.1)) (T 0 1 - 1) ≥ runA T x.1 then 1 else 0) → drawS (seedS (seedS x.1)) (T 0 1 - 1) + i = runC T x.1 := fun i hi => by rw [hi]; rfl
      have hdr : 0 ≤ drawS (seedS (seedS x.1)) (T 0 1 - 1) ∧ drawS (seedS (seedS x.1)) (T 0 1 - 1) < T 0 1 := by
        rw [ed2]
        have a1 := Int.emod_nonneg (andF (shrF (seedS (seedS x.1)) 16) 32767) (show T 0 1 - 1 ≠ 0 by omega)
        have a2 := Int.emod_lt_of_pos (andF (shrF (seedS (seedS x.1)) 16) 32767) (show 0 < T 0 1 - 1 by omega)
        omega
      have nx : ∀ (i : Int) (K' : Mem), i = (if 0 < (meetS T x.2.2 (runA T x.1) (runC T x.1)).1 then 1 else 0) → k < n → K' 47 = (meetS T x.2.2 (runA T x.1) (runC T x.1)).2 → Fc (sM 46) I K' → V G mX11_run (d + 8) 1 6 41 [some (.inr (.inl 1)), some (.inl (n)), none, some (.inl (x.2.1 + i)), some (.inl (seedS (seedS x.1))), some (.inl (k + 1)), none, none] [] NO K' P (qX NO (fun r I' P' => P' = P ∧ ((0 ≤ n ∧ n ≤ 400) ∧ 2 ≤ T 0 1) ∧ r = (runS T n s (I 47)).2.1 ∧ I' 47 = (runS T n s (I 47)).2.2 ∧ Fc (sM 46) I I') (fun c I' P' => (I' = I ∧ P' = P) ∧ ¬ ((0 ≤ n ∧ n ≤ 400) ∧ 2 ≤ T 0 1) ∧ c = tEI)) := fun i K' hi hkn q1 q3 => by
        have := ih (k + 1) K' (by omega) (by omega) (by omega) hn ht (by rw [es]; exact q1) q3
        rw [es] at this
        rw [hi]
        exact this
      have hG : k < n → ∀ b : Int, b = runC T x.1 → V G mX11_run (d + 8) 1 6 101 [some (.inr (.inl 1)), some (.inl (n)), none, some (.inl (x.2.1)), some (.inl (seedS (seedS x.1))), some (.inl (k)), some (.inl (runA T x.1)), some (.inl (b))] [] NO K P (qX NO (fun r I' P' => P' = P ∧ ((0 ≤ n ∧ n ≤ 400) ∧ 2 ≤ T 0 1) ∧ r = (runS T n s (I 47)).2.1 ∧ I' 47 = (runS T n s (I 47)).2.2 ∧ Fc (sM 46) I I') (fun c I' P' => (I' = I ∧ P' = P) ∧ ¬ ((0 ≤ n ∧ n ≤ 400) ∧ 2 ≤ T 0 1) ∧ c = tEI)) := fun hkn b hb => by
        rw [hb]
        refine y_aln (i := 0) dX11_run_101 at1.ne0 rfl rfl ?_
        refine y_getp (z := 9) (v := 46) dX11_run_102 frX11_46 cfX11 at1 rfl rfl (wp (v := 46) hW rfl rfl (by decide)) ?_
        refine x_iload (i := 6) dX11_run_105 rfl ?_
        refine x_iload (i := 7) dX11_run_107 rfl ?_
        refine x_callVI (c_X3_encounter hW hMK hF (by show RW T (K 47); rw [hK]; exact ho.1) h2.1 h2.2.1 h2.2.2) dX11_run_109 lkX11_322 mfX3_encounter cfX3 at46 rfl rfl rfl rfl (Nat.le_of_ble_eq_true rfl) (fun r109 I109 P109 hr109 hf109 => ?_)
        obtain ⟨rfl, p109, o109, f109⟩ := hf109
        rw [show K (46 + 1) = x.2.2 from hK] at p109 o109
        refine x_if_le (tgt := 118) dX11_run_112 rfl (fun h112 => ?_) (fun h112 => ?_)
        · refine x_iinc dX11_run_118 rfl ⟨by omega, by omega⟩ rfl (Nat.le_of_ble_eq_true rfl) ?_
          refine x_goto (tgt := 41) dX11_run_121 rfl ?_
          refine x_keep [1, 1, 0, 1, 1, 1, 0, 0] ?_
          first | exact nx 1 _ (by rw [if_pos (by omega)]) hkn o109 (kF.tr f109) | (have := nx 0 _ (by rw [if_neg (by omega)]) hkn o109 (kF.tr f109); rw [Int.add_zero] at this; exact this)
        · refine x_iinc dX11_run_115 rfl ⟨by omega, by omega⟩ rfl (Nat.le_of_ble_eq_true rfl) ?_
          refine x_iinc dX11_run_118 rfl ⟨by omega, by omega⟩ rfl (Nat.le_of_ble_eq_true rfl) ?_
          refine x_goto (tgt := 41) dX11_run_121 rfl ?_
          refine x_keep [1, 1, 0, 1, 1, 1, 0, 0] ?_
          first | exact nx 1 _ (by rw [if_pos (by omega)]) hkn o109 (kF.tr f109) | (have := nx 0 _ (by rw [if_neg (by omega)]) hkn o109 (kF.tr f109); rw [Int.add_zero] at this; exact this)
      refine x_iload (i := 5) dX11_run_41 rfl ?_
      refine x_iload_n (i := 1) dX11_run_43 rfl rfl ?_
      refine x_icmp_ge (tgt := 124) dX11_run_44 rfl (fun h44 => ?_) (fun h44 => ?_)
      · refine x_iload_n (i := 3) dX11_run_124 rfl rfl ?_
        refine x_iretX dX11_run_125 rfl ?_
        refine ⟨rfl, by omega, ?_, ?_, kF⟩
        · rw [hx, show k = n by omega]
        · rw [hK, hx, show k = n by omega]
      · refine x_iload (i := 4) dX11_run_47 rfl ?_
        refine x_callSI (c_X11_nextSeed) dX11_run_49 lkX11_406 mfX11_nextSeed rfl rfl rfl (Nat.le_of_ble_eq_true rfl) (fun r49 I49 P49 hr49 hf49 => ?_)
        obtain ⟨i49, p49, q49⟩ := hf49
        rw [i49, p49, q49]
        refine x_istore (i := 4) dX11_run_52 rfl (Nat.le_of_ble_eq_true rfl) ?_
        refine x_iload (i := 4) dX11_run_54 rfl ?_
        refine y_aln (i := 0) dX11_run_56 at1.ne0 rfl rfl ?_
        refine y_getp (z := 2) (v := t) dX11_run_57 frX11_16 cfX11 at1 rfl rfl h1t ?_
        refine y_geti (z := 0) dX11_run_60 frX11_134 cfX10 hTo.at rfl rfl ?_
        rw [eK]
        refine x_callSI (c_X11_draw (by omega)) dX11_run_63 lkX11_409 mfX11_draw rfl rfl rfl (Nat.le_of_ble_eq_true rfl) (fun r63 I63 P63 hr63 hf63 => ?_)
        obtain ⟨i63, p63, q63⟩ := hf63
        rw [i63, p63, q63]
        rw [show drawS (seedS x.1) (T 0 1) = runA T x.1 from rfl]
        refine x_istore (i := 6) dX11_run_66 rfl (Nat.le_of_ble_eq_true rfl) ?_
        refine x_iload (i := 4) dX11_run_68 rfl ?_
        refine x_callSI (c_X11_nextSeed) dX11_run_70 lkX11_406 mfX11_nextSeed rfl rfl rfl (Nat.le_of_ble_eq_true rfl) (fun r70 I70 P70 hr70 hf70 => ?_)
        obtain ⟨i70, p70, q70⟩ := hf70
        rw [i70, p70, q70]
        refine x_istore (i := 4) dX11_run_73 rfl (Nat.le_of_ble_eq_true rfl) ?_
        refine x_iload (i := 4) dX11_run_75 rfl ?_
        refine y_aln (i := 0) dX11_run_77 at1.ne0 rfl rfl ?_
        refine y_getp (z := 2) (v := t) dX11_run_78 frX11_16 cfX11 at1 rfl rfl h1t ?_
        refine y_geti (z := 0) dX11_run_81 frX11_134 cfX10 hTo.at rfl rfl ?_
        rw [eK]
        refine y_ic dX11_run_84 ⟨by decide, by decide⟩ ?_
        refine x_isub dX11_run_85 ⟨by omega, by omega⟩ ?_
        refine x_callSI (c_X11_draw (by omega)) dX11_run_86 lkX11_409 mfX11_draw rfl rfl rfl (Nat.le_of_ble_eq_true rfl) (fun r86 I86 P86 hr86 hf86 => ?_)
        obtain ⟨i86, p86, q86⟩ := hf86
        rw [i86, p86, q86]
        refine x_istore (i := 7) dX11_run_89 rfl (Nat.le_of_ble_eq_true rfl) ?_
        refine x_iload (i := 7) dX11_run_91 rfl ?_
        refine x_iload (i := 6) dX11_run_93 rfl ?_
        refine x_icmp_lt (tgt := 101) dX11_run_95 rfl (fun h95 => ?_) (fun h95 => ?_)
        · refine x_keep [1, 1, 0, 1, 1, 1, 1, 1] ?_
          first | exact hG (by omega) _ (hC 1 (by rw [if_pos (by omega)])) | exact hG (by omega) _ ((Int.add_zero _).symm.trans (hC 0 (by rw [if_neg (by omega)])))
        · refine x_iinc dX11_run_98 rfl ⟨by omega, by omega⟩ rfl (Nat.le_of_ble_eq_true rfl) ?_
          refine x_keep [1, 1, 0, 1, 1, 1, 1, 1] ?_
          first | exact hG (by omega) _ (hC 1 (by rw [if_pos (by omega)])) | exact hG (by omega) _ ((Int.add_zero _).symm.trans (hC 0 (by rw [if_neg (by omega)])))
  refine x_iload_n (i := 1) dX11_run_0 rfl rfl ?_
  refine x_if_lt (tgt := 22) dX11_run_1 rfl (fun h1 => ?_) (fun h1 => ?_)
  · refine xnIW (text := "0 to 400 meetings of two people") rfl rfl (by decide +kernel) (Nat.le_of_ble_eq_true rfl) (by omega) (by decide) (by decide) dX11_run_22 dX11_run_25 dX11_run_26 dX11_run_29 dX11_run_32 ?_
    exact ⟨⟨rfl, rfl⟩, by omega, rfl⟩
  · refine x_iload_n (i := 1) dX11_run_4 rfl rfl ?_
    refine y_si dX11_run_5 ⟨by decide, by decide⟩ ?_
    refine x_icmp_gt (tgt := 22) dX11_run_8 rfl (fun h8 => ?_) (fun h8 => ?_)
    · refine xnIW (text := "0 to 400 meetings of two people") rfl rfl (by decide +kernel) (Nat.le_of_ble_eq_true rfl) (by omega) (by decide) (by decide) dX11_run_22 dX11_run_25 dX11_run_26 dX11_run_29 dX11_run_32 ?_
      exact ⟨⟨rfl, rfl⟩, by omega, rfl⟩
    · refine y_aln (i := 0) dX11_run_11 at1.ne0 rfl rfl ?_
      refine y_getp (z := 2) (v := t) dX11_run_12 frX11_16 cfX11 at1 rfl rfl h1t ?_
      refine y_geti (z := 0) dX11_run_15 frX11_134 cfX10 hTo.at rfl rfl ?_
      refine y_ic dX11_run_18 ⟨by decide, by decide⟩ ?_
      refine x_icmp_ge (tgt := 33) dX11_run_19 rfl (fun h19 => ?_) (fun h19 => ?_)
      · refine y_ic dX11_run_33 ⟨by decide, by decide⟩ ?_
        refine x_istore_n (i := 3) dX11_run_34 rfl rfl (Nat.le_of_ble_eq_true rfl) ?_
        refine x_iload_n (i := 2) dX11_run_35 rfl rfl ?_
        refine x_istore (i := 4) dX11_run_36 rfl (Nat.le_of_ble_eq_true rfl) ?_
        refine y_ic dX11_run_38 ⟨by decide, by decide⟩ ?_
        refine x_istore (i := 5) dX11_run_39 rfl (Nat.le_of_ble_eq_true rfl) ?_
        refine x_keep [1, 1, 0, 1, 1, 1, 0, 0] ?_
        exact hL _ 0 _ (Nat.lt_succ_self _) (by omega) (by omega) (by omega) (by omega) rfl Fc.rf
      · refine xnIW (text := "0 to 400 meetings of two people") rfl rfl (by decide +kernel) (Nat.le_of_ble_eq_true rfl) (by omega) (by decide) (by decide) dX11_run_22 dX11_run_25 dX11_run_26 dX11_run_29 dX11_run_32 ?_
        exact ⟨⟨rfl, rfl⟩, by omega, rfl⟩
end

