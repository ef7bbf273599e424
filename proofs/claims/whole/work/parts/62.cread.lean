/-! ===== the class: the reader's steps ===== -/
def TKC (K : Mem) (k : Tn) (m : Int) : Prop := (0 ≤ m ∧ m ≤ 700) ∧ (∀ j, 0 ≤ j → j ≤ m → K 43 j = k 0 j ∧ K 44 j = k 1 j ∧ (k 0 j = 2 → K 45 j = k 2 j)) ∧ (∀ j, 0 ≤ j → j < m → k 0 j ≠ 0) ∧ ∀ j, m ≤ j → k 0 j = 0 ∧ k 1 j = k 1 m
theorem TKC.fr {I J : Mem} {k : Tn} {m : Int} (h : TKC I k m) (h1 : J 43 = I 43) (h2 : J 44 = I 44) (h3 : J 45 = I 45) : TKC J k m := by
  unfold TKC
  rw [h1, h2, h3]
  exact h
def FL (S : List Int) (I J : Mem) : Prop := (∀ a, a ≠ 41 → J a = I a) ∧ ∀ f, f ∉ S → J 41 f = I 41 f
theorem FL.rf {S : List Int} {I : Mem} : FL S I I := ⟨fun _ _ => rfl, fun _ _ => rfl⟩
theorem FL.tr {S : List Int} {I J K : Mem} (h : FL S I J) (h2 : FL S J K) : FL S I K := ⟨fun a ha => (h2.1 a ha).trans (h.1 a ha), fun f hf => (h2.2 f hf).trans (h.2 f hf)⟩
theorem FL.ui {S : List Int} {I J : Mem} {f v : Int} (h : FL S I J) (hf : f ∈ S) : FL S I (uI J 41 f v) := ⟨fun a ha => by rw [uI_ne ha]; exact h.1 a ha, fun g hg => by rw [uI_eq, u1_ne (fun e => hg (by rw [e]; exact hf))]; exact h.2 g hg⟩
theorem FL.mo {S S' : List Int} {I J : Mem} (h : FL S I J) (hs : ∀ f, f ∈ S → f ∈ S') : FL S' I J := ⟨h.1, fun f hf => h.2 f (fun q => hf (hs f q))⟩
abbrev aF : List Int := [2, 3, 4, 5]
abbrev rF : List Int := [2, 3, 4, 5, 6]
/-- the token i is at hand -/
def ATK (K : Mem) (k : Tn) (m i : Int) : Prop := K 41 2 = min (i + 1) m ∧ K 41 3 = k 1 i ∧ K 41 4 = k 0 i ∧ (k 0 i = 2 → K 41 5 = k 2 i)
section
variable {G : HX} {d : Nat} {I : Mem} {P : Ptr} {k : Tn} {m i : Int}
theorem c_X6_advance (hW : WP P) (hk : TKC I k m) (hi : 0 ≤ i) (hb : I 41 2 = min i m) : Cv G mX6_advance d 0 0 [.inr (.inl 41)] NO I P (qV (fun n' I' P' => n' = NO ∧ P' = P ∧ FL aF I I' ∧ ATK I' k m i)) := by
  obtain ⟨hm, hj, hnz, hz⟩ := id hk
  have hx := hj (min i m) (by omega) (by omega)
  have hkk : k 0 (min i m) = k 0 i ∧ k 1 (min i m) = k 1 i ∧ (k 0 i = 2 → k 2 (min i m) = k 2 i) := by
    by_cases q : i ≤ m
    · rw [show min i m = i by omega]; exact ⟨rfl, rfl, fun _ => rfl⟩
    · have h1 := hz i (by omega)
      have h2 := hz m (by omega)
      rw [show min i m = m by omega]
      exact ⟨by rw [h1.1, h2.1], h1.2.symm, fun z => by rw [h1.1] at z; omega⟩
  rw [hkk.1, hkk.2.1] at hx
  have hl : k 0 i ≠ 0 → i < m := fun q => by
    by_cases z : i < m
    · exact z
    · exact absurd (hz i (by omega)).1 q
  have hr : k 0 i = 0 → m ≤ i := fun q => by
    by_cases z : m ≤ i
    · exact z
    · exact absurd q (hnz i hi (by omega))
  have e2 : ∀ v, uI I 41 3 v 41 2 = min i m := fun v => by rw [uI_eq, u1_ne (by decide)]; exact hb
  have e43 : ∀ v, uI I 41 3 v 43 (min i m) = k 0 i := fun v => by rw [uI_ne (by decide)]; exact hx.1
  have e22 : ∀ v w, uI (uI I 41 3 v) 41 4 w 41 2 = min i m := fun v w => by rw [uI_eq, u1_ne (by decide)]; exact e2 v
  have e44 : ∀ v w u, uI (uI (uI I 41 3 v) 41 4 w) 41 5 u 41 4 = w := fun v w u => by rw [uI_eq, u1_ne (by decide), uI_eq, u1_eq]
  have e222 : ∀ v w u, uI (uI (uI I 41 3 v) 41 4 w) 41 5 u 41 2 = min i m := fun v w u => by rw [uI_eq, u1_ne (by decide)]; exact e22 v w
  obtain ⟨v45, hv45⟩ : ∃ v45, v45 = I 45 (min i m) := ⟨_, rfl⟩
  have e45 : ∀ v w, uI (uI I 41 3 v) 41 4 w 45 (min i m) = v45 := fun v w => by rw [uI_ne (by decide), uI_ne (by decide), hv45]
  have hfin : ∀ b, b = min (i + 1) m → ATK (uI (uI (uI (uI I 41 3 (k 1 i)) 41 4 (k 0 i)) 41 5 v45) 41 2 b) k m i := fun b hb => ⟨by rw [uI_eq, u1_eq, hb], by rw [uI_eq, u1_ne (by decide), uI_eq, u1_ne (by decide), uI_eq, u1_ne (by decide), uI_eq, u1_eq], by rw [uI_eq, u1_ne (by decide)]; exact e44 _ _ _, fun q => by rw [uI_eq, u1_ne (by decide), uI_eq, u1_eq, hv45, hx.2.2 q]; exact hkk.2.2 q⟩
  have hFL : ∀ v w u, FL aF I (uI (uI (uI I 41 3 v) 41 4 w) 41 5 u) := fun v w u => ((FL.rf.ui (by decide)).ui (by decide)).ui (by decide)
  refine x_enter mfX6_advance rfl (Nat.le_of_ble_eq_true rfl) (fun _ => ?_)
  refine y_aln (i := 0) dX6_advance_0 at41.ne0 rfl rfl ?_
  refine y_aln (i := 0) dX6_advance_1 at41.ne0 rfl rfl ?_
  refine y_getp (z := 0) (v := 42) dX6_advance_2 frX6_9 cfX6 at41 rfl rfl (wp (v := 42) hW rfl rfl (by decide)) ?_
  refine y_getp (z := 5) (v := 44) dX6_advance_5 frX6_169 cfX9 at42 rfl rfl (wp (v := 44) hW rfl rfl (by decide)) ?_
  refine y_aln (i := 0) dX6_advance_8 at41.ne0 rfl rfl ?_
  refine y_geti (z := 2) dX6_advance_9 frX6_30 cfX6 at41 rfl rfl ?_
  rw [hb]
  refine x_iald dX6_advance_12 ar44 ⟨by omega, by omega⟩ ?_
  rw [hx.2.1]
  refine y_puti (z := 3) dX6_advance_13 frX6_172 cfX6 at41 rfl rfl rfl ?_
  refine y_aln (i := 0) dX6_advance_16 at41.ne0 rfl rfl ?_
  refine y_aln (i := 0) dX6_advance_17 at41.ne0 rfl rfl ?_
  refine y_getp (z := 0) (v := 42) dX6_advance_18 frX6_9 cfX6 at41 rfl rfl (wp (v := 42) hW rfl rfl (by decide)) ?_
  refine y_getp (z := 4) (v := 43) dX6_advance_21 frX6_175 cfX9 at42 rfl rfl (wp (v := 43) hW rfl rfl (by decide)) ?_
  refine y_aln (i := 0) dX6_advance_24 at41.ne0 rfl rfl ?_
  refine y_geti (z := 2) dX6_advance_25 frX6_30 cfX6 at41 rfl rfl ?_
  rw [e2]
  refine x_iald dX6_advance_28 ar43 ⟨by omega, by omega⟩ ?_
  rw [e43]
  refine y_puti (z := 4) dX6_advance_29 frX6_44 cfX6 at41 rfl rfl rfl ?_
  refine y_aln (i := 0) dX6_advance_32 at41.ne0 rfl rfl ?_
  refine y_aln (i := 0) dX6_advance_33 at41.ne0 rfl rfl ?_
  refine y_getp (z := 0) (v := 42) dX6_advance_34 frX6_9 cfX6 at41 rfl rfl (wp (v := 42) hW rfl rfl (by decide)) ?_
  refine y_getp (z := 6) (v := 45) dX6_advance_37 frX6_178 cfX9 at42 rfl rfl (wp (v := 45) hW rfl rfl (by decide)) ?_
  refine y_aln (i := 0) dX6_advance_40 at41.ne0 rfl rfl ?_
  refine y_geti (z := 2) dX6_advance_41 frX6_30 cfX6 at41 rfl rfl ?_
  rw [e22]
  refine x_iald dX6_advance_44 ar45 ⟨by omega, by omega⟩ ?_
  rw [e45]
  refine y_puti (z := 5) dX6_advance_45 frX6_85 cfX6 at41 rfl rfl rfl ?_
  refine y_aln (i := 0) dX6_advance_48 at41.ne0 rfl rfl ?_
  refine y_geti (z := 4) dX6_advance_49 frX6_44 cfX6 at41 rfl rfl ?_
  rw [e44]
  refine x_if_eq (tgt := 75) dX6_advance_52 rfl (fun h52 => ?_) (fun h52 => ?_)
  · refine x_vret dX6_advance_75 rfl ?_
    first | (have z1 := hlt; exact ⟨rfl, rfl, (hFL _ _ _).ui (by decide), hfin _ (by omega)⟩) | (have z1 := h62; exact absurd (hl h52) (by omega)) | (have z1 := hr (by omega); exact ⟨rfl, rfl, hFL _ _ _, by rw [show uI (uI (uI I 41 3 (k 1 i)) 41 4 (k 0 i)) 41 5 v45 = uI (uI (uI (uI I 41 3 (k 1 i)) 41 4 (k 0 i)) 41 5 v45) 41 2 (uI (uI (uI I 41 3 (k 1 i)) 41 4 (k 0 i)) 41 5 v45 41 2) from uI_self.symm]; exact hfin _ (by rw [e222]; omega)⟩)
  · refine y_aln (i := 0) dX6_advance_55 at41.ne0 rfl rfl ?_
    refine y_geti (z := 2) dX6_advance_56 frX6_30 cfX6 at41 rfl rfl ?_
    rw [e222]
    refine y_si dX6_advance_59 ⟨by decide, by decide⟩ ?_
    refine x_icmp_ge (tgt := 75) dX6_advance_62 rfl (fun h62 => ?_) (fun h62 => ?_)
    · refine x_vret dX6_advance_75 rfl ?_
      first | (have z1 := hlt; exact ⟨rfl, rfl, (hFL _ _ _).ui (by decide), hfin _ (by omega)⟩) | (have z1 := h62; exact absurd (hl h52) (by omega)) | (have z1 := hr (by omega); exact ⟨rfl, rfl, hFL _ _ _, by rw [show uI (uI (uI I 41 3 (k 1 i)) 41 4 (k 0 i)) 41 5 v45 = uI (uI (uI (uI I 41 3 (k 1 i)) 41 4 (k 0 i)) 41 5 v45) 41 2 (uI (uI (uI I 41 3 (k 1 i)) 41 4 (k 0 i)) 41 5 v45 41 2) from uI_self.symm]; exact hfin _ (by rw [e222]; omega)⟩)
    · have hlt := hl h52
      refine y_aln (i := 0) dX6_advance_65 at41.ne0 rfl rfl ?_
      refine x_dup dX6_advance_66 rfl ?_
      refine y_geti (z := 2) dX6_advance_67 frX6_30 cfX6 at41 rfl rfl ?_
      rw [e222]
      refine y_ic dX6_advance_70 ⟨by decide, by decide⟩ ?_
      refine x_iadd dX6_advance_71 ⟨by omega, by omega⟩ ?_
      refine y_puti (z := 2) dX6_advance_72 frX6_30 cfX6 at41 rfl rfl rfl ?_
      refine x_vret dX6_advance_75 rfl ?_
      first | (have z1 := hlt; exact ⟨rfl, rfl, (hFL _ _ _).ui (by decide), hfin _ (by omega)⟩) | (have z1 := h62; exact absurd (hl h52) (by omega)) | (have z1 := hr (by omega); exact ⟨rfl, rfl, hFL _ _ _, by rw [show uI (uI (uI I 41 3 (k 1 i)) 41 4 (k 0 i)) 41 5 v45 = uI (uI (uI (uI I 41 3 (k 1 i)) 41 4 (k 0 i)) 41 5 v45) 41 2 (uI (uI (uI I 41 3 (k 1 i)) 41 4 (k 0 i)) 41 5 v45 41 2) from uI_self.symm]; exact hfin _ (by rw [e222]; omega)⟩)
theorem c_X6_refuse {c : Int} (hW : WP P) : Cv G mX6_refuse d 0 0 [.inr (.inl 41), .inl c] NO I P (qI NO (fun r I' P' => P' = P ∧ r = 0 ∧ I' = uI I 41 6 c)) := by
  refine x_enter mfX6_refuse rfl (Nat.le_of_ble_eq_true rfl) (fun _ => ?_)
  refine y_aln (i := 0) dX6_refuse_0 at41.ne0 rfl rfl ?_
  refine x_iload_n (i := 1) dX6_refuse_1 rfl rfl ?_
  refine y_puti (z := 6) dX6_refuse_2 frX6_34 cfX6 at41 rfl rfl rfl ?_
  refine y_ic dX6_refuse_5 ⟨by decide, by decide⟩ ?_
  refine x_zret dX6_refuse_6 (by omega) rfl ?_
  exact ⟨rfl, rfl, rfl⟩
theorem c_X6_isSign (hW : WP P) (hk : TKC I k m) (hi : 0 ≤ i) (hb : I 41 2 = min i m) : Cv G mX6_isSign (d + 1) 0 0 [.inr (.inl 41)] NO I P (qI NO (fun r I' P' => P' = P ∧ FL rF I I' ∧ ATK I' k m i ∧ ((r = 1 ∧ k 0 i = 1 ∧ I' 41 6 = I 41 6) ∨ (r = 0 ∧ k 0 i ≠ 1 ∧ I' 41 6 = 1)))) := by
  refine x_enter mfX6_isSign rfl (Nat.le_of_ble_eq_true rfl) (fun _ => ?_)
  refine y_aln (i := 0) dX6_isSign_0 at41.ne0 rfl rfl ?_
  refine x_callVV (c_X6_advance hW hk hi hb) dX6_isSign_1 lkX6_41 mfX6_advance cfX6 at41 rfl rfl rfl rfl (Nat.le_of_ble_eq_true rfl) (fun n1 I1 P1 hf1 => ?_)
  obtain ⟨rfl, rfl, f1, a1⟩ := hf1
  refine y_aln (i := 0) dX6_isSign_4 at41.ne0 rfl rfl ?_
  refine y_geti (z := 4) dX6_isSign_5 frX6_44 cfX6 at41 rfl rfl ?_
  rw [a1.2.2.1]
  refine y_ic dX6_isSign_8 ⟨by decide, by decide⟩ ?_
  refine x_icmp_eq (tgt := 20) dX6_isSign_9 rfl (fun h9 => ?_) (fun h9 => ?_)
  · refine y_ic dX6_isSign_20 ⟨by decide, by decide⟩ ?_
    refine x_goto (tgt := 25) dX6_isSign_21 rfl ?_
    refine x_zret dX6_isSign_25 (by omega) rfl ?_
    first | (have z1 := h14; exact ⟨rfl, by rw [h14]; exact FL.ui (S := rF) (f1.mo (by decide)) (by decide), ⟨by rw [h14, uI_eq, u1_ne (by decide)]; exact a1.1, by rw [h14, uI_eq, u1_ne (by decide)]; exact a1.2.1, by rw [h14, uI_eq, u1_ne (by decide)]; exact a1.2.2.1, fun q => by rw [h14, uI_eq, u1_ne (by decide)]; exact a1.2.2.2 q⟩, Or.inr ⟨rfl, h9, by rw [h14, uI_eq, u1_eq]⟩⟩) | exact ⟨rfl, f1.mo (by decide), a1, Or.inl ⟨rfl, by omega, f1.2 6 (by decide)⟩⟩
  · refine y_aln (i := 0) dX6_isSign_12 at41.ne0 rfl rfl ?_
    refine y_ic dX6_isSign_13 ⟨by decide, by decide⟩ ?_
    refine x_callVI (c_X6_refuse hW) dX6_isSign_14 lkX6_77 mfX6_refuse cfX6 at41 rfl rfl rfl rfl (Nat.le_of_ble_eq_true rfl) (fun r14 I14 P14 hr14 hf14 => ?_)
    obtain ⟨rfl, rfl, h14⟩ := hf14
    refine x_if_eq (tgt := 24) dX6_isSign_17 rfl (fun h17 => ?_) (fun h17 => ?_)
    · refine y_ic dX6_isSign_24 ⟨by decide, by decide⟩ ?_
      refine x_zret dX6_isSign_25 (by omega) rfl ?_
      first | (have z1 := h14; exact ⟨rfl, by rw [h14]; exact FL.ui (S := rF) (f1.mo (by decide)) (by decide), ⟨by rw [h14, uI_eq, u1_ne (by decide)]; exact a1.1, by rw [h14, uI_eq, u1_ne (by decide)]; exact a1.2.1, by rw [h14, uI_eq, u1_ne (by decide)]; exact a1.2.2.1, fun q => by rw [h14, uI_eq, u1_ne (by decide)]; exact a1.2.2.2 q⟩, Or.inr ⟨rfl, h9, by rw [h14, uI_eq, u1_eq]⟩⟩) | exact ⟨rfl, f1.mo (by decide), a1, Or.inl ⟨rfl, by omega, f1.2 6 (by decide)⟩⟩
    · exact absurd rfl h17
theorem ATK.w {K : Mem} {v : Int} (h : ATK K k m i) : ATK (uI K 41 6 v) k m i := ⟨by rw [uI_eq, u1_ne (by decide)]; exact h.1, by rw [uI_eq, u1_ne (by decide)]; exact h.2.1, by rw [uI_eq, u1_ne (by decide)]; exact h.2.2.1, fun q => by rw [uI_eq, u1_ne (by decide)]; exact h.2.2.2 q⟩
theorem c_X6_isNumber {lo hi : Int} (hW : WP P) (hk : TKC I k m) (hi0 : 0 ≤ i) (hb : I 41 2 = min i m) : Cv G mX6_isNumber (d + 1) 0 0 [.inr (.inl 41), .inl lo, .inl hi] NO I P (qI NO (fun r I' P' => P' = P ∧ FL rF I I' ∧ ATK I' k m i ∧ ((r = 1 ∧ numC k lo hi i = 0 ∧ k 0 i = 2 ∧ (lo ≤ k 2 i ∧ k 2 i ≤ hi) ∧ I' 41 6 = I 41 6) ∨ (r = 0 ∧ numC k lo hi i ≠ 0 ∧ I' 41 6 = numC k lo hi i)))) := by
  refine x_enter mfX6_isNumber rfl (Nat.le_of_ble_eq_true rfl) (fun _ => ?_)
  refine y_aln (i := 0) dX6_isNumber_0 at41.ne0 rfl rfl ?_
  refine x_callVV (c_X6_advance hW hk hi0 hb) dX6_isNumber_1 lkX6_41 mfX6_advance cfX6 at41 rfl rfl rfl rfl (Nat.le_of_ble_eq_true rfl) (fun n1 I1 P1 hf1 => ?_)
  obtain ⟨rfl, rfl, f1, a1⟩ := hf1
  have g1 : FL rF I I1 := f1.mo (by decide)
  refine y_aln (i := 0) dX6_isNumber_4 at41.ne0 rfl rfl ?_
  refine y_geti (z := 4) dX6_isNumber_5 frX6_44 cfX6 at41 rfl rfl ?_
  rw [a1.2.2.1]
  refine y_ic dX6_isNumber_8 ⟨by decide, by decide⟩ ?_
  refine x_icmp_eq (tgt := 18) dX6_isNumber_9 rfl (fun h9 => ?_) (fun h9 => ?_)
  · have a5 := a1.2.2.2 h9
    refine y_aln (i := 0) dX6_isNumber_18 at41.ne0 rfl rfl ?_
    refine y_geti (z := 5) dX6_isNumber_19 frX6_85 cfX6 at41 rfl rfl ?_
    rw [a5]
    refine x_iload_n (i := 1) dX6_isNumber_22 rfl rfl ?_
    refine x_icmp_lt (tgt := 34) dX6_isNumber_23 rfl (fun h23 => ?_) (fun h23 => ?_)
    · refine y_aln (i := 0) dX6_isNumber_34 at41.ne0 rfl rfl ?_
      refine y_ic dX6_isNumber_35 ⟨by decide, by decide⟩ ?_
      refine x_callVI (c_X6_refuse hW) dX6_isNumber_36 lkX6_77 mfX6_refuse cfX6 at41 rfl rfl rfl rfl (Nat.le_of_ble_eq_true rfl) (fun r36 I36 P36 hr36 hf36 => ?_)
      obtain ⟨rfl, rfl, h36⟩ := hf36
      have e2 : numC k lo hi i = 2 := by unfold numC; rw [if_neg (by omega), if_neg (by omega)]
      refine x_if_eq (tgt := 46) dX6_isNumber_39 rfl (fun h39 => ?_) (fun h39 => ?_)
      · refine y_ic dX6_isNumber_46 ⟨by decide, by decide⟩ ?_
        refine x_zret dX6_isNumber_47 (by omega) rfl ?_
        first | (have z1 := h36; exact ⟨rfl, by rw [h36]; exact g1.ui (by decide), by rw [h36]; exact a1.w, Or.inr ⟨rfl, by omega, by rw [h36, uI_eq, u1_eq, e2]⟩⟩) | (have e0 : numC k lo hi i = 0 := (by unfold numC; rw [if_neg (by omega), if_pos ⟨by omega, by omega⟩]); exact ⟨rfl, g1, a1, Or.inl ⟨rfl, e0, h9, ⟨by omega, by omega⟩, f1.2 6 (by decide)⟩⟩)
      · exact absurd rfl h39
    · refine y_aln (i := 0) dX6_isNumber_26 at41.ne0 rfl rfl ?_
      refine y_geti (z := 5) dX6_isNumber_27 frX6_85 cfX6 at41 rfl rfl ?_
      rw [a5]
      refine x_iload_n (i := 2) dX6_isNumber_30 rfl rfl ?_
      refine x_icmp_le (tgt := 42) dX6_isNumber_31 rfl (fun h31 => ?_) (fun h31 => ?_)
      · refine y_ic dX6_isNumber_42 ⟨by decide, by decide⟩ ?_
        refine x_goto (tgt := 47) dX6_isNumber_43 rfl ?_
        refine x_zret dX6_isNumber_47 (by omega) rfl ?_
        first | (have z1 := h36; exact ⟨rfl, by rw [h36]; exact g1.ui (by decide), by rw [h36]; exact a1.w, Or.inr ⟨rfl, by omega, by rw [h36, uI_eq, u1_eq, e2]⟩⟩) | (have e0 : numC k lo hi i = 0 := (by unfold numC; rw [if_neg (by omega), if_pos ⟨by omega, by omega⟩]); exact ⟨rfl, g1, a1, Or.inl ⟨rfl, e0, h9, ⟨by omega, by omega⟩, f1.2 6 (by decide)⟩⟩)
      · refine y_aln (i := 0) dX6_isNumber_34 at41.ne0 rfl rfl ?_
        refine y_ic dX6_isNumber_35 ⟨by decide, by decide⟩ ?_
        refine x_callVI (c_X6_refuse hW) dX6_isNumber_36 lkX6_77 mfX6_refuse cfX6 at41 rfl rfl rfl rfl (Nat.le_of_ble_eq_true rfl) (fun r36 I36 P36 hr36 hf36 => ?_)
        obtain ⟨rfl, rfl, h36⟩ := hf36
        have e2 : numC k lo hi i = 2 := by unfold numC; rw [if_neg (by omega), if_neg (by omega)]
        refine x_if_eq (tgt := 46) dX6_isNumber_39 rfl (fun h39 => ?_) (fun h39 => ?_)
        · refine y_ic dX6_isNumber_46 ⟨by decide, by decide⟩ ?_
          refine x_zret dX6_isNumber_47 (by omega) rfl ?_
          first | (have z1 := h36; exact ⟨rfl, by rw [h36]; exact g1.ui (by decide), by rw [h36]; exact a1.w, Or.inr ⟨rfl, by omega, by rw [h36, uI_eq, u1_eq, e2]⟩⟩) | (have e0 : numC k lo hi i = 0 := (by unfold numC; rw [if_neg (by omega), if_pos ⟨by omega, by omega⟩]); exact ⟨rfl, g1, a1, Or.inl ⟨rfl, e0, h9, ⟨by omega, by omega⟩, f1.2 6 (by decide)⟩⟩)
        · exact absurd rfl h39
  · have en : numC k lo hi i = 1 := if_pos h9
    refine y_aln (i := 0) dX6_isNumber_12 at41.ne0 rfl rfl ?_
    refine y_ic dX6_isNumber_13 ⟨by decide, by decide⟩ ?_
    refine x_callVI (c_X6_refuse hW) dX6_isNumber_14 lkX6_77 mfX6_refuse cfX6 at41 rfl rfl rfl rfl (Nat.le_of_ble_eq_true rfl) (fun r14 I14 P14 hr14 hf14 => ?_)
    obtain ⟨rfl, rfl, h14⟩ := hf14
    refine x_zret dX6_isNumber_17 (by omega) rfl ?_
    exact ⟨rfl, by rw [h14]; exact g1.ui (by decide), by rw [h14]; exact a1.w, Or.inr ⟨rfl, by omega, by rw [h14, uI_eq, u1_eq, en]⟩⟩
theorem c_X6_isOneBelow {hi : Int} (hW : WP P) (hk : TKC I k m) (hi0 : 0 ≤ i) (hb : I 41 2 = min i m) : Cv G mX6_isOneBelow (d + 1) 0 0 [.inr (.inl 41), .inl hi] NO I P (qI NO (fun r I' P' => P' = P ∧ FL rF I I' ∧ ATK I' k m i ∧ ((r = 1 ∧ belC k hi i = 0 ∧ k 0 i = 2 ∧ (0 ≤ k 2 i ∧ k 2 i < hi) ∧ I' 41 6 = I 41 6) ∨ (r = 0 ∧ belC k hi i ≠ 0 ∧ I' 41 6 = belC k hi i)))) := by
  refine x_enter mfX6_isOneBelow rfl (Nat.le_of_ble_eq_true rfl) (fun _ => ?_)
  refine y_aln (i := 0) dX6_isOneBelow_0 at41.ne0 rfl rfl ?_
  refine x_callVV (c_X6_advance hW hk hi0 hb) dX6_isOneBelow_1 lkX6_41 mfX6_advance cfX6 at41 rfl rfl rfl rfl (Nat.le_of_ble_eq_true rfl) (fun n1 I1 P1 hf1 => ?_)
  obtain ⟨rfl, rfl, f1, a1⟩ := hf1
  have g1 : FL rF I I1 := f1.mo (by decide)
  refine y_aln (i := 0) dX6_isOneBelow_4 at41.ne0 rfl rfl ?_
  refine y_geti (z := 4) dX6_isOneBelow_5 frX6_44 cfX6 at41 rfl rfl ?_
  rw [a1.2.2.1]
  refine y_ic dX6_isOneBelow_8 ⟨by decide, by decide⟩ ?_
  refine x_icmp_eq (tgt := 18) dX6_isOneBelow_9 rfl (fun h9 => ?_) (fun h9 => ?_)
  · have a5 := a1.2.2.2 h9
    refine y_aln (i := 0) dX6_isOneBelow_18 at41.ne0 rfl rfl ?_
    refine y_geti (z := 5) dX6_isOneBelow_19 frX6_85 cfX6 at41 rfl rfl ?_
    rw [a5]
    refine x_if_ge (tgt := 31) dX6_isOneBelow_22 rfl (fun h22 => ?_) (fun h22 => ?_)
    · refine y_aln (i := 0) dX6_isOneBelow_31 at41.ne0 rfl rfl ?_
      refine y_geti (z := 5) dX6_isOneBelow_32 frX6_85 cfX6 at41 rfl rfl ?_
      rw [a5]
      refine x_iload_n (i := 1) dX6_isOneBelow_35 rfl rfl ?_
      refine x_icmp_lt (tgt := 47) dX6_isOneBelow_36 rfl (fun h36 => ?_) (fun h36 => ?_)
      · refine y_ic dX6_isOneBelow_47 ⟨by decide, by decide⟩ ?_
        refine x_goto (tgt := 52) dX6_isOneBelow_48 rfl ?_
        refine x_zret dX6_isOneBelow_52 (by omega) rfl ?_
        first | (have z1 := h41; exact ⟨rfl, by rw [h41]; exact g1.ui (by decide), by rw [h41]; exact a1.w, Or.inr ⟨rfl, by omega, by rw [h41, uI_eq, u1_eq, e3]⟩⟩) | (have e0 : belC k hi i = 0 := (by unfold belC; rw [if_neg (by omega), if_neg (by omega), if_pos (by omega)]); exact ⟨rfl, g1, a1, Or.inl ⟨rfl, e0, h9, ⟨by omega, by omega⟩, f1.2 6 (by decide)⟩⟩)
      · refine y_aln (i := 0) dX6_isOneBelow_39 at41.ne0 rfl rfl ?_
        refine y_ic dX6_isOneBelow_40 ⟨by decide, by decide⟩ ?_
        refine x_callVI (c_X6_refuse hW) dX6_isOneBelow_41 lkX6_77 mfX6_refuse cfX6 at41 rfl rfl rfl rfl (Nat.le_of_ble_eq_true rfl) (fun r41 I41 P41 hr41 hf41 => ?_)
        obtain ⟨rfl, rfl, h41⟩ := hf41
        have e3 : belC k hi i = 3 := by unfold belC; rw [if_neg (by omega), if_neg (by omega), if_neg (by omega)]
        refine x_if_eq (tgt := 51) dX6_isOneBelow_44 rfl (fun h44 => ?_) (fun h44 => ?_)
        · refine y_ic dX6_isOneBelow_51 ⟨by decide, by decide⟩ ?_
          refine x_zret dX6_isOneBelow_52 (by omega) rfl ?_
          first | (have z1 := h41; exact ⟨rfl, by rw [h41]; exact g1.ui (by decide), by rw [h41]; exact a1.w, Or.inr ⟨rfl, by omega, by rw [h41, uI_eq, u1_eq, e3]⟩⟩) | (have e0 : belC k hi i = 0 := (by unfold belC; rw [if_neg (by omega), if_neg (by omega), if_pos (by omega)]); exact ⟨rfl, g1, a1, Or.inl ⟨rfl, e0, h9, ⟨by omega, by omega⟩, f1.2 6 (by decide)⟩⟩)
        · exact absurd rfl h44
    · refine y_aln (i := 0) dX6_isOneBelow_25 at41.ne0 rfl rfl ?_
      refine y_ic dX6_isOneBelow_26 ⟨by decide, by decide⟩ ?_
      refine x_callVI (c_X6_refuse hW) dX6_isOneBelow_27 lkX6_77 mfX6_refuse cfX6 at41 rfl rfl rfl rfl (Nat.le_of_ble_eq_true rfl) (fun r27 I27 P27 hr27 hf27 => ?_)
      obtain ⟨rfl, rfl, h27⟩ := hf27
      have e2 : belC k hi i = 2 := by unfold belC; rw [if_neg (by omega), if_pos (by omega)]
      refine x_zret dX6_isOneBelow_30 (by omega) rfl ?_
      exact ⟨rfl, by rw [h27]; exact g1.ui (by decide), by rw [h27]; exact a1.w, Or.inr ⟨rfl, by omega, by rw [h27, uI_eq, u1_eq, e2]⟩⟩
  · have en : belC k hi i = 1 := if_pos h9
    refine y_aln (i := 0) dX6_isOneBelow_12 at41.ne0 rfl rfl ?_
    refine y_ic dX6_isOneBelow_13 ⟨by decide, by decide⟩ ?_
    refine x_callVI (c_X6_refuse hW) dX6_isOneBelow_14 lkX6_77 mfX6_refuse cfX6 at41 rfl rfl rfl rfl (Nat.le_of_ble_eq_true rfl) (fun r14 I14 P14 hr14 hf14 => ?_)
    obtain ⟨rfl, rfl, h14⟩ := hf14
    refine x_zret dX6_isOneBelow_17 (by omega) rfl ?_
    exact ⟨rfl, by rw [h14]; exact g1.ui (by decide), by rw [h14]; exact a1.w, Or.inr ⟨rfl, by omega, by rw [h14, uI_eq, u1_eq, en]⟩⟩
end

