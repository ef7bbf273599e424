/-! ===== printed: the law's wrappers ===== -/
section
variable {G : HX} {d : Nat} {I : Mem} {P : Ptr} {f : Int → Mem → Ptr → Prop} {g : String → Mem → Ptr → Prop}
theorem c_L_town {p0 : Int} (hC : Cv G mX11_town d 1 6 [.inr (.inl 1), .inl p0] NO I P (qX NO f g)) (hE : ∀ E J R, g E J R → E = tEI) : Cv G mL_town (d + 1) 1 6 [.inr (.inl 1), .inl p0, .inr (.inl 145)] NO I P (qI NO (fun r I' P' => (r = 0 ∧ ∃ v J, f v J P' ∧ I' = uI J 145 0 v) ∨ (r = 1 ∧ ∃ E, g E I' P'))) := by
  have h13 : ∀ J R, (∃ E, g E J R) → V G mL_town (d + 1) 0 0 13 (noV 4) [] NO J R (qI NO (fun r I' P' => (r = 0 ∧ ∃ v J, f v J P' ∧ I' = uI J 145 0 v) ∨ (r = 1 ∧ ∃ E, g E I' P'))) := fun J R hg => by
    refine y_ic dL_town_13 ⟨by decide, by decide⟩ ?_
    refine x_iret dL_town_14 rfl ?_
    exact Or.inr ⟨rfl, hg⟩
  have h7 : ∀ v J R, f v J R → V G mL_town (d + 1) 0 0 7 (noV 4) [.inl v, .inl 0, .inr (.inl 145)] NO J R (qI NO (fun r I' P' => (r = 0 ∧ ∃ v J, f v J P' ∧ I' = uI J 145 0 v) ∨ (r = 1 ∧ ∃ E, g E I' P'))) := fun v J R hf => by
    refine x_i2l dL_town_7 ?_
    refine x_last dL_town_8 ar145 ⟨by decide, by decide⟩ ?_
    refine x_goto (tgt := 15) dL_town_9 rfl ?_
    refine y_ic dL_town_15 ⟨by decide, by decide⟩ ?_
    refine x_iret dL_town_16 rfl ?_
    exact Or.inl ⟨rfl, v, J, hf, rfl⟩
  refine x_enter mfL_town rfl (Nat.le_of_ble_eq_true rfl) (fun _ => ?_)
  refine y_aln (i := 2) dL_town_0 ar145.ne0 rfl rfl ?_
  refine y_ic dL_town_1 ⟨by decide, by decide⟩ ?_
  refine y_aln (i := 0) dL_town_2 at1.ne0 rfl rfl ?_
  refine x_iload_n (i := 1) dL_town_3 rfl rfl ?_
  refine x_keep [0, 0, 0, 0] ?_
  refine x_callVX (kc := 0) (ks := 0) hC dL_town_4 lkL_7 mfX11_town cfX11 at1 rfl rfl rfl rfl (by decide) (fun E J R hg => ?_) (fun v J R _ hf => h7 v J R hf)
  exact ⟨12, ⟨[], _, _, tEI, rfl, (fun z hz => nomatch hz), rfl, (by decide), ctLI, (hE _ _ _ hg).symm, rfl⟩, VR.asn (i := 3) dL_town_12 rfl (by decide) (h13 J R ⟨E, hg⟩)⟩
theorem c_L_count {p0 : Int} (hC : Cv G mX11_count d 1 6 [.inr (.inl 1), .inl p0] NO I P (qX NO f g)) (hE : ∀ E J R, g E J R → E = tEN) : Cv G mL_count (d + 1) 1 6 [.inr (.inl 1), .inl p0, .inr (.inl 145)] NO I P (qI NO (fun r I' P' => (r = 0 ∧ ∃ v J, f v J P' ∧ I' = uI J 145 0 v) ∨ (r = 1 ∧ ∃ E, g E I' P'))) := by
  have h13 : ∀ J R, (∃ E, g E J R) → V G mL_count (d + 1) 0 0 13 (noV 4) [] NO J R (qI NO (fun r I' P' => (r = 0 ∧ ∃ v J, f v J P' ∧ I' = uI J 145 0 v) ∨ (r = 1 ∧ ∃ E, g E I' P'))) := fun J R hg => by
    refine y_ic dL_count_13 ⟨by decide, by decide⟩ ?_
    refine x_iret dL_count_14 rfl ?_
    exact Or.inr ⟨rfl, hg⟩
  have h7 : ∀ v J R, f v J R → V G mL_count (d + 1) 0 0 7 (noV 4) [.inl v, .inl 0, .inr (.inl 145)] NO J R (qI NO (fun r I' P' => (r = 0 ∧ ∃ v J, f v J P' ∧ I' = uI J 145 0 v) ∨ (r = 1 ∧ ∃ E, g E I' P'))) := fun v J R hf => by
    refine x_i2l dL_count_7 ?_
    refine x_last dL_count_8 ar145 ⟨by decide, by decide⟩ ?_
    refine x_goto (tgt := 15) dL_count_9 rfl ?_
    refine y_ic dL_count_15 ⟨by decide, by decide⟩ ?_
    refine x_iret dL_count_16 rfl ?_
    exact Or.inl ⟨rfl, v, J, hf, rfl⟩
  refine x_enter mfL_count rfl (Nat.le_of_ble_eq_true rfl) (fun _ => ?_)
  refine y_aln (i := 2) dL_count_0 ar145.ne0 rfl rfl ?_
  refine y_ic dL_count_1 ⟨by decide, by decide⟩ ?_
  refine y_aln (i := 0) dL_count_2 at1.ne0 rfl rfl ?_
  refine x_iload_n (i := 1) dL_count_3 rfl rfl ?_
  refine x_keep [0, 0, 0, 0] ?_
  refine x_callVX (kc := 0) (ks := 0) hC dL_count_4 lkL_15 mfX11_count cfX11 at1 rfl rfl rfl rfl (by decide) (fun E J R hg => ?_) (fun v J R _ hf => h7 v J R hf)
  exact ⟨12, ⟨[], _, _, tEN, rfl, (fun z hz => nomatch hz), rfl, (by decide), ctLN, (hE _ _ _ hg).symm, rfl⟩, VR.asn (i := 3) dL_count_12 rfl (by decide) (h13 J R ⟨E, hg⟩)⟩
theorem c_L_has {p0 p1 : Int} (hC : Cv G mX11_has d 1 6 [.inr (.inl 1), .inl p0, .inl p1] NO I P (qX NO f g)) (hE : ∀ E J R, g E J R → E = tEN) : Cv G mL_has (d + 1) 1 6 [.inr (.inl 1), .inl p0, .inl p1, .inr (.inl 145)] NO I P (qI NO (fun r I' P' => (r = 0 ∧ ∃ v J, f v J P' ∧ I' = uI J 145 0 v) ∨ (r = 1 ∧ ∃ E, g E I' P'))) := by
  have h15 : ∀ J R, (∃ E, g E J R) → V G mL_has (d + 1) 0 0 15 (noV 5) [] NO J R (qI NO (fun r I' P' => (r = 0 ∧ ∃ v J, f v J P' ∧ I' = uI J 145 0 v) ∨ (r = 1 ∧ ∃ E, g E I' P'))) := fun J R hg => by
    refine y_ic dL_has_15 ⟨by decide, by decide⟩ ?_
    refine x_iret dL_has_16 rfl ?_
    exact Or.inr ⟨rfl, hg⟩
  have h8 : ∀ v J R, f v J R → V G mL_has (d + 1) 0 0 8 (noV 5) [.inl v, .inl 0, .inr (.inl 145)] NO J R (qI NO (fun r I' P' => (r = 0 ∧ ∃ v J, f v J P' ∧ I' = uI J 145 0 v) ∨ (r = 1 ∧ ∃ E, g E I' P'))) := fun v J R hf => by
    refine x_i2l dL_has_8 ?_
    refine x_last dL_has_9 ar145 ⟨by decide, by decide⟩ ?_
    refine x_goto (tgt := 17) dL_has_10 rfl ?_
    refine y_ic dL_has_17 ⟨by decide, by decide⟩ ?_
    refine x_iret dL_has_18 rfl ?_
    exact Or.inl ⟨rfl, v, J, hf, rfl⟩
  refine x_enter mfL_has rfl (Nat.le_of_ble_eq_true rfl) (fun _ => ?_)
  refine y_aln (i := 3) dL_has_0 ar145.ne0 rfl rfl ?_
  refine y_ic dL_has_1 ⟨by decide, by decide⟩ ?_
  refine y_aln (i := 0) dL_has_2 at1.ne0 rfl rfl ?_
  refine x_iload_n (i := 1) dL_has_3 rfl rfl ?_
  refine x_iload_n (i := 2) dL_has_4 rfl rfl ?_
  refine x_keep [0, 0, 0, 0, 0] ?_
  refine x_callVX (kc := 0) (ks := 0) hC dL_has_5 lkL_20 mfX11_has cfX11 at1 rfl rfl rfl rfl (by decide) (fun E J R hg => ?_) (fun v J R _ hf => h8 v J R hf)
  exact ⟨13, ⟨[], _, _, tEN, rfl, (fun z hz => nomatch hz), rfl, (by decide), ctLN, (hE _ _ _ hg).symm, rfl⟩, VR.as (i := 4) dL_has_13 (by decide) (h15 J R ⟨E, hg⟩)⟩
theorem c_L_likes {p0 p1 : Int} (hC : Cv G mX11_likes d 1 6 [.inr (.inl 1), .inl p0, .inl p1] NO I P (qX NO f g)) (hE : ∀ E J R, g E J R → E = tEN) : Cv G mL_likes (d + 1) 1 6 [.inr (.inl 1), .inl p0, .inl p1, .inr (.inl 145)] NO I P (qI NO (fun r I' P' => (r = 0 ∧ ∃ v J, f v J P' ∧ I' = uI J 145 0 v) ∨ (r = 1 ∧ ∃ E, g E I' P'))) := by
  have h15 : ∀ J R, (∃ E, g E J R) → V G mL_likes (d + 1) 0 0 15 (noV 5) [] NO J R (qI NO (fun r I' P' => (r = 0 ∧ ∃ v J, f v J P' ∧ I' = uI J 145 0 v) ∨ (r = 1 ∧ ∃ E, g E I' P'))) := fun J R hg => by
    refine y_ic dL_likes_15 ⟨by decide, by decide⟩ ?_
    refine x_iret dL_likes_16 rfl ?_
    exact Or.inr ⟨rfl, hg⟩
  have h8 : ∀ v J R, f v J R → V G mL_likes (d + 1) 0 0 8 (noV 5) [.inl v, .inl 0, .inr (.inl 145)] NO J R (qI NO (fun r I' P' => (r = 0 ∧ ∃ v J, f v J P' ∧ I' = uI J 145 0 v) ∨ (r = 1 ∧ ∃ E, g E I' P'))) := fun v J R hf => by
    refine x_i2l dL_likes_8 ?_
    refine x_last dL_likes_9 ar145 ⟨by decide, by decide⟩ ?_
    refine x_goto (tgt := 17) dL_likes_10 rfl ?_
    refine y_ic dL_likes_17 ⟨by decide, by decide⟩ ?_
    refine x_iret dL_likes_18 rfl ?_
    exact Or.inl ⟨rfl, v, J, hf, rfl⟩
  refine x_enter mfL_likes rfl (Nat.le_of_ble_eq_true rfl) (fun _ => ?_)
  refine y_aln (i := 3) dL_likes_0 ar145.ne0 rfl rfl ?_
  refine y_ic dL_likes_1 ⟨by decide, by decide⟩ ?_
  refine y_aln (i := 0) dL_likes_2 at1.ne0 rfl rfl ?_
  refine x_iload_n (i := 1) dL_likes_3 rfl rfl ?_
  refine x_iload_n (i := 2) dL_likes_4 rfl rfl ?_
  refine x_keep [0, 0, 0, 0, 0] ?_
  refine x_callVX (kc := 0) (ks := 0) hC dL_likes_5 lkL_24 mfX11_likes cfX11 at1 rfl rfl rfl rfl (by decide) (fun E J R hg => ?_) (fun v J R _ hf => h8 v J R hf)
  exact ⟨13, ⟨[], _, _, tEN, rfl, (fun z hz => nomatch hz), rfl, (by decide), ctLN, (hE _ _ _ hg).symm, rfl⟩, VR.as (i := 4) dL_likes_13 (by decide) (h15 J R ⟨E, hg⟩)⟩
theorem c_L_worth {p0 : Int} (hC : Cv G mX11_worth d 1 6 [.inr (.inl 1), .inl p0] NO I P (qX NO f g)) (hE : ∀ E J R, g E J R → E = tEN) : Cv G mL_worth (d + 1) 1 6 [.inr (.inl 1), .inl p0, .inr (.inl 145)] NO I P (qI NO (fun r I' P' => (r = 0 ∧ ∃ v J, f v J P' ∧ I' = uI J 145 0 v) ∨ (r = 1 ∧ ∃ E, g E I' P'))) := by
  have h13 : ∀ J R, (∃ E, g E J R) → V G mL_worth (d + 1) 0 0 13 (noV 4) [] NO J R (qI NO (fun r I' P' => (r = 0 ∧ ∃ v J, f v J P' ∧ I' = uI J 145 0 v) ∨ (r = 1 ∧ ∃ E, g E I' P'))) := fun J R hg => by
    refine y_ic dL_worth_13 ⟨by decide, by decide⟩ ?_
    refine x_iret dL_worth_14 rfl ?_
    exact Or.inr ⟨rfl, hg⟩
  have h7 : ∀ v J R, f v J R → V G mL_worth (d + 1) 0 0 7 (noV 4) [.inl v, .inl 0, .inr (.inl 145)] NO J R (qI NO (fun r I' P' => (r = 0 ∧ ∃ v J, f v J P' ∧ I' = uI J 145 0 v) ∨ (r = 1 ∧ ∃ E, g E I' P'))) := fun v J R hf => by
    refine x_i2l dL_worth_7 ?_
    refine x_last dL_worth_8 ar145 ⟨by decide, by decide⟩ ?_
    refine x_goto (tgt := 15) dL_worth_9 rfl ?_
    refine y_ic dL_worth_15 ⟨by decide, by decide⟩ ?_
    refine x_iret dL_worth_16 rfl ?_
    exact Or.inl ⟨rfl, v, J, hf, rfl⟩
  refine x_enter mfL_worth rfl (Nat.le_of_ble_eq_true rfl) (fun _ => ?_)
  refine y_aln (i := 2) dL_worth_0 ar145.ne0 rfl rfl ?_
  refine y_ic dL_worth_1 ⟨by decide, by decide⟩ ?_
  refine y_aln (i := 0) dL_worth_2 at1.ne0 rfl rfl ?_
  refine x_iload_n (i := 1) dL_worth_3 rfl rfl ?_
  refine x_keep [0, 0, 0, 0] ?_
  refine x_callVX (kc := 0) (ks := 0) hC dL_worth_4 lkL_27 mfX11_worth cfX11 at1 rfl rfl rfl rfl (by decide) (fun E J R hg => ?_) (fun v J R _ hf => h7 v J R hf)
  exact ⟨12, ⟨[], _, _, tEN, rfl, (fun z hz => nomatch hz), rfl, (by decide), ctLN, (hE _ _ _ hg).symm, rfl⟩, VR.asn (i := 3) dL_worth_12 rfl (by decide) (h13 J R ⟨E, hg⟩)⟩
theorem c_L_left {p0 : Int} (hC : Cv G mX11_left d 1 6 [.inr (.inl 1), .inl p0] NO I P (qX NO f g)) (hE : ∀ E J R, g E J R → E = tEN) : Cv G mL_left (d + 1) 1 6 [.inr (.inl 1), .inl p0, .inr (.inl 145)] NO I P (qI NO (fun r I' P' => (r = 0 ∧ ∃ v J, f v J P' ∧ I' = uI J 145 0 v) ∨ (r = 1 ∧ ∃ E, g E I' P'))) := by
  have h13 : ∀ J R, (∃ E, g E J R) → V G mL_left (d + 1) 0 0 13 (noV 4) [] NO J R (qI NO (fun r I' P' => (r = 0 ∧ ∃ v J, f v J P' ∧ I' = uI J 145 0 v) ∨ (r = 1 ∧ ∃ E, g E I' P'))) := fun J R hg => by
    refine y_ic dL_left_13 ⟨by decide, by decide⟩ ?_
    refine x_iret dL_left_14 rfl ?_
    exact Or.inr ⟨rfl, hg⟩
  have h7 : ∀ v J R, f v J R → V G mL_left (d + 1) 0 0 7 (noV 4) [.inl v, .inl 0, .inr (.inl 145)] NO J R (qI NO (fun r I' P' => (r = 0 ∧ ∃ v J, f v J P' ∧ I' = uI J 145 0 v) ∨ (r = 1 ∧ ∃ E, g E I' P'))) := fun v J R hf => by
    refine x_i2l dL_left_7 ?_
    refine x_last dL_left_8 ar145 ⟨by decide, by decide⟩ ?_
    refine x_goto (tgt := 15) dL_left_9 rfl ?_
    refine y_ic dL_left_15 ⟨by decide, by decide⟩ ?_
    refine x_iret dL_left_16 rfl ?_
    exact Or.inl ⟨rfl, v, J, hf, rfl⟩
  refine x_enter mfL_left rfl (Nat.le_of_ble_eq_true rfl) (fun _ => ?_)
  refine y_aln (i := 2) dL_left_0 ar145.ne0 rfl rfl ?_
  refine y_ic dL_left_1 ⟨by decide, by decide⟩ ?_
  refine y_aln (i := 0) dL_left_2 at1.ne0 rfl rfl ?_
  refine x_iload_n (i := 1) dL_left_3 rfl rfl ?_
  refine x_keep [0, 0, 0, 0] ?_
  refine x_callVX (kc := 0) (ks := 0) hC dL_left_4 lkL_30 mfX11_left cfX11 at1 rfl rfl rfl rfl (by decide) (fun E J R hg => ?_) (fun v J R _ hf => h7 v J R hf)
  exact ⟨12, ⟨[], _, _, tEN, rfl, (fun z hz => nomatch hz), rfl, (by decide), ctLN, (hE _ _ _ hg).symm, rfl⟩, VR.asn (i := 3) dL_left_12 rfl (by decide) (h13 J R ⟨E, hg⟩)⟩
theorem c_L_meeting {p0 p1 : Int} (hC : Cv G mX11_meeting d 1 6 [.inr (.inl 1), .inl p0, .inl p1] NO I P (qX NO f g)) (hE : ∀ E J R, g E J R → E = tEN) : Cv G mL_meeting (d + 1) 1 6 [.inr (.inl 1), .inl p0, .inl p1, .inr (.inl 145)] NO I P (qI NO (fun r I' P' => (r = 0 ∧ ∃ v J, f v J P' ∧ I' = uI J 145 0 v) ∨ (r = 1 ∧ ∃ E, g E I' P'))) := by
  have h15 : ∀ J R, (∃ E, g E J R) → V G mL_meeting (d + 1) 0 0 15 (noV 5) [] NO J R (qI NO (fun r I' P' => (r = 0 ∧ ∃ v J, f v J P' ∧ I' = uI J 145 0 v) ∨ (r = 1 ∧ ∃ E, g E I' P'))) := fun J R hg => by
    refine y_ic dL_meeting_15 ⟨by decide, by decide⟩ ?_
    refine x_iret dL_meeting_16 rfl ?_
    exact Or.inr ⟨rfl, hg⟩
  have h8 : ∀ v J R, f v J R → V G mL_meeting (d + 1) 0 0 8 (noV 5) [.inl v, .inl 0, .inr (.inl 145)] NO J R (qI NO (fun r I' P' => (r = 0 ∧ ∃ v J, f v J P' ∧ I' = uI J 145 0 v) ∨ (r = 1 ∧ ∃ E, g E I' P'))) := fun v J R hf => by
    refine x_i2l dL_meeting_8 ?_
    refine x_last dL_meeting_9 ar145 ⟨by decide, by decide⟩ ?_
    refine x_goto (tgt := 17) dL_meeting_10 rfl ?_
    refine y_ic dL_meeting_17 ⟨by decide, by decide⟩ ?_
    refine x_iret dL_meeting_18 rfl ?_
    exact Or.inl ⟨rfl, v, J, hf, rfl⟩
  refine x_enter mfL_meeting rfl (Nat.le_of_ble_eq_true rfl) (fun _ => ?_)
  refine y_aln (i := 3) dL_meeting_0 ar145.ne0 rfl rfl ?_
  refine y_ic dL_meeting_1 ⟨by decide, by decide⟩ ?_
  refine y_aln (i := 0) dL_meeting_2 at1.ne0 rfl rfl ?_
  refine x_iload_n (i := 1) dL_meeting_3 rfl rfl ?_
  refine x_iload_n (i := 2) dL_meeting_4 rfl rfl ?_
  refine x_keep [0, 0, 0, 0, 0] ?_
  refine x_callVX (kc := 0) (ks := 0) hC dL_meeting_5 lkL_33 mfX11_meeting cfX11 at1 rfl rfl rfl rfl (by decide) (fun E J R hg => ?_) (fun v J R _ hf => h8 v J R hf)
  exact ⟨13, ⟨[], _, _, tEN, rfl, (fun z hz => nomatch hz), rfl, (by decide), ctLN, (hE _ _ _ hg).symm, rfl⟩, VR.as (i := 4) dL_meeting_13 (by decide) (h15 J R ⟨E, hg⟩)⟩
theorem c_L_look {p0 p1 p2 p3 p4 : Int} (hC : Cv G mX11_look d 1 6 [.inr (.inl 1), .inl p0, .inl p1, .inl p2, .inl p3, .inl p4] NO I P (qX NO f g)) (hE : ∀ E J R, g E J R → E = tEN ∨ E = tEI) : Cv G mL_look (d + 1) 1 6 [.inr (.inl 1), .inl p0, .inl p1, .inl p2, .inl p3, .inl p4, .inr (.inl 145)] NO I P (qI NO (fun r I' P' => (r = 0 ∧ ∃ v J, f v J P' ∧ I' = uI J 145 0 v) ∨ (r = 1 ∧ g tEN I' P') ∨ (r = 2 ∧ g tEI I' P'))) := by
  have h21 : ∀ J R, g tEN J R → V G mL_look (d + 1) 0 0 21 (noV 8) [] NO J R (qI NO (fun r I' P' => (r = 0 ∧ ∃ v J, f v J P' ∧ I' = uI J 145 0 v) ∨ (r = 1 ∧ g tEN I' P') ∨ (r = 2 ∧ g tEI I' P'))) := fun J R hg => by
    refine y_ic dL_look_21 ⟨by decide, by decide⟩ ?_
    refine x_iret dL_look_22 rfl ?_
    exact Or.inr (Or.inl ⟨rfl, hg⟩)
  have h25 : ∀ J R, g tEI J R → V G mL_look (d + 1) 0 0 25 (noV 8) [] NO J R (qI NO (fun r I' P' => (r = 0 ∧ ∃ v J, f v J P' ∧ I' = uI J 145 0 v) ∨ (r = 1 ∧ g tEN I' P') ∨ (r = 2 ∧ g tEI I' P'))) := fun J R hg => by
    refine y_ic dL_look_25 ⟨by decide, by decide⟩ ?_
    refine x_iret dL_look_26 rfl ?_
    exact Or.inr (Or.inr ⟨rfl, hg⟩)
  have h14 : ∀ v J R, f v J R → V G mL_look (d + 1) 0 0 14 (noV 8) [.inl v, .inl 0, .inr (.inl 145)] NO J R (qI NO (fun r I' P' => (r = 0 ∧ ∃ v J, f v J P' ∧ I' = uI J 145 0 v) ∨ (r = 1 ∧ g tEN I' P') ∨ (r = 2 ∧ g tEI I' P'))) := fun v J R hf => by
    refine x_i2l dL_look_14 ?_
    refine x_last dL_look_15 ar145 ⟨by decide, by decide⟩ ?_
    refine x_goto (tgt := 27) dL_look_16 rfl ?_
    refine y_ic dL_look_27 ⟨by decide, by decide⟩ ?_
    refine x_iret dL_look_28 rfl ?_
    exact Or.inl ⟨rfl, v, J, hf, rfl⟩
  refine x_enter mfL_look rfl (Nat.le_of_ble_eq_true rfl) (fun _ => ?_)
  refine y_al (i := 6) dL_look_0 ar145.ne0 rfl ?_
  refine y_ic dL_look_2 ⟨by decide, by decide⟩ ?_
  refine y_aln (i := 0) dL_look_3 at1.ne0 rfl rfl ?_
  refine x_iload_n (i := 1) dL_look_4 rfl rfl ?_
  refine x_iload_n (i := 2) dL_look_5 rfl rfl ?_
  refine x_iload_n (i := 3) dL_look_6 rfl rfl ?_
  refine x_iload (i := 4) dL_look_7 rfl ?_
  refine x_iload (i := 5) dL_look_9 rfl ?_
  refine x_keep [0, 0, 0, 0, 0, 0, 0, 0] ?_
  refine x_callVX (kc := 0) (ks := 0) hC dL_look_11 lkL_36 mfX11_look cfX11 at1 rfl rfl rfl rfl (by decide) (fun E J R hg => ?_) (fun v J R _ hf => h14 v J R hf)
  rcases hE _ _ _ hg with rfl | rfl
  · exact ⟨19, ⟨[], _, _, tEN, rfl, (fun z hz => nomatch hz), rfl, (by decide), ctLN, rfl, rfl⟩, VR.as (i := 7) dL_look_19 (by decide) (h21 J R hg)⟩
  · exact ⟨23, ⟨[_], _, _, tEI, rfl, (fun z hz => by rw [List.mem_singleton.mp hz]; exact Or.inr ⟨by decide, ctLN, rfl⟩), rfl, (by decide), ctLI, rfl, rfl⟩, VR.as (i := 7) dL_look_23 (by decide) (h25 J R hg)⟩
theorem c_L_trade {p0 p1 p2 p3 : Int} (hC : Cv G mX11_trade d 1 6 [.inr (.inl 1), .inl p0, .inl p1, .inl p2, .inl p3] NO I P (qX NO f g)) (hE : ∀ E J R, g E J R → E = tEN) : Cv G mL_trade (d + 1) 1 6 [.inr (.inl 1), .inl p0, .inl p1, .inl p2, .inl p3, .inr (.inl 145)] NO I P (qI NO (fun r I' P' => (r = 0 ∧ ∃ v J, f v J P' ∧ I' = uI J 145 0 (if v = 0 then 0 else 1)) ∨ (r = 1 ∧ ∃ E, g E I' P'))) := by
  have h26 : ∀ J R, (∃ E, g E J R) → V G mL_trade (d + 1) 0 0 26 (noV 7) [] NO J R (qI NO (fun r I' P' => (r = 0 ∧ ∃ v J, f v J P' ∧ I' = uI J 145 0 (if v = 0 then 0 else 1)) ∨ (r = 1 ∧ ∃ E, g E I' P'))) := fun J R hg => by
    refine y_ic dL_trade_26 ⟨by decide, by decide⟩ ?_
    refine x_iret dL_trade_27 rfl ?_
    exact Or.inr ⟨rfl, hg⟩
  have h12 : ∀ v J R, f v J R → V G mL_trade (d + 1) 0 0 12 (noV 7) [.inl v, .inl 0, .inr (.inl 145)] NO J R (qI NO (fun r I' P' => (r = 0 ∧ ∃ v J, f v J P' ∧ I' = uI J 145 0 (if v = 0 then 0 else 1)) ∨ (r = 1 ∧ ∃ E, g E I' P'))) := fun v J R hf => by
    refine x_if_eq (tgt := 19) dL_trade_12 rfl (fun h12 => ?_) (fun h12 => ?_)
    · refine x_lconst dL_trade_19 ?_
      refine x_last dL_trade_20 ar145 ⟨by decide, by decide⟩ ?_
      refine x_goto (tgt := 28) dL_trade_21 rfl ?_
      refine y_ic dL_trade_28 ⟨by decide, by decide⟩ ?_
      refine x_iret dL_trade_29 rfl ?_
      first | exact Or.inl ⟨rfl, v, J, hf, by rw [if_pos (by omega)]; rfl⟩ | exact Or.inl ⟨rfl, v, J, hf, by rw [if_neg (by omega)]; rfl⟩
    · refine x_lconst dL_trade_15 ?_
      refine x_goto (tgt := 20) dL_trade_16 rfl ?_
      refine x_last dL_trade_20 ar145 ⟨by decide, by decide⟩ ?_
      refine x_goto (tgt := 28) dL_trade_21 rfl ?_
      refine y_ic dL_trade_28 ⟨by decide, by decide⟩ ?_
      refine x_iret dL_trade_29 rfl ?_
      first | exact Or.inl ⟨rfl, v, J, hf, by rw [if_pos (by omega)]; rfl⟩ | exact Or.inl ⟨rfl, v, J, hf, by rw [if_neg (by omega)]; rfl⟩
  refine x_enter mfL_trade rfl (Nat.le_of_ble_eq_true rfl) (fun _ => ?_)
  refine y_al (i := 5) dL_trade_0 ar145.ne0 rfl ?_
  refine y_ic dL_trade_2 ⟨by decide, by decide⟩ ?_
  refine y_aln (i := 0) dL_trade_3 at1.ne0 rfl rfl ?_
  refine x_iload_n (i := 1) dL_trade_4 rfl rfl ?_
  refine x_iload_n (i := 2) dL_trade_5 rfl rfl ?_
  refine x_iload_n (i := 3) dL_trade_6 rfl rfl ?_
  refine x_iload (i := 4) dL_trade_7 rfl ?_
  refine x_keep [0, 0, 0, 0, 0, 0, 0] ?_
  refine x_callVX (kc := 0) (ks := 0) hC dL_trade_9 lkL_40 mfX11_trade cfX11 at1 rfl rfl rfl rfl (by decide) (fun E J R hg => ?_) (fun v J R _ hf => h12 v J R hf)
  exact ⟨24, ⟨[], _, _, tEN, rfl, (fun z hz => nomatch hz), rfl, (by decide), ctLN, (hE _ _ _ hg).symm, rfl⟩, VR.as (i := 6) dL_trade_24 (by decide) (h26 J R ⟨E, hg⟩)⟩
theorem c_L_tie {p0 p1 : Int} (hC : Cv G mX11_tie d 1 6 [.inr (.inl 1), .inl p0, .inl p1] NO I P (qX NO f g)) (hE : ∀ E J R, g E J R → E = tEN) : Cv G mL_tie (d + 1) 1 6 [.inr (.inl 1), .inl p0, .inl p1, .inr (.inl 145)] NO I P (qI NO (fun r I' P' => (r = 0 ∧ ∃ v J, f v J P' ∧ I' = uI J 145 0 (if v = 0 then 0 else 1)) ∨ (r = 1 ∧ ∃ E, g E I' P'))) := by
  have h22 : ∀ J R, (∃ E, g E J R) → V G mL_tie (d + 1) 0 0 22 (noV 5) [] NO J R (qI NO (fun r I' P' => (r = 0 ∧ ∃ v J, f v J P' ∧ I' = uI J 145 0 (if v = 0 then 0 else 1)) ∨ (r = 1 ∧ ∃ E, g E I' P'))) := fun J R hg => by
    refine y_ic dL_tie_22 ⟨by decide, by decide⟩ ?_
    refine x_iret dL_tie_23 rfl ?_
    exact Or.inr ⟨rfl, hg⟩
  have h8 : ∀ v J R, f v J R → V G mL_tie (d + 1) 0 0 8 (noV 5) [.inl v, .inl 0, .inr (.inl 145)] NO J R (qI NO (fun r I' P' => (r = 0 ∧ ∃ v J, f v J P' ∧ I' = uI J 145 0 (if v = 0 then 0 else 1)) ∨ (r = 1 ∧ ∃ E, g E I' P'))) := fun v J R hf => by
    refine x_if_eq (tgt := 15) dL_tie_8 rfl (fun h8 => ?_) (fun h8 => ?_)
    · refine x_lconst dL_tie_15 ?_
      refine x_last dL_tie_16 ar145 ⟨by decide, by decide⟩ ?_
      refine x_goto (tgt := 24) dL_tie_17 rfl ?_
      refine y_ic dL_tie_24 ⟨by decide, by decide⟩ ?_
      refine x_iret dL_tie_25 rfl ?_
      first | exact Or.inl ⟨rfl, v, J, hf, by rw [if_pos (by omega)]; rfl⟩ | exact Or.inl ⟨rfl, v, J, hf, by rw [if_neg (by omega)]; rfl⟩
    · refine x_lconst dL_tie_11 ?_
      refine x_goto (tgt := 16) dL_tie_12 rfl ?_
      refine x_last dL_tie_16 ar145 ⟨by decide, by decide⟩ ?_
      refine x_goto (tgt := 24) dL_tie_17 rfl ?_
      refine y_ic dL_tie_24 ⟨by decide, by decide⟩ ?_
      refine x_iret dL_tie_25 rfl ?_
      first | exact Or.inl ⟨rfl, v, J, hf, by rw [if_pos (by omega)]; rfl⟩ | exact Or.inl ⟨rfl, v, J, hf, by rw [if_neg (by omega)]; rfl⟩
  refine x_enter mfL_tie rfl (Nat.le_of_ble_eq_true rfl) (fun _ => ?_)
  refine y_aln (i := 3) dL_tie_0 ar145.ne0 rfl rfl ?_
  refine y_ic dL_tie_1 ⟨by decide, by decide⟩ ?_
  refine y_aln (i := 0) dL_tie_2 at1.ne0 rfl rfl ?_
  refine x_iload_n (i := 1) dL_tie_3 rfl rfl ?_
  refine x_iload_n (i := 2) dL_tie_4 rfl rfl ?_
  refine x_keep [0, 0, 0, 0, 0] ?_
  refine x_callVX (kc := 0) (ks := 0) hC dL_tie_5 lkL_44 mfX11_tie cfX11 at1 rfl rfl rfl rfl (by decide) (fun E J R hg => ?_) (fun v J R _ hf => h8 v J R hf)
  exact ⟨20, ⟨[], _, _, tEN, rfl, (fun z hz => nomatch hz), rfl, (by decide), ctLN, (hE _ _ _ hg).symm, rfl⟩, VR.as (i := 4) dL_tie_20 (by decide) (h22 J R ⟨E, hg⟩)⟩
theorem c_L_come {p0 p1 : Int} (hC : Cv G mX11_come d 1 6 [.inr (.inl 1), .inl p0, .inl p1] NO I P (qX NO f g)) (hE : ∀ E J R, g E J R → E = tEN) : Cv G mL_come (d + 1) 1 6 [.inr (.inl 1), .inl p0, .inl p1, .inr (.inl 145)] NO I P (qI NO (fun r I' P' => (r = 0 ∧ ∃ v J, f v J P' ∧ I' = uI J 145 0 v) ∨ (r = 1 ∧ ∃ E, g E I' P'))) := by
  have h15 : ∀ J R, (∃ E, g E J R) → V G mL_come (d + 1) 0 0 15 (noV 5) [] NO J R (qI NO (fun r I' P' => (r = 0 ∧ ∃ v J, f v J P' ∧ I' = uI J 145 0 v) ∨ (r = 1 ∧ ∃ E, g E I' P'))) := fun J R hg => by
    refine y_ic dL_come_15 ⟨by decide, by decide⟩ ?_
    refine x_iret dL_come_16 rfl ?_
    exact Or.inr ⟨rfl, hg⟩
  have h8 : ∀ v J R, f v J R → V G mL_come (d + 1) 0 0 8 (noV 5) [.inl v, .inl 0, .inr (.inl 145)] NO J R (qI NO (fun r I' P' => (r = 0 ∧ ∃ v J, f v J P' ∧ I' = uI J 145 0 v) ∨ (r = 1 ∧ ∃ E, g E I' P'))) := fun v J R hf => by
    refine x_i2l dL_come_8 ?_
    refine x_last dL_come_9 ar145 ⟨by decide, by decide⟩ ?_
    refine x_goto (tgt := 17) dL_come_10 rfl ?_
    refine y_ic dL_come_17 ⟨by decide, by decide⟩ ?_
    refine x_iret dL_come_18 rfl ?_
    exact Or.inl ⟨rfl, v, J, hf, rfl⟩
  refine x_enter mfL_come rfl (Nat.le_of_ble_eq_true rfl) (fun _ => ?_)
  refine y_aln (i := 3) dL_come_0 ar145.ne0 rfl rfl ?_
  refine y_ic dL_come_1 ⟨by decide, by decide⟩ ?_
  refine y_aln (i := 0) dL_come_2 at1.ne0 rfl rfl ?_
  refine x_iload_n (i := 1) dL_come_3 rfl rfl ?_
  refine x_iload_n (i := 2) dL_come_4 rfl rfl ?_
  refine x_keep [0, 0, 0, 0, 0] ?_
  refine x_callVX (kc := 0) (ks := 0) hC dL_come_5 lkL_48 mfX11_come cfX11 at1 rfl rfl rfl rfl (by decide) (fun E J R hg => ?_) (fun v J R _ hf => h8 v J R hf)
  exact ⟨13, ⟨[], _, _, tEN, rfl, (fun z hz => nomatch hz), rfl, (by decide), ctLN, (hE _ _ _ hg).symm, rfl⟩, VR.as (i := 4) dL_come_13 (by decide) (h15 J R ⟨E, hg⟩)⟩
theorem c_L_step {p0 p1 : Int} (hC : Cv G mX11_step d 1 6 [.inr (.inl 1), .inl p0, .inl p1] NO I P (qX NO f g)) (hE : ∀ E J R, g E J R → E = tEN) : Cv G mL_step (d + 1) 1 6 [.inr (.inl 1), .inl p0, .inl p1, .inr (.inl 145)] NO I P (qI NO (fun r I' P' => (r = 0 ∧ ∃ v J, f v J P' ∧ I' = uI J 145 0 v) ∨ (r = 1 ∧ ∃ E, g E I' P'))) := by
  have h15 : ∀ J R, (∃ E, g E J R) → V G mL_step (d + 1) 0 0 15 (noV 5) [] NO J R (qI NO (fun r I' P' => (r = 0 ∧ ∃ v J, f v J P' ∧ I' = uI J 145 0 v) ∨ (r = 1 ∧ ∃ E, g E I' P'))) := fun J R hg => by
    refine y_ic dL_step_15 ⟨by decide, by decide⟩ ?_
    refine x_iret dL_step_16 rfl ?_
    exact Or.inr ⟨rfl, hg⟩
  have h8 : ∀ v J R, f v J R → V G mL_step (d + 1) 0 0 8 (noV 5) [.inl v, .inl 0, .inr (.inl 145)] NO J R (qI NO (fun r I' P' => (r = 0 ∧ ∃ v J, f v J P' ∧ I' = uI J 145 0 v) ∨ (r = 1 ∧ ∃ E, g E I' P'))) := fun v J R hf => by
    refine x_i2l dL_step_8 ?_
    refine x_last dL_step_9 ar145 ⟨by decide, by decide⟩ ?_
    refine x_goto (tgt := 17) dL_step_10 rfl ?_
    refine y_ic dL_step_17 ⟨by decide, by decide⟩ ?_
    refine x_iret dL_step_18 rfl ?_
    exact Or.inl ⟨rfl, v, J, hf, rfl⟩
  refine x_enter mfL_step rfl (Nat.le_of_ble_eq_true rfl) (fun _ => ?_)
  refine y_aln (i := 3) dL_step_0 ar145.ne0 rfl rfl ?_
  refine y_ic dL_step_1 ⟨by decide, by decide⟩ ?_
  refine y_aln (i := 0) dL_step_2 at1.ne0 rfl rfl ?_
  refine x_iload_n (i := 1) dL_step_3 rfl rfl ?_
  refine x_iload_n (i := 2) dL_step_4 rfl rfl ?_
  refine x_keep [0, 0, 0, 0, 0] ?_
  refine x_callVX (kc := 0) (ks := 0) hC dL_step_5 lkL_51 mfX11_step cfX11 at1 rfl rfl rfl rfl (by decide) (fun E J R hg => ?_) (fun v J R _ hf => h8 v J R hf)
  exact ⟨13, ⟨[], _, _, tEN, rfl, (fun z hz => nomatch hz), rfl, (by decide), ctLN, (hE _ _ _ hg).symm, rfl⟩, VR.as (i := 4) dL_step_13 (by decide) (h15 J R ⟨E, hg⟩)⟩
theorem c_L_poor {p0 p1 : Int} (hC : Cv G mX11_poor d 1 6 [.inr (.inl 1), .inl p0, .inl p1] NO I P (qX NO f g)) (hE : ∀ E J R, g E J R → E = tEN) : Cv G mL_poor (d + 1) 1 6 [.inr (.inl 1), .inl p0, .inl p1, .inr (.inl 145)] NO I P (qI NO (fun r I' P' => (r = 0 ∧ ∃ v J, f v J P' ∧ I' = uI J 145 0 v) ∨ (r = 1 ∧ ∃ E, g E I' P'))) := by
  have h15 : ∀ J R, (∃ E, g E J R) → V G mL_poor (d + 1) 0 0 15 (noV 5) [] NO J R (qI NO (fun r I' P' => (r = 0 ∧ ∃ v J, f v J P' ∧ I' = uI J 145 0 v) ∨ (r = 1 ∧ ∃ E, g E I' P'))) := fun J R hg => by
    refine y_ic dL_poor_15 ⟨by decide, by decide⟩ ?_
    refine x_iret dL_poor_16 rfl ?_
    exact Or.inr ⟨rfl, hg⟩
  have h8 : ∀ v J R, f v J R → V G mL_poor (d + 1) 0 0 8 (noV 5) [.inl v, .inl 0, .inr (.inl 145)] NO J R (qI NO (fun r I' P' => (r = 0 ∧ ∃ v J, f v J P' ∧ I' = uI J 145 0 v) ∨ (r = 1 ∧ ∃ E, g E I' P'))) := fun v J R hf => by
    refine x_i2l dL_poor_8 ?_
    refine x_last dL_poor_9 ar145 ⟨by decide, by decide⟩ ?_
    refine x_goto (tgt := 17) dL_poor_10 rfl ?_
    refine y_ic dL_poor_17 ⟨by decide, by decide⟩ ?_
    refine x_iret dL_poor_18 rfl ?_
    exact Or.inl ⟨rfl, v, J, hf, rfl⟩
  refine x_enter mfL_poor rfl (Nat.le_of_ble_eq_true rfl) (fun _ => ?_)
  refine y_aln (i := 3) dL_poor_0 ar145.ne0 rfl rfl ?_
  refine y_ic dL_poor_1 ⟨by decide, by decide⟩ ?_
  refine y_aln (i := 0) dL_poor_2 at1.ne0 rfl rfl ?_
  refine x_iload_n (i := 1) dL_poor_3 rfl rfl ?_
  refine x_iload_n (i := 2) dL_poor_4 rfl rfl ?_
  refine x_keep [0, 0, 0, 0, 0] ?_
  refine x_callVX (kc := 0) (ks := 0) hC dL_poor_5 lkL_54 mfX11_poor cfX11 at1 rfl rfl rfl rfl (by decide) (fun E J R hg => ?_) (fun v J R _ hf => h8 v J R hf)
  exact ⟨13, ⟨[], _, _, tEN, rfl, (fun z hz => nomatch hz), rfl, (by decide), ctLN, (hE _ _ _ hg).symm, rfl⟩, VR.as (i := 4) dL_poor_13 (by decide) (h15 J R ⟨E, hg⟩)⟩
theorem c_L_bag {p0 : Int} (hC : Cv G mX11_bag d 1 6 [.inr (.inl 1), .inl p0] NO I P (qX NO f g)) (hE : ∀ E J R, g E J R → E = tEN) : Cv G mL_bag (d + 1) 1 6 [.inr (.inl 1), .inl p0, .inr (.inl 145)] NO I P (qI NO (fun r I' P' => (r = 0 ∧ ∃ v J, f v J P' ∧ I' = uI J 145 0 v) ∨ (r = 1 ∧ ∃ E, g E I' P'))) := by
  have h13 : ∀ J R, (∃ E, g E J R) → V G mL_bag (d + 1) 0 0 13 (noV 4) [] NO J R (qI NO (fun r I' P' => (r = 0 ∧ ∃ v J, f v J P' ∧ I' = uI J 145 0 v) ∨ (r = 1 ∧ ∃ E, g E I' P'))) := fun J R hg => by
    refine y_ic dL_bag_13 ⟨by decide, by decide⟩ ?_
    refine x_iret dL_bag_14 rfl ?_
    exact Or.inr ⟨rfl, hg⟩
  have h7 : ∀ v J R, f v J R → V G mL_bag (d + 1) 0 0 7 (noV 4) [.inl v, .inl 0, .inr (.inl 145)] NO J R (qI NO (fun r I' P' => (r = 0 ∧ ∃ v J, f v J P' ∧ I' = uI J 145 0 v) ∨ (r = 1 ∧ ∃ E, g E I' P'))) := fun v J R hf => by
    refine x_i2l dL_bag_7 ?_
    refine x_last dL_bag_8 ar145 ⟨by decide, by decide⟩ ?_
    refine x_goto (tgt := 15) dL_bag_9 rfl ?_
    refine y_ic dL_bag_15 ⟨by decide, by decide⟩ ?_
    refine x_iret dL_bag_16 rfl ?_
    exact Or.inl ⟨rfl, v, J, hf, rfl⟩
  refine x_enter mfL_bag rfl (Nat.le_of_ble_eq_true rfl) (fun _ => ?_)
  refine y_aln (i := 2) dL_bag_0 ar145.ne0 rfl rfl ?_
  refine y_ic dL_bag_1 ⟨by decide, by decide⟩ ?_
  refine y_aln (i := 0) dL_bag_2 at1.ne0 rfl rfl ?_
  refine x_iload_n (i := 1) dL_bag_3 rfl rfl ?_
  refine x_keep [0, 0, 0, 0] ?_
  refine x_callVX (kc := 0) (ks := 0) hC dL_bag_4 lkL_57 mfX11_bag cfX11 at1 rfl rfl rfl rfl (by decide) (fun E J R hg => ?_) (fun v J R _ hf => h7 v J R hf)
  exact ⟨12, ⟨[], _, _, tEN, rfl, (fun z hz => nomatch hz), rfl, (by decide), ctLN, (hE _ _ _ hg).symm, rfl⟩, VR.asn (i := 3) dL_bag_12 rfl (by decide) (h13 J R ⟨E, hg⟩)⟩
theorem c_L_meet {p0 p1 : Int} (hC : Cv G mX11_meet d 1 6 [.inr (.inl 1), .inl p0, .inl p1] NO I P (qX NO f g)) (hE : ∀ E J R, g E J R → E = tEN) : Cv G mL_meet (d + 1) 1 6 [.inr (.inl 1), .inl p0, .inl p1, .inr (.inl 145)] NO I P (qI NO (fun r I' P' => (r = 0 ∧ ∃ v J, f v J P' ∧ I' = uI J 145 0 v) ∨ (r = 1 ∧ ∃ E, g E I' P'))) := by
  have h15 : ∀ J R, (∃ E, g E J R) → V G mL_meet (d + 1) 0 0 15 (noV 5) [] NO J R (qI NO (fun r I' P' => (r = 0 ∧ ∃ v J, f v J P' ∧ I' = uI J 145 0 v) ∨ (r = 1 ∧ ∃ E, g E I' P'))) := fun J R hg => by
    refine y_ic dL_meet_15 ⟨by decide, by decide⟩ ?_
    refine x_iret dL_meet_16 rfl ?_
    exact Or.inr ⟨rfl, hg⟩
  have h8 : ∀ v J R, f v J R → V G mL_meet (d + 1) 0 0 8 (noV 5) [.inl v, .inl 0, .inr (.inl 145)] NO J R (qI NO (fun r I' P' => (r = 0 ∧ ∃ v J, f v J P' ∧ I' = uI J 145 0 v) ∨ (r = 1 ∧ ∃ E, g E I' P'))) := fun v J R hf => by
    refine x_i2l dL_meet_8 ?_
    refine x_last dL_meet_9 ar145 ⟨by decide, by decide⟩ ?_
    refine x_goto (tgt := 17) dL_meet_10 rfl ?_
    refine y_ic dL_meet_17 ⟨by decide, by decide⟩ ?_
    refine x_iret dL_meet_18 rfl ?_
    exact Or.inl ⟨rfl, v, J, hf, rfl⟩
  refine x_enter mfL_meet rfl (Nat.le_of_ble_eq_true rfl) (fun _ => ?_)
  refine y_aln (i := 3) dL_meet_0 ar145.ne0 rfl rfl ?_
  refine y_ic dL_meet_1 ⟨by decide, by decide⟩ ?_
  refine y_aln (i := 0) dL_meet_2 at1.ne0 rfl rfl ?_
  refine x_iload_n (i := 1) dL_meet_3 rfl rfl ?_
  refine x_iload_n (i := 2) dL_meet_4 rfl rfl ?_
  refine x_keep [0, 0, 0, 0, 0] ?_
  refine x_callVX (kc := 0) (ks := 0) hC dL_meet_5 lkL_60 mfX11_meet cfX11 at1 rfl rfl rfl rfl (by decide) (fun E J R hg => ?_) (fun v J R _ hf => h8 v J R hf)
  exact ⟨13, ⟨[], _, _, tEN, rfl, (fun z hz => nomatch hz), rfl, (by decide), ctLN, (hE _ _ _ hg).symm, rfl⟩, VR.as (i := 4) dL_meet_13 (by decide) (h15 J R ⟨E, hg⟩)⟩
theorem c_L_days {p0 : Int} (hC : Cv G mX11_days d 1 6 [.inr (.inl 1), .inl p0] NO I P (qX NO f g)) (hE : ∀ E J R, g E J R → E = tEI) : Cv G mL_days (d + 1) 1 6 [.inr (.inl 1), .inl p0, .inr (.inl 145)] NO I P (qI NO (fun r I' P' => (r = 0 ∧ ∃ v J, f v J P' ∧ I' = uI J 145 0 v) ∨ (r = 1 ∧ ∃ E, g E I' P'))) := by
  have h13 : ∀ J R, (∃ E, g E J R) → V G mL_days (d + 1) 0 0 13 (noV 4) [] NO J R (qI NO (fun r I' P' => (r = 0 ∧ ∃ v J, f v J P' ∧ I' = uI J 145 0 v) ∨ (r = 1 ∧ ∃ E, g E I' P'))) := fun J R hg => by
    refine y_ic dL_days_13 ⟨by decide, by decide⟩ ?_
    refine x_iret dL_days_14 rfl ?_
    exact Or.inr ⟨rfl, hg⟩
  have h7 : ∀ v J R, f v J R → V G mL_days (d + 1) 0 0 7 (noV 4) [.inl v, .inl 0, .inr (.inl 145)] NO J R (qI NO (fun r I' P' => (r = 0 ∧ ∃ v J, f v J P' ∧ I' = uI J 145 0 v) ∨ (r = 1 ∧ ∃ E, g E I' P'))) := fun v J R hf => by
    refine x_i2l dL_days_7 ?_
    refine x_last dL_days_8 ar145 ⟨by decide, by decide⟩ ?_
    refine x_goto (tgt := 15) dL_days_9 rfl ?_
    refine y_ic dL_days_15 ⟨by decide, by decide⟩ ?_
    refine x_iret dL_days_16 rfl ?_
    exact Or.inl ⟨rfl, v, J, hf, rfl⟩
  refine x_enter mfL_days rfl (Nat.le_of_ble_eq_true rfl) (fun _ => ?_)
  refine y_aln (i := 2) dL_days_0 ar145.ne0 rfl rfl ?_
  refine y_ic dL_days_1 ⟨by decide, by decide⟩ ?_
  refine y_aln (i := 0) dL_days_2 at1.ne0 rfl rfl ?_
  refine x_iload_n (i := 1) dL_days_3 rfl rfl ?_
  refine x_keep [0, 0, 0, 0] ?_
  refine x_callVX (kc := 0) (ks := 0) hC dL_days_4 lkL_63 mfX11_days cfX11 at1 rfl rfl rfl rfl (by decide) (fun E J R hg => ?_) (fun v J R _ hf => h7 v J R hf)
  exact ⟨12, ⟨[], _, _, tEI, rfl, (fun z hz => nomatch hz), rfl, (by decide), ctLI, (hE _ _ _ hg).symm, rfl⟩, VR.asn (i := 3) dL_days_12 rfl (by decide) (h13 J R ⟨E, hg⟩)⟩
theorem c_L_end {p0 : Int} (hC : Cv G mX11_end d 1 6 [.inr (.inl 1), .inl p0] NO I P (qX NO f g)) (hE : ∀ E J R, g E J R → E = tEN) : Cv G mL_end (d + 1) 1 6 [.inr (.inl 1), .inl p0, .inr (.inl 145)] NO I P (qI NO (fun r I' P' => (r = 0 ∧ ∃ v J, f v J P' ∧ I' = uI J 145 0 v) ∨ (r = 1 ∧ ∃ E, g E I' P'))) := by
  have h13 : ∀ J R, (∃ E, g E J R) → V G mL_end (d + 1) 0 0 13 (noV 4) [] NO J R (qI NO (fun r I' P' => (r = 0 ∧ ∃ v J, f v J P' ∧ I' = uI J 145 0 v) ∨ (r = 1 ∧ ∃ E, g E I' P'))) := fun J R hg => by
    refine y_ic dL_end_13 ⟨by decide, by decide⟩ ?_
    refine x_iret dL_end_14 rfl ?_
    exact Or.inr ⟨rfl, hg⟩
  have h7 : ∀ v J R, f v J R → V G mL_end (d + 1) 0 0 7 (noV 4) [.inl v, .inl 0, .inr (.inl 145)] NO J R (qI NO (fun r I' P' => (r = 0 ∧ ∃ v J, f v J P' ∧ I' = uI J 145 0 v) ∨ (r = 1 ∧ ∃ E, g E I' P'))) := fun v J R hf => by
    refine x_i2l dL_end_7 ?_
    refine x_last dL_end_8 ar145 ⟨by decide, by decide⟩ ?_
    refine x_goto (tgt := 15) dL_end_9 rfl ?_
    refine y_ic dL_end_15 ⟨by decide, by decide⟩ ?_
    refine x_iret dL_end_16 rfl ?_
    exact Or.inl ⟨rfl, v, J, hf, rfl⟩
  refine x_enter mfL_end rfl (Nat.le_of_ble_eq_true rfl) (fun _ => ?_)
  refine y_aln (i := 2) dL_end_0 ar145.ne0 rfl rfl ?_
  refine y_ic dL_end_1 ⟨by decide, by decide⟩ ?_
  refine y_aln (i := 0) dL_end_2 at1.ne0 rfl rfl ?_
  refine x_iload_n (i := 1) dL_end_3 rfl rfl ?_
  refine x_keep [0, 0, 0, 0] ?_
  refine x_callVX (kc := 0) (ks := 0) hC dL_end_4 lkL_66 mfX11_end cfX11 at1 rfl rfl rfl rfl (by decide) (fun E J R hg => ?_) (fun v J R _ hf => h7 v J R hf)
  exact ⟨12, ⟨[], _, _, tEN, rfl, (fun z hz => nomatch hz), rfl, (by decide), ctLN, (hE _ _ _ hg).symm, rfl⟩, VR.asn (i := 3) dL_end_12 rfl (by decide) (h13 J R ⟨E, hg⟩)⟩
theorem c_L_ordered {p0 : Int} (hC : Cv G mX11_ordered d 1 6 [.inr (.inl 1), .inl p0] NO I P (qX NO f g)) (hE : ∀ E J R, g E J R → E = tEN) : Cv G mL_ordered (d + 1) 1 6 [.inr (.inl 1), .inl p0, .inr (.inl 145)] NO I P (qI NO (fun r I' P' => (r = 0 ∧ ∃ v J, f v J P' ∧ I' = uI J 145 0 v) ∨ (r = 1 ∧ ∃ E, g E I' P'))) := by
  have h13 : ∀ J R, (∃ E, g E J R) → V G mL_ordered (d + 1) 0 0 13 (noV 4) [] NO J R (qI NO (fun r I' P' => (r = 0 ∧ ∃ v J, f v J P' ∧ I' = uI J 145 0 v) ∨ (r = 1 ∧ ∃ E, g E I' P'))) := fun J R hg => by
    refine y_ic dL_ordered_13 ⟨by decide, by decide⟩ ?_
    refine x_iret dL_ordered_14 rfl ?_
    exact Or.inr ⟨rfl, hg⟩
  have h7 : ∀ v J R, f v J R → V G mL_ordered (d + 1) 0 0 7 (noV 4) [.inl v, .inl 0, .inr (.inl 145)] NO J R (qI NO (fun r I' P' => (r = 0 ∧ ∃ v J, f v J P' ∧ I' = uI J 145 0 v) ∨ (r = 1 ∧ ∃ E, g E I' P'))) := fun v J R hf => by
    refine x_i2l dL_ordered_7 ?_
    refine x_last dL_ordered_8 ar145 ⟨by decide, by decide⟩ ?_
    refine x_goto (tgt := 15) dL_ordered_9 rfl ?_
    refine y_ic dL_ordered_15 ⟨by decide, by decide⟩ ?_
    refine x_iret dL_ordered_16 rfl ?_
    exact Or.inl ⟨rfl, v, J, hf, rfl⟩
  refine x_enter mfL_ordered rfl (Nat.le_of_ble_eq_true rfl) (fun _ => ?_)
  refine y_aln (i := 2) dL_ordered_0 ar145.ne0 rfl rfl ?_
  refine y_ic dL_ordered_1 ⟨by decide, by decide⟩ ?_
  refine y_aln (i := 0) dL_ordered_2 at1.ne0 rfl rfl ?_
  refine x_iload_n (i := 1) dL_ordered_3 rfl rfl ?_
  refine x_keep [0, 0, 0, 0] ?_
  refine x_callVX (kc := 0) (ks := 0) hC dL_ordered_4 lkL_69 mfX11_ordered cfX11 at1 rfl rfl rfl rfl (by decide) (fun E J R hg => ?_) (fun v J R _ hf => h7 v J R hf)
  exact ⟨12, ⟨[], _, _, tEN, rfl, (fun z hz => nomatch hz), rfl, (by decide), ctLN, (hE _ _ _ hg).symm, rfl⟩, VR.asn (i := 3) dL_ordered_12 rfl (by decide) (h13 J R ⟨E, hg⟩)⟩
theorem c_L_ahead {p0 : Int} (hC : Cv G mX11_ahead d 1 6 [.inr (.inl 1), .inl p0] NO I P (qX NO f g)) (hE : ∀ E J R, g E J R → E = tEN) : Cv G mL_ahead (d + 1) 1 6 [.inr (.inl 1), .inl p0, .inr (.inl 145)] NO I P (qI NO (fun r I' P' => (r = 0 ∧ ∃ v J, f v J P' ∧ I' = uI J 145 0 v) ∨ (r = 1 ∧ ∃ E, g E I' P'))) := by
  have h13 : ∀ J R, (∃ E, g E J R) → V G mL_ahead (d + 1) 0 0 13 (noV 4) [] NO J R (qI NO (fun r I' P' => (r = 0 ∧ ∃ v J, f v J P' ∧ I' = uI J 145 0 v) ∨ (r = 1 ∧ ∃ E, g E I' P'))) := fun J R hg => by
    refine y_ic dL_ahead_13 ⟨by decide, by decide⟩ ?_
    refine x_iret dL_ahead_14 rfl ?_
    exact Or.inr ⟨rfl, hg⟩
  have h7 : ∀ v J R, f v J R → V G mL_ahead (d + 1) 0 0 7 (noV 4) [.inl v, .inl 0, .inr (.inl 145)] NO J R (qI NO (fun r I' P' => (r = 0 ∧ ∃ v J, f v J P' ∧ I' = uI J 145 0 v) ∨ (r = 1 ∧ ∃ E, g E I' P'))) := fun v J R hf => by
    refine x_i2l dL_ahead_7 ?_
    refine x_last dL_ahead_8 ar145 ⟨by decide, by decide⟩ ?_
    refine x_goto (tgt := 15) dL_ahead_9 rfl ?_
    refine y_ic dL_ahead_15 ⟨by decide, by decide⟩ ?_
    refine x_iret dL_ahead_16 rfl ?_
    exact Or.inl ⟨rfl, v, J, hf, rfl⟩
  refine x_enter mfL_ahead rfl (Nat.le_of_ble_eq_true rfl) (fun _ => ?_)
  refine y_aln (i := 2) dL_ahead_0 ar145.ne0 rfl rfl ?_
  refine y_ic dL_ahead_1 ⟨by decide, by decide⟩ ?_
  refine y_aln (i := 0) dL_ahead_2 at1.ne0 rfl rfl ?_
  refine x_iload_n (i := 1) dL_ahead_3 rfl rfl ?_
  refine x_keep [0, 0, 0, 0] ?_
  refine x_callVX (kc := 0) (ks := 0) hC dL_ahead_4 lkL_72 mfX11_ahead cfX11 at1 rfl rfl rfl rfl (by decide) (fun E J R hg => ?_) (fun v J R _ hf => h7 v J R hf)
  exact ⟨12, ⟨[], _, _, tEN, rfl, (fun z hz => nomatch hz), rfl, (by decide), ctLN, (hE _ _ _ hg).symm, rfl⟩, VR.asn (i := 3) dL_ahead_12 rfl (by decide) (h13 J R ⟨E, hg⟩)⟩
theorem c_L_still {p0 p1 p2 : Int} (hC : Cv G mX11_still d 1 6 [.inr (.inl 1), .inl p0, .inl p1, .inl p2] NO I P (qX NO f g)) (hE : ∀ E J R, g E J R → E = tEN ∨ E = tEI) : Cv G mL_still (d + 1) 1 6 [.inr (.inl 1), .inl p0, .inl p1, .inl p2, .inr (.inl 145)] NO I P (qI NO (fun r I' P' => (r = 0 ∧ ∃ v J, f v J P' ∧ I' = uI J 145 0 v) ∨ (r = 1 ∧ g tEN I' P') ∨ (r = 2 ∧ g tEI I' P'))) := by
  have h17 : ∀ J R, g tEN J R → V G mL_still (d + 1) 0 0 17 (noV 6) [] NO J R (qI NO (fun r I' P' => (r = 0 ∧ ∃ v J, f v J P' ∧ I' = uI J 145 0 v) ∨ (r = 1 ∧ g tEN I' P') ∨ (r = 2 ∧ g tEI I' P'))) := fun J R hg => by
    refine y_ic dL_still_17 ⟨by decide, by decide⟩ ?_
    refine x_iret dL_still_18 rfl ?_
    exact Or.inr (Or.inl ⟨rfl, hg⟩)
  have h21 : ∀ J R, g tEI J R → V G mL_still (d + 1) 0 0 21 (noV 6) [] NO J R (qI NO (fun r I' P' => (r = 0 ∧ ∃ v J, f v J P' ∧ I' = uI J 145 0 v) ∨ (r = 1 ∧ g tEN I' P') ∨ (r = 2 ∧ g tEI I' P'))) := fun J R hg => by
    refine y_ic dL_still_21 ⟨by decide, by decide⟩ ?_
    refine x_iret dL_still_22 rfl ?_
    exact Or.inr (Or.inr ⟨rfl, hg⟩)
  have h10 : ∀ v J R, f v J R → V G mL_still (d + 1) 0 0 10 (noV 6) [.inl v, .inl 0, .inr (.inl 145)] NO J R (qI NO (fun r I' P' => (r = 0 ∧ ∃ v J, f v J P' ∧ I' = uI J 145 0 v) ∨ (r = 1 ∧ g tEN I' P') ∨ (r = 2 ∧ g tEI I' P'))) := fun v J R hf => by
    refine x_i2l dL_still_10 ?_
    refine x_last dL_still_11 ar145 ⟨by decide, by decide⟩ ?_
    refine x_goto (tgt := 23) dL_still_12 rfl ?_
    refine y_ic dL_still_23 ⟨by decide, by decide⟩ ?_
    refine x_iret dL_still_24 rfl ?_
    exact Or.inl ⟨rfl, v, J, hf, rfl⟩
  refine x_enter mfL_still rfl (Nat.le_of_ble_eq_true rfl) (fun _ => ?_)
  refine y_al (i := 4) dL_still_0 ar145.ne0 rfl ?_
  refine y_ic dL_still_2 ⟨by decide, by decide⟩ ?_
  refine y_aln (i := 0) dL_still_3 at1.ne0 rfl rfl ?_
  refine x_iload_n (i := 1) dL_still_4 rfl rfl ?_
  refine x_iload_n (i := 2) dL_still_5 rfl rfl ?_
  refine x_iload_n (i := 3) dL_still_6 rfl rfl ?_
  refine x_keep [0, 0, 0, 0, 0, 0] ?_
  refine x_callVX (kc := 0) (ks := 0) hC dL_still_7 lkL_75 mfX11_still cfX11 at1 rfl rfl rfl rfl (by decide) (fun E J R hg => ?_) (fun v J R _ hf => h10 v J R hf)
  rcases hE _ _ _ hg with rfl | rfl
  · exact ⟨15, ⟨[], _, _, tEN, rfl, (fun z hz => nomatch hz), rfl, (by decide), ctLN, rfl, rfl⟩, VR.as (i := 5) dL_still_15 (by decide) (h17 J R hg)⟩
  · exact ⟨19, ⟨[_], _, _, tEI, rfl, (fun z hz => by rw [List.mem_singleton.mp hz]; exact Or.inr ⟨by decide, ctLN, rfl⟩), rfl, (by decide), ctLI, rfl, rfl⟩, VR.as (i := 5) dL_still_19 (by decide) (h21 J R hg)⟩
theorem c_L_share {p0 : Int} (hC : Cv G mX11_share d 1 6 [.inr (.inl 1), .inl p0] NO I P (qX NO f g)) (hE : ∀ E J R, g E J R → E = tEN) : Cv G mL_share (d + 1) 1 6 [.inr (.inl 1), .inl p0, .inr (.inl 145)] NO I P (qI NO (fun r I' P' => (r = 0 ∧ ∃ v J, f v J P' ∧ I' = uI J 145 0 v) ∨ (r = 1 ∧ ∃ E, g E I' P'))) := by
  have h13 : ∀ J R, (∃ E, g E J R) → V G mL_share (d + 1) 0 0 13 (noV 4) [] NO J R (qI NO (fun r I' P' => (r = 0 ∧ ∃ v J, f v J P' ∧ I' = uI J 145 0 v) ∨ (r = 1 ∧ ∃ E, g E I' P'))) := fun J R hg => by
    refine y_ic dL_share_13 ⟨by decide, by decide⟩ ?_
    refine x_iret dL_share_14 rfl ?_
    exact Or.inr ⟨rfl, hg⟩
  have h7 : ∀ v J R, f v J R → V G mL_share (d + 1) 0 0 7 (noV 4) [.inl v, .inl 0, .inr (.inl 145)] NO J R (qI NO (fun r I' P' => (r = 0 ∧ ∃ v J, f v J P' ∧ I' = uI J 145 0 v) ∨ (r = 1 ∧ ∃ E, g E I' P'))) := fun v J R hf => by
    refine x_i2l dL_share_7 ?_
    refine x_last dL_share_8 ar145 ⟨by decide, by decide⟩ ?_
    refine x_goto (tgt := 15) dL_share_9 rfl ?_
    refine y_ic dL_share_15 ⟨by decide, by decide⟩ ?_
    refine x_iret dL_share_16 rfl ?_
    exact Or.inl ⟨rfl, v, J, hf, rfl⟩
  refine x_enter mfL_share rfl (Nat.le_of_ble_eq_true rfl) (fun _ => ?_)
  refine y_aln (i := 2) dL_share_0 ar145.ne0 rfl rfl ?_
  refine y_ic dL_share_1 ⟨by decide, by decide⟩ ?_
  refine y_aln (i := 0) dL_share_2 at1.ne0 rfl rfl ?_
  refine x_iload_n (i := 1) dL_share_3 rfl rfl ?_
  refine x_keep [0, 0, 0, 0] ?_
  refine x_callVX (kc := 0) (ks := 0) hC dL_share_4 lkL_79 mfX11_share cfX11 at1 rfl rfl rfl rfl (by decide) (fun E J R hg => ?_) (fun v J R _ hf => h7 v J R hf)
  exact ⟨12, ⟨[], _, _, tEN, rfl, (fun z hz => nomatch hz), rfl, (by decide), ctLN, (hE _ _ _ hg).symm, rfl⟩, VR.asn (i := 3) dL_share_12 rfl (by decide) (h13 J R ⟨E, hg⟩)⟩
theorem c_L_shared {p0 p1 : Int} (hC : Cv G mX11_shared d 1 6 [.inr (.inl 1), .inl p0, .inl p1] NO I P (qX NO f g)) (hE : ∀ E J R, g E J R → E = tEN) : Cv G mL_shared (d + 1) 1 6 [.inr (.inl 1), .inl p0, .inl p1, .inr (.inl 145)] NO I P (qI NO (fun r I' P' => (r = 0 ∧ ∃ v J, f v J P' ∧ I' = uI J 145 0 v) ∨ (r = 1 ∧ ∃ E, g E I' P'))) := by
  have h15 : ∀ J R, (∃ E, g E J R) → V G mL_shared (d + 1) 0 0 15 (noV 5) [] NO J R (qI NO (fun r I' P' => (r = 0 ∧ ∃ v J, f v J P' ∧ I' = uI J 145 0 v) ∨ (r = 1 ∧ ∃ E, g E I' P'))) := fun J R hg => by
    refine y_ic dL_shared_15 ⟨by decide, by decide⟩ ?_
    refine x_iret dL_shared_16 rfl ?_
    exact Or.inr ⟨rfl, hg⟩
  have h8 : ∀ v J R, f v J R → V G mL_shared (d + 1) 0 0 8 (noV 5) [.inl v, .inl 0, .inr (.inl 145)] NO J R (qI NO (fun r I' P' => (r = 0 ∧ ∃ v J, f v J P' ∧ I' = uI J 145 0 v) ∨ (r = 1 ∧ ∃ E, g E I' P'))) := fun v J R hf => by
    refine x_i2l dL_shared_8 ?_
    refine x_last dL_shared_9 ar145 ⟨by decide, by decide⟩ ?_
    refine x_goto (tgt := 17) dL_shared_10 rfl ?_
    refine y_ic dL_shared_17 ⟨by decide, by decide⟩ ?_
    refine x_iret dL_shared_18 rfl ?_
    exact Or.inl ⟨rfl, v, J, hf, rfl⟩
  refine x_enter mfL_shared rfl (Nat.le_of_ble_eq_true rfl) (fun _ => ?_)
  refine y_aln (i := 3) dL_shared_0 ar145.ne0 rfl rfl ?_
  refine y_ic dL_shared_1 ⟨by decide, by decide⟩ ?_
  refine y_aln (i := 0) dL_shared_2 at1.ne0 rfl rfl ?_
  refine x_iload_n (i := 1) dL_shared_3 rfl rfl ?_
  refine x_iload_n (i := 2) dL_shared_4 rfl rfl ?_
  refine x_keep [0, 0, 0, 0, 0] ?_
  refine x_callVX (kc := 0) (ks := 0) hC dL_shared_5 lkL_82 mfX11_shared cfX11 at1 rfl rfl rfl rfl (by decide) (fun E J R hg => ?_) (fun v J R _ hf => h8 v J R hf)
  exact ⟨13, ⟨[], _, _, tEN, rfl, (fun z hz => nomatch hz), rfl, (by decide), ctLN, (hE _ _ _ hg).symm, rfl⟩, VR.as (i := 4) dL_shared_13 (by decide) (h15 J R ⟨E, hg⟩)⟩
theorem c_L_law {p0 p1 : Int} (hC : Cv G mX11_law d 1 6 [.inr (.inl 1), .inl p0, .inl p1] NO I P (qX NO f g)) (hE : ∀ E J R, g E J R → E = tEN) : Cv G mL_law (d + 1) 1 6 [.inr (.inl 1), .inl p0, .inl p1, .inr (.inl 145)] NO I P (qI NO (fun r I' P' => (r = 0 ∧ ∃ v J, f v J P' ∧ I' = uI J 145 0 v) ∨ (r = 1 ∧ ∃ E, g E I' P'))) := by
  have h15 : ∀ J R, (∃ E, g E J R) → V G mL_law (d + 1) 0 0 15 (noV 5) [] NO J R (qI NO (fun r I' P' => (r = 0 ∧ ∃ v J, f v J P' ∧ I' = uI J 145 0 v) ∨ (r = 1 ∧ ∃ E, g E I' P'))) := fun J R hg => by
    refine y_ic dL_law_15 ⟨by decide, by decide⟩ ?_
    refine x_iret dL_law_16 rfl ?_
    exact Or.inr ⟨rfl, hg⟩
  have h8 : ∀ v J R, f v J R → V G mL_law (d + 1) 0 0 8 (noV 5) [.inl v, .inl 0, .inr (.inl 145)] NO J R (qI NO (fun r I' P' => (r = 0 ∧ ∃ v J, f v J P' ∧ I' = uI J 145 0 v) ∨ (r = 1 ∧ ∃ E, g E I' P'))) := fun v J R hf => by
    refine x_i2l dL_law_8 ?_
    refine x_last dL_law_9 ar145 ⟨by decide, by decide⟩ ?_
    refine x_goto (tgt := 17) dL_law_10 rfl ?_
    refine y_ic dL_law_17 ⟨by decide, by decide⟩ ?_
    refine x_iret dL_law_18 rfl ?_
    exact Or.inl ⟨rfl, v, J, hf, rfl⟩
  refine x_enter mfL_law rfl (Nat.le_of_ble_eq_true rfl) (fun _ => ?_)
  refine y_aln (i := 3) dL_law_0 ar145.ne0 rfl rfl ?_
  refine y_ic dL_law_1 ⟨by decide, by decide⟩ ?_
  refine y_aln (i := 0) dL_law_2 at1.ne0 rfl rfl ?_
  refine x_iload_n (i := 1) dL_law_3 rfl rfl ?_
  refine x_iload_n (i := 2) dL_law_4 rfl rfl ?_
  refine x_keep [0, 0, 0, 0, 0] ?_
  refine x_callVX (kc := 0) (ks := 0) hC dL_law_5 lkL_85 mfX11_law cfX11 at1 rfl rfl rfl rfl (by decide) (fun E J R hg => ?_) (fun v J R _ hf => h8 v J R hf)
  exact ⟨13, ⟨[], _, _, tEN, rfl, (fun z hz => nomatch hz), rfl, (by decide), ctLN, (hE _ _ _ hg).symm, rfl⟩, VR.as (i := 4) dL_law_13 (by decide) (h15 J R ⟨E, hg⟩)⟩
theorem c_L_run {p0 p1 : Int} (hC : Cv G mX11_run d 1 6 [.inr (.inl 1), .inl p0, .inl p1] NO I P (qX NO f g)) (hE : ∀ E J R, g E J R → E = tEI) : Cv G mL_run (d + 1) 1 6 [.inr (.inl 1), .inl p0, .inl p1, .inr (.inl 145)] NO I P (qI NO (fun r I' P' => (r = 0 ∧ ∃ v J, f v J P' ∧ I' = uI J 145 0 v) ∨ (r = 1 ∧ ∃ E, g E I' P'))) := by
  have h15 : ∀ J R, (∃ E, g E J R) → V G mL_run (d + 1) 0 0 15 (noV 5) [] NO J R (qI NO (fun r I' P' => (r = 0 ∧ ∃ v J, f v J P' ∧ I' = uI J 145 0 v) ∨ (r = 1 ∧ ∃ E, g E I' P'))) := fun J R hg => by
    refine y_ic dL_run_15 ⟨by decide, by decide⟩ ?_
    refine x_iret dL_run_16 rfl ?_
    exact Or.inr ⟨rfl, hg⟩
  have h8 : ∀ v J R, f v J R → V G mL_run (d + 1) 0 0 8 (noV 5) [.inl v, .inl 0, .inr (.inl 145)] NO J R (qI NO (fun r I' P' => (r = 0 ∧ ∃ v J, f v J P' ∧ I' = uI J 145 0 v) ∨ (r = 1 ∧ ∃ E, g E I' P'))) := fun v J R hf => by
    refine x_i2l dL_run_8 ?_
    refine x_last dL_run_9 ar145 ⟨by decide, by decide⟩ ?_
    refine x_goto (tgt := 17) dL_run_10 rfl ?_
    refine y_ic dL_run_17 ⟨by decide, by decide⟩ ?_
    refine x_iret dL_run_18 rfl ?_
    exact Or.inl ⟨rfl, v, J, hf, rfl⟩
  refine x_enter mfL_run rfl (Nat.le_of_ble_eq_true rfl) (fun _ => ?_)
  refine y_aln (i := 3) dL_run_0 ar145.ne0 rfl rfl ?_
  refine y_ic dL_run_1 ⟨by decide, by decide⟩ ?_
  refine y_aln (i := 0) dL_run_2 at1.ne0 rfl rfl ?_
  refine x_iload_n (i := 1) dL_run_3 rfl rfl ?_
  refine x_iload_n (i := 2) dL_run_4 rfl rfl ?_
  refine x_keep [0, 0, 0, 0, 0] ?_
  refine x_callVX (kc := 0) (ks := 0) hC dL_run_5 lkL_88 mfX11_run cfX11 at1 rfl rfl rfl rfl (by decide) (fun E J R hg => ?_) (fun v J R _ hf => h8 v J R hf)
  exact ⟨13, ⟨[], _, _, tEI, rfl, (fun z hz => nomatch hz), rfl, (by decide), ctLI, (hE _ _ _ hg).symm, rfl⟩, VR.as (i := 4) dL_run_13 (by decide) (h15 J R ⟨E, hg⟩)⟩
end

