/-! ===== the class: sharing ===== -/
def SHC (I : Mem) (K so : Int) (L : Rw) : Prop := I 80 2 = K ∧ I 80 3 = so ∧ (∀ s, 0 ≤ s → s < so → I 82 s = L s) ∧ (1 ≤ K ∧ K ≤ 6) ∧ (1 ≤ so ∧ so ≤ 8) ∧ (∀ x, 0 ≤ x → x < 8 → 0 ≤ L x ∧ L x ≤ 5760) ∧ ∀ x, so ≤ x → x < 8 → L x = 0
theorem SHC.fr {I J : Mem} {K so : Int} {L : Rw} (h : SHC I K so L) (h1 : J 80 = I 80) (h2 : J 82 = I 82) : SHC J K so L := by
  unfold SHC
  rw [h1, h2]
  exact h
def hdP (i j s : Int) : Int := if s ≤ j then i + 1 else i
section
variable {G : HX} {d : Nat} {I : Mem} {P : Ptr} {T : Tn}
theorem c_X8_waysOf {K n : Int} (hW : WP P) (hK : I 80 2 = K) (hk : 1 ≤ K ∧ K ≤ 6) (hn : 0 ≤ n ∧ n ≤ 5760) : Cv G mX8_waysOf d 0 0 [.inr (.inl 80), .inl n] NO I P (qI NO (fun r I' P' => I' = I ∧ P' = P ∧ ((r ≤ 1500 ∧ r = cw (K - 1).toNat n) ∨ (r = 1501 ∧ 1500 < cw (K - 1).toNat n)) ∧ 1 ≤ r)) := by
  refine x_enter mfX8_waysOf rfl (Nat.le_of_ble_eq_true rfl) (fun _ => ?_)
  have hL : ∀ (j : Nat) (k v : Int), (K - k).toNat < j → 1 ≤ k → k ≤ K → (1 ≤ v ∧ v ≤ 1500) → v = cw (k - 1).toNat n → V G mX8_waysOf d 0 0 4 [some (.inr (.inl 80)), some (.inl (n)), some (.inl (v)), some (.inl (k))] [] NO I P (qI NO (fun r I' P' => I' = I ∧ P' = P ∧ ((r ≤ 1500 ∧ r = cw (K - 1).toNat n) ∨ (r = 1501 ∧ 1500 < cw (K - 1).toNat n)) ∧ 1 ≤ r)) := by
    intro j
    induction j with
    | zero => intro k v hj; omega
    | succ j ih =>
      intro k v hj hk1 hk2 hv hcw
      have hdv : v * (n + k) / k = cw (k + 1 - 1).toNat n ∧ (0 ≤ v * (n + k) ∧ v * (n + k) ≤ 1500 * 5766) := by
        have h1 := cw_div (k := (k - 1).toNat) hn.1
        rw [show (((k - 1).toNat : Nat) : Int) + 1 = k by omega, ← hcw] at h1
        rw [h1, show (k + 1 - 1).toNat = (k - 1).toNat + 1 by omega]
        exact ⟨rfl, Int.mul_nonneg (by omega) (by omega), Int.mul_le_mul hv.2 (by omega) (by omega) (by decide)⟩
      have hp1 : 1 ≤ cw (k + 1 - 1).toNat n := cw_pos hn.1
      have hmn : k < K → cw (k + 1 - 1).toNat n ≤ cw (K - 1).toNat n := fun z => by
        have := cw_le hn.1 (k := (k + 1 - 1).toNat) (K - k - 1).toNat
        rwa [show (k + 1 - 1).toNat + (K - k - 1).toNat = (K - 1).toNat by omega] at this
      have he : K ≤ k → v = cw (K - 1).toNat n := fun z => by rw [hcw, show k = K by omega]
      obtain ⟨dv1, dv2, dv3⟩ := hdv
      obtain ⟨w, hw⟩ : ∃ w, w = v * (n + k) := ⟨_, rfl⟩
      rw [← hw] at dv1 dv2 dv3
      refine x_iload_n (i := 3) dX8_waysOf_4 rfl rfl ?_
      refine y_aln (i := 0) dX8_waysOf_5 at80.ne0 rfl rfl ?_
      refine y_geti (z := 2) dX8_waysOf_6 frX8_30 cfX8 at80 rfl rfl ?_
      refine x_icmp_ge (tgt := 37) dX8_waysOf_9 rfl (fun h9 => ?_) (fun h9 => ?_)
      · refine x_iload_n (i := 2) dX8_waysOf_37 rfl rfl ?_
        refine x_iret dX8_waysOf_38 rfl ?_
        exact ⟨rfl, rfl, Or.inl ⟨hv.2, he (by omega)⟩, hv.1⟩
      · have hmn' := hmn (by omega)
        refine x_iload_n (i := 2) dX8_waysOf_12 rfl rfl ?_
        refine x_iload_n (i := 1) dX8_waysOf_13 rfl rfl ?_
        refine x_iload_n (i := 3) dX8_waysOf_14 rfl rfl ?_
        refine x_iadd dX8_waysOf_15 ⟨by omega, by omega⟩ ?_
        refine x_imul dX8_waysOf_16 ⟨by rw [← hw]; omega, by rw [← hw]; omega⟩ ?_
        rw [← hw]
        refine x_iload_n (i := 3) dX8_waysOf_17 rfl rfl ?_
        refine x_idiv dX8_waysOf_18 (by omega) (by omega) ?_
        rw [dv1]
        refine x_istore_n (i := 2) dX8_waysOf_19 rfl rfl (Nat.le_of_ble_eq_true rfl) ?_
        refine x_iload_n (i := 2) dX8_waysOf_20 rfl rfl ?_
        refine y_si dX8_waysOf_21 ⟨by decide, by decide⟩ ?_
        refine x_icmp_le (tgt := 31) dX8_waysOf_24 rfl (fun h24 => ?_) (fun h24 => ?_)
        · refine x_iinc dX8_waysOf_31 rfl ⟨by omega, by omega⟩ rfl (Nat.le_of_ble_eq_true rfl) ?_
          refine x_goto (tgt := 4) dX8_waysOf_34 rfl ?_
          refine x_keep [1, 1, 1, 1] ?_
          exact ih (k + 1) _ (by omega) (by omega) (by omega) (by omega) rfl
        · refine y_si dX8_waysOf_27 ⟨by decide, by decide⟩ ?_
          refine x_iret dX8_waysOf_30 rfl ?_
          exact ⟨rfl, rfl, Or.inr ⟨rfl, by omega⟩, by decide⟩
  refine y_ic dX8_waysOf_0 ⟨by decide, by decide⟩ ?_
  refine x_istore_n (i := 2) dX8_waysOf_1 rfl rfl (Nat.le_of_ble_eq_true rfl) ?_
  refine y_ic dX8_waysOf_2 ⟨by decide, by decide⟩ ?_
  refine x_istore_n (i := 3) dX8_waysOf_3 rfl rfl (Nat.le_of_ble_eq_true rfl) ?_
  refine x_keep [1, 1, 1, 1] ?_
  exact hL _ 1 1 (Nat.lt_succ_self _) (by decide) (by omega) ⟨by decide, by decide⟩ rfl
theorem c_X8_begin {q t l : Nat} (hW : WP P) (hM : MK I P q t l T) (hF : WF T) (hr : RW T (I (q + 1))) (h1p : 1 ≤ T 0 1) : Cv G mX8_begin (d + 1) 0 0 [.inr (.inl 80), .inr (.inl q)] NO I P (qV (fun n' I' P' => n' = NO ∧ P' = P ∧ (∀ a, a ≠ 80 → a ≠ 81 → a ≠ 82 → I' a = I a) ∧ SHC I' (T 0 1) (T 0 2) (LfS T (I (q + 1))) ∧ ∀ c, 0 ≤ c → c < 48 → I' 81 c = m0S (T 0 1) (LfS T (I (q + 1))) c)) := by
  obtain ⟨hq, hTo, hLo, hpt, hpl, hca, hcl⟩ := id hM
  have wT := wp_T hW hTo
  have f1 := hF.1
  have f2 := hF.2.1
  have hq1 := hq
  unfold isM at hq1
  have ht1 := hTo.1
  have hm0 : ∀ c, 0 ≤ c → c < 48 → m0S (T 0 1) (LfS T (I (q + 1))) c = if c < T 0 2 then LfS T (I (q + 1)) c else 0 := fun c c0 c1 => by
    unfold m0S fsS
    rw [if_neg (by omega), if_neg (by omega)]
    by_cases e : c < 8
    · rw [if_pos (by omega), show c % 8 = c by omega, show c / 8 = 0 by omega, show colS (fun _ => (0 : Int)) c 0 = 0 from rfl, Int.sub_zero]
      by_cases e2 : c < T 0 2
      · rw [if_pos e2]
      · rw [if_neg e2]; exact LfS_z hF hr ⟨by omega, e⟩
    · rw [if_neg (by omega), if_neg (by omega)]
  refine x_enter mfX8_begin rfl (Nat.le_of_ble_eq_true rfl) (fun _ => ?_)
  have hB : ∀ (f : Nat) (s : Int) (J : Mem), (T 0 2 - s).toNat < f → 0 ≤ s → s ≤ T 0 2 → (∀ a, a ≠ 80 → a ≠ 81 → a ≠ 82 → J a = I a) → J 80 2 = T 0 1 → J 80 3 = T 0 2 → (∀ x, 0 ≤ x → x < s → J 82 x = LfS T (I (q + 1)) x) → (∀ c, 0 ≤ c → c < 48 → J 81 c = if c < s then LfS T (I (q + 1)) c else 0) → V G mX8_begin (d + 1) 0 0 45 [some (.inr (.inl 80)), some (.inr (.inl q)), some (.inl (s))] [] NO J P (qV (fun n' I' P' => n' = NO ∧ P' = P ∧ (∀ a, a ≠ 80 → a ≠ 81 → a ≠ 82 → I' a = I a) ∧ SHC I' (T 0 1) (T 0 2) (LfS T (I (q + 1))) ∧ ∀ c, 0 ≤ c → c < 48 → I' 81 c = m0S (T 0 1) (LfS T (I (q + 1))) c)) := by
    intro f
    induction f with
    | zero => intro s J hf; omega
    | succ f ih =>
      intro s J hf hs hs2 hJo j2 j3 h82 h81
      have hMJ : MK J P q t l T := hM.fr (S := fun a => a = 80 ∨ a = 81 ∨ a = 82) (fun a ha => hJo a (fun e => ha (Or.inl e)) (fun e => ha (Or.inr (Or.inl e))) (fun e => ha (Or.inr (Or.inr e)))) (fun a ha => by unfold inTL; omega)
      have jr : J (q + 1) = I (q + 1) := hJo (q + 1) (by omega) (by omega) (by omega)
      have ev : ∀ v, uI J 82 s v 82 s = v := fun v => by rw [uI_eq, u1_eq]
      refine x_iload_n (i := 2) dX8_begin_45 rfl rfl ?_
      refine y_aln (i := 0) dX8_begin_46 at80.ne0 rfl rfl ?_
      refine y_geti (z := 3) dX8_begin_47 frX8_34 cfX8 at80 rfl rfl ?_
      rw [j3]
      refine x_icmp_ge (tgt := 82) dX8_begin_50 rfl (fun h50 => ?_) (fun h50 => ?_)
      · refine x_vret dX8_begin_82 rfl ?_
        refine ⟨rfl, rfl, hJo, ⟨j2, j3, fun x x0 x1 => h82 x x0 (by omega), ⟨h1p, f1.2⟩, f2, LfS_nn hF hr, fun x x0 x1 => LfS_z hF hr ⟨x0, x1⟩⟩, fun c c0 c1 => ?_⟩
        rw [h81 c c0 c1, hm0 c c0 c1, show s = T 0 2 by omega]
      · refine y_aln (i := 0) dX8_begin_53 at80.ne0 rfl rfl ?_
        refine y_getp (z := 1) (v := 82) dX8_begin_54 frX8_15 cfX8 at80 rfl rfl (wp (v := 82) hW rfl rfl (by decide)) ?_
        refine x_iload_n (i := 2) dX8_begin_57 rfl rfl ?_
        refine y_aln (i := 1) dX8_begin_58 hq.at.ne0 rfl rfl ?_
        refine x_iload_n (i := 2) dX8_begin_59 rfl rfl ?_
        refine x_callVI (c_X3_thingsOf hW hMJ hF (by rw [jr]; exact hr.rc) (by omega)) dX8_begin_60 lkX8_35 mfX3_thingsOf cfX3 hq.at rfl rfl rfl rfl (Nat.le_of_ble_eq_true rfl) (fun r60 I60 P60 hr60 hf60 => ?_)
        obtain ⟨i60, p60, q60⟩ := hf60
        rw [i60, p60, q60]
        rw [jr]
        refine x_iast dX8_begin_63 ar82 ⟨by omega, by omega⟩ ?_
        refine y_aln (i := 0) dX8_begin_64 at80.ne0 rfl rfl ?_
        refine y_getp (z := 0) (v := 81) dX8_begin_65 frX8_9 cfX8 at80 rfl rfl (wp (v := 81) hW rfl rfl (by decide)) ?_
        refine x_iload_n (i := 2) dX8_begin_68 rfl rfl ?_
        refine y_aln (i := 0) dX8_begin_69 at80.ne0 rfl rfl ?_
        refine y_getp (z := 1) (v := 82) dX8_begin_70 frX8_15 cfX8 at80 rfl rfl (wp (v := 82) hW rfl rfl (by decide)) ?_
        refine x_iload_n (i := 2) dX8_begin_73 rfl rfl ?_
        refine x_iald dX8_begin_74 ar82 ⟨by omega, by omega⟩ ?_
        rw [ev]
        refine x_iast dX8_begin_75 ar81 ⟨by omega, by omega⟩ ?_
        refine x_iinc dX8_begin_76 rfl ⟨by omega, by omega⟩ rfl (Nat.le_of_ble_eq_true rfl) ?_
        refine x_goto (tgt := 45) dX8_begin_79 rfl ?_
        refine x_keep [1, 1, 1] ?_
        refine ih (s + 1) _ (by omega) (by omega) (by omega) (fun a a0 a1 a2 => by rw [uI_ne a1, uI_ne a2]; exact hJo a a0 a1 a2) (by rw [uI_ne (by decide), uI_ne (by decide)]; exact j2) (by rw [uI_ne (by decide), uI_ne (by decide)]; exact j3) (fun x x0 x1 => ?_) (fun c c0 c1 => ?_)
        · rw [uI_ne (by decide), uI_eq]
          by_cases e : x = s
          · rw [e, u1_eq]
          · rw [u1_ne e]; exact h82 x x0 (by omega)
        · rw [uI_eq]
          by_cases e : c = s
          · rw [e, u1_eq, if_pos (by omega)]
          · rw [u1_ne e, uI_ne (by decide), h81 c c0 c1]
            by_cases q : c < s
            · rw [if_pos q, if_pos (by omega)]
            · rw [if_neg q, if_neg (by omega)]
  have hA : ∀ (f : Nat) (c : Int) (J : Mem), (48 - c).toNat < f → 0 ≤ c → c ≤ 48 → (∀ a, a ≠ 80 → a ≠ 81 → a ≠ 82 → J a = I a) → J 80 2 = T 0 1 → J 80 3 = T 0 2 → (∀ x, 0 ≤ x → x < c → J 81 x = 0) → V G mX8_begin (d + 1) 0 0 24 [some (.inr (.inl 80)), some (.inr (.inl q)), some (.inl (c))] [] NO J P (qV (fun n' I' P' => n' = NO ∧ P' = P ∧ (∀ a, a ≠ 80 → a ≠ 81 → a ≠ 82 → I' a = I a) ∧ SHC I' (T 0 1) (T 0 2) (LfS T (I (q + 1))) ∧ ∀ c, 0 ≤ c → c < 48 → I' 81 c = m0S (T 0 1) (LfS T (I (q + 1))) c)) := by
    intro f
    induction f with
    | zero => intro c J hf; omega
    | succ f ih =>
      intro c J hf hc hc2 hJo j2 j3 h81
      refine x_iload_n (i := 2) dX8_begin_24 rfl rfl ?_
      refine y_bi dX8_begin_25 ⟨by decide, by decide⟩ ?_
      refine x_icmp_ge (tgt := 43) dX8_begin_27 rfl (fun h27 => ?_) (fun h27 => ?_)
      · refine y_ic dX8_begin_43 ⟨by decide, by decide⟩ ?_
        refine x_istore_n (i := 2) dX8_begin_44 rfl rfl (Nat.le_of_ble_eq_true rfl) ?_
        refine x_keep [1, 1, 1] ?_
        exact hB _ 0 J (Nat.lt_succ_self _) (by decide) (by omega) hJo j2 j3 (fun x x0 x1 => by omega) (fun x x0 x1 => by rw [h81 x x0 (by omega), if_neg (by omega)])
      · refine y_aln (i := 0) dX8_begin_30 at80.ne0 rfl rfl ?_
        refine y_getp (z := 0) (v := 81) dX8_begin_31 frX8_9 cfX8 at80 rfl rfl (wp (v := 81) hW rfl rfl (by decide)) ?_
        refine x_iload_n (i := 2) dX8_begin_34 rfl rfl ?_
        refine y_ic dX8_begin_35 ⟨by decide, by decide⟩ ?_
        refine x_iast dX8_begin_36 ar81 ⟨by omega, by omega⟩ ?_
        refine x_iinc dX8_begin_37 rfl ⟨by omega, by omega⟩ rfl (Nat.le_of_ble_eq_true rfl) ?_
        refine x_goto (tgt := 24) dX8_begin_40 rfl ?_
        refine x_keep [1, 1, 1] ?_
        refine ih (c + 1) _ (by omega) (by omega) (by omega) (fun a a0 a1 a2 => by rw [uI_ne a1]; exact hJo a a0 a1 a2) (by rw [uI_ne (by decide)]; exact j2) (by rw [uI_ne (by decide)]; exact j3) (fun x x0 x1 => ?_)
        rw [uI_eq]
        by_cases e : x = c
        · rw [e, u1_eq]
        · rw [u1_ne e]; exact h81 x x0 (by omega)
  have e1 : I t 0 = T 0 1 := hca.1
  have e2 : uI I 80 2 (T 0 1) t 1 = T 0 2 := by rw [uI_ne (by omega)]; exact hca.2.1
  refine y_aln (i := 0) dX8_begin_0 at80.ne0 rfl rfl ?_
  refine y_aln (i := 1) dX8_begin_1 hq.at.ne0 rfl rfl ?_
  refine y_getp (z := 0) (v := t) dX8_begin_2 frX8_18 cfX3 hq.at rfl rfl hpt ?_
  refine y_geti (z := 0) dX8_begin_5 frX8_24 cfX10 hTo.at rfl rfl ?_
  rw [e1]
  refine y_puti (z := 2) dX8_begin_8 frX8_30 cfX8 at80 rfl rfl rfl ?_
  refine y_aln (i := 0) dX8_begin_11 at80.ne0 rfl rfl ?_
  refine y_aln (i := 1) dX8_begin_12 hq.at.ne0 rfl rfl ?_
  refine y_getp (z := 0) (v := t) dX8_begin_13 frX8_18 cfX3 hq.at rfl rfl hpt ?_
  refine y_geti (z := 1) dX8_begin_16 frX8_31 cfX10 hTo.at rfl rfl ?_
  rw [e2]
  refine y_puti (z := 3) dX8_begin_19 frX8_34 cfX8 at80 rfl rfl rfl ?_
  refine y_ic dX8_begin_22 ⟨by decide, by decide⟩ ?_
  refine x_istore_n (i := 2) dX8_begin_23 rfl rfl (Nat.le_of_ble_eq_true rfl) ?_
  refine x_keep [1, 1, 1] ?_
  exact hA _ 0 _ (Nat.lt_succ_self _) (by decide) (by decide) (fun a a0 a1 a2 => by rw [uI_ne a0, uI_ne a0]) (by rw [uI_eq, u1_ne (by decide), uI_eq, u1_eq]) (by rw [uI_eq, u1_eq]) (fun x x0 x1 => by omega)
theorem c_X8_ways {K so : Int} {L : Rw} (hW : WP P) (hS : SHC I K so L) : Cv G mX8_ways (d + 1) 0 0 [.inr (.inl 80)] NO I P (qI NO (fun r I' P' => I' = I ∧ P' = P ∧ ((r ≤ 1500 ∧ r = wayW K L) ∨ (r = 1501 ∧ 1500 < wayW K L)))) := by
  obtain ⟨h2, h3, hall, hk, hso, hL0, hLz⟩ := id hS
  have hfp : ∀ x, 0 ≤ x → x < 8 → 1 ≤ cw (K - 1).toNat (L x) := fun x x0 x1 => cw_pos (hL0 x x0 x1).1
  have hpm : ∀ s, 0 ≤ s → s ≤ 8 → 1 ≤ prN (fun x => cw (K - 1).toNat (L x)) s ∧ prN (fun x => cw (K - 1).toNat (L x)) s ≤ wayW K L := fun s s0 s1 => by
    refine ⟨prN_pos (fun x x0 x1 => hfp x x0 (by omega)), ?_⟩
    have key : ∀ k, 0 ≤ k → s + k ≤ 8 → prN (fun x => cw (K - 1).toNat (L x)) s ≤ prN (fun x => cw (K - 1).toNat (L x)) (s + k) := fun k hk => int_ind (p := fun k => s + k ≤ 8 → prN (fun x => cw (K - 1).toNat (L x)) s ≤ prN (fun x => cw (K - 1).toNat (L x)) (s + k)) (fun _ => by rw [Int.add_zero]; exact Int.le_refl _) (fun k hk ih hh => by
      have h1 := ih (by omega)
      have h2 := prN_pos (f := fun x => cw (K - 1).toNat (L x)) (n := s + k) (fun x x0 x1 => hfp x x0 (by omega))
      have h3 := hfp (s + k) (by omega) (by omega)
      rw [← Int.add_assoc, prN_s (by omega)]
      refine Int.le_trans h1 ?_
      have := Int.mul_le_mul_of_nonneg_left h3 (show 0 ≤ prN (fun x => cw (K - 1).toNat (L x)) (s + k) by omega)
      rw [Int.mul_one] at this
      exact this) k hk
    have := key (8 - s) (by omega) (by omega)
    rwa [show s + (8 - s) = 8 by omega] at this
  have hend : prN (fun x => cw (K - 1).toNat (L x)) so = wayW K L := by
    have key : ∀ k, 0 ≤ k → so + k ≤ 8 → prN (fun x => cw (K - 1).toNat (L x)) (so + k) = prN (fun x => cw (K - 1).toNat (L x)) so := fun k hk => int_ind (p := fun k => so + k ≤ 8 → prN (fun x => cw (K - 1).toNat (L x)) (so + k) = prN (fun x => cw (K - 1).toNat (L x)) so) (fun _ => by rw [Int.add_zero]) (fun k hk ih hh => by
      rw [← Int.add_assoc, prN_s (by omega), ih (by omega), hLz _ (by omega) (by omega), cw_0, Int.mul_one]) k hk
    have := key (8 - so) (by omega) (by omega)
    rw [show so + (8 - so) = 8 by omega] at this
    exact this.symm
  refine x_enter mfX8_ways rfl (Nat.le_of_ble_eq_true rfl) (fun _ => ?_)
  have hL : ∀ (j : Nat) (s a : Int), (so - s).toNat < j → 0 ≤ s → s ≤ so → (1 ≤ a ∧ a ≤ 1500) → a = prN (fun x => cw (K - 1).toNat (L x)) s → V G mX8_ways (d + 1) 0 0 4 [some (.inr (.inl 80)), some (.inl (a)), some (.inl (s))] [] NO I P (qI NO (fun r I' P' => I' = I ∧ P' = P ∧ ((r ≤ 1500 ∧ r = wayW K L) ∨ (r = 1501 ∧ 1500 < wayW K L)))) := by
    intro j
    induction j with
    | zero => intro s a hj; omega
    | succ j ih =>
      intro s a hj hs hs2 ha hap
      have es := prN_s (f := fun x => cw (K - 1).toNat (L x)) hs
      have hp1 := fun (z : s < so) => hpm (s + 1) (by omega) (by omega)
      have he : so ≤ s → a = wayW K L := fun z => by rw [hap, ← hend, show s = so by omega]
      have hLs := fun (z : s < so) => hL0 s hs (by omega)
      have hal := fun (z : s < so) => hall s hs z
      have hgo : s < so → ∀ r : Int, ((r ≤ 1500 ∧ r = cw (K - 1).toNat (L s)) ∨ (r = 1501 ∧ 1500 < cw (K - 1).toNat (L s))) → 1 ≤ r → V G mX8_ways (d + 1) 0 0 24 [some (.inr (.inl 80)), none, some (.inl (s))] [.inl (a * r)] NO I P (qI NO (fun r I' P' => I' = I ∧ P' = P ∧ ((r ≤ 1500 ∧ r = wayW K L) ∨ (r = 1501 ∧ 1500 < wayW K L)))) := fun z r hr hr1 => by
        have hb : 0 ≤ a * r ∧ a * r ≤ 1500 * 1501 := ⟨Int.mul_nonneg (by omega) (by omega), Int.mul_le_mul ha.2 (by omega) (by omega) (by decide)⟩
        have hb1 : 1 ≤ a * r := by
          calc (1 : Int) = 1 * 1 := rfl
            _ ≤ a * r := Int.mul_le_mul ha.1 hr1 (by decide) (by omega)
        have hc : (a * r ≤ 1500 ∧ a * r = prN (fun x => cw (K - 1).toNat (L x)) (s + 1)) ∨ (1500 < a * r ∧ 1500 < wayW K L) := by
          have hp1' := hp1 z
          rw [es, ← hap] at hp1' ⊢
          rcases hr with ⟨q1, q2⟩ | ⟨q1, q2⟩
          · rw [← q2] at hp1' ⊢
            omega
          · have h1 : a * 1501 ≤ a * cw (K - 1).toNat (L s) := Int.mul_le_mul_of_nonneg_left (by omega) (by omega)
            rw [q1]
            omega
        obtain ⟨w, hw⟩ : ∃ w, w = a * r := ⟨_, rfl⟩
        rw [← hw] at hc hb hb1 ⊢
        refine x_istore_n (i := 1) dX8_ways_24 rfl rfl (Nat.le_of_ble_eq_true rfl) ?_
        refine x_iload_n (i := 1) dX8_ways_25 rfl rfl ?_
        refine y_si dX8_ways_26 ⟨by decide, by decide⟩ ?_
        refine x_icmp_le (tgt := 36) dX8_ways_29 rfl (fun h29 => ?_) (fun h29 => ?_)
        · refine x_iinc dX8_ways_36 rfl ⟨by omega, by omega⟩ rfl (Nat.le_of_ble_eq_true rfl) ?_
          refine x_goto (tgt := 4) dX8_ways_39 rfl ?_
          refine x_keep [1, 1, 1] ?_
          exact ih (s + 1) w (by omega) (by omega) (by omega) (by omega) (by omega)
        · refine y_si dX8_ways_32 ⟨by decide, by decide⟩ ?_
          refine x_iret dX8_ways_35 rfl ?_
          exact ⟨rfl, rfl, Or.inr ⟨rfl, by omega⟩⟩
      refine x_iload_n (i := 2) dX8_ways_4 rfl rfl ?_
      refine y_aln (i := 0) dX8_ways_5 at80.ne0 rfl rfl ?_
      refine y_geti (z := 3) dX8_ways_6 frX8_34 cfX8 at80 rfl rfl ?_
      refine x_icmp_ge (tgt := 42) dX8_ways_9 rfl (fun h9 => ?_) (fun h9 => ?_)
      · refine x_iload_n (i := 1) dX8_ways_42 rfl rfl ?_
        refine x_iret dX8_ways_43 rfl ?_
        exact ⟨rfl, rfl, Or.inl ⟨ha.2, he (by omega)⟩⟩
      · refine x_iload_n (i := 1) dX8_ways_12 rfl rfl ?_
        refine y_aln (i := 0) dX8_ways_13 at80.ne0 rfl rfl ?_
        refine y_aln (i := 0) dX8_ways_14 at80.ne0 rfl rfl ?_
        refine y_getp (z := 1) (v := 82) dX8_ways_15 frX8_15 cfX8 at80 rfl rfl (wp (v := 82) hW rfl rfl (by decide)) ?_
        refine x_iload_n (i := 2) dX8_ways_18 rfl rfl ?_
        refine x_iald dX8_ways_19 ar82 ⟨by omega, by omega⟩ ?_
        rw [hal (by omega)]
        refine x_callVI (c_X8_waysOf hW h2 hk (hLs (by omega))) dX8_ways_20 lkX8_39 mfX8_waysOf cfX8 at80 rfl rfl rfl rfl (Nat.le_of_ble_eq_true rfl) (fun r20 I20 P20 hr20 hf20 => ?_)
        obtain ⟨rfl, rfl, hr20, hr20p⟩ := hf20
        refine x_imul dX8_ways_23 ⟨by have := Int.mul_nonneg (show 0 ≤ a by omega) (show 0 ≤ r20 by omega); omega, by have := Int.mul_le_mul ha.2 (show r20 ≤ 1501 by omega) (by omega) (by decide); omega⟩ ?_
        refine x_keep [1, 0, 1] ?_
        exact hgo (by omega) r20 hr20 hr20p
  refine y_ic dX8_ways_0 ⟨by decide, by decide⟩ ?_
  refine x_istore_n (i := 1) dX8_ways_1 rfl rfl (Nat.le_of_ble_eq_true rfl) ?_
  refine y_ic dX8_ways_2 ⟨by decide, by decide⟩ ?_
  refine x_istore_n (i := 2) dX8_ways_3 rfl rfl (Nat.le_of_ble_eq_true rfl) ?_
  refine x_keep [1, 1, 1] ?_
  exact hL _ 0 1 (Nat.lt_succ_self _) (Int.le_refl 0) (by omega) ⟨by decide, by decide⟩ rfl
theorem c_X8_handOn {K so i j : Int} {L m : Rw} (hW : WP P) (hS : SHC I K so L) (hi : 0 ≤ i ∧ i + 1 < K) (hj : 0 ≤ j ∧ j < so) (hm : ∀ c, 0 ≤ c → c < 48 → I 81 c = m c) (hV : PVl L m (8 * i + j + 1)) : Cv G mX8_handOn d 0 0 [.inr (.inl 80), .inl i, .inl j] NO I P (qV (fun n' I' P' => n' = NO ∧ P' = P ∧ (∀ a, a ≠ 81 → I' a = I a) ∧ ∀ c, 0 ≤ c → c < 48 → I' 81 c = if c < 8 * K ∧ c % 8 < so then fsS K L (8 * i + j + 1) m c else m c)) := by
  obtain ⟨h2, h3, hall, hk, hso, hL0, hLz⟩ := id hS
  have hP0 : ∀ s, (s ≤ j ∧ hdP i j s = i + 1) ∨ (j < s ∧ hdP i j s = i) := fun s => by
    unfold hdP
    split
    · exact Or.inl ⟨by assumption, rfl⟩
    · exact Or.inr ⟨by omega, rfl⟩
  have tl : ∀ p s, 0 ≤ p → 0 ≤ s → s < 8 → p < hdP i j s → fsS K L (8 * i + j + 1) m (8 * p + s) = m (8 * p + s) := fun p s p0 s0 s1 q => by
    have := hP0 s
    unfold fsS
    rw [if_neg (by omega), if_pos (by omega)]
  have te : ∀ s, 0 ≤ s → s < 8 → fsS K L (8 * i + j + 1) m (8 * hdP i j s + s) = L s - colS m s (hdP i j s) := fun s s0 s1 => by
    have := hP0 s
    unfold fsS
    rw [if_neg (by omega), if_neg (by omega), if_pos (by omega), show (8 * hdP i j s + s) % 8 = s by omega, show (8 * hdP i j s + s) / 8 = hdP i j s by omega]
  have tg : ∀ p s, 0 ≤ s → s < 8 → hdP i j s < p → fsS K L (8 * i + j + 1) m (8 * p + s) = 0 := fun p s s0 s1 q => by
    have := hP0 s
    unfold fsS
    rw [if_neg (by omega), if_neg (by omega), if_neg (by omega)]
  have hco : ∀ p s, 0 ≤ s → s < 8 → 0 ≤ p → p ≤ hdP i j s → 0 ≤ colS m s p ∧ colS m s p ≤ L s := fun p s s0 s1 p0 p1 => by
    have h0 := hP0 s
    have hn : ∀ q, 0 ≤ q → q < hdP i j s → 0 ≤ m (8 * q + s) := fun q q0 q1 => hV.1 _ (by omega) (by omega)
    have h1 := hV.2 s s0 s1
    unfold rsS at h1
    rw [show owS (8 * i + j + 1) s = hdP i j s by unfold owS; omega] at h1
    have h3 := colS_mo ⟨p0, p1⟩ hn
    exact ⟨colS_nn (fun q q0 q1 => hn q q0 (by omega)), by omega⟩
  refine x_enter mfX8_handOn rfl (Nat.le_of_ble_eq_true rfl) (fun _ => ?_)
  have hO : ∀ (f : Nat) (s : Int) (J : Mem), (so - s).toNat < f → 0 ≤ s → s ≤ so → (∀ a, a ≠ 81 → J a = I a) → (∀ c, 0 ≤ c → c < 48 → J 81 c = if c < 8 * K ∧ c % 8 < s then fsS K L (8 * i + j + 1) m c else m c) → V G mX8_handOn d 0 0 2 [some (.inr (.inl 80)), some (.inl (i)), some (.inl (j)), some (.inl (s)), none, none, none, none] [] NO J P (qV (fun n' I' P' => n' = NO ∧ P' = P ∧ (∀ a, a ≠ 81 → I' a = I a) ∧ ∀ c, 0 ≤ c → c < 48 → I' 81 c = if c < 8 * K ∧ c % 8 < so then fsS K L (8 * i + j + 1) m c else m c)) := by
    intro f
    induction f with
    | zero => intro s J hf; omega
    | succ f ih =>
      intro s J hf hs hs2 hJo hJ
      have j3 : J 80 3 = so := by rw [hJo 80 (by decide)]; exact h3
      have hI : s < so → ∀ (f : Nat) (p r : Int) (M : Mem), (K - p).toNat < f → 0 ≤ p → p ≤ K → (∀ a, a ≠ 81 → M a = I a) → (∀ c, 0 ≤ c → c < 48 → M 81 c = if c < 8 * K ∧ (c % 8 < s ∨ (c % 8 = s ∧ c < 8 * p)) then fsS K L (8 * i + j + 1) m c else m c) → ((p ≤ hdP i j s ∧ r = L s - colS m s p) ∨ (hdP i j s < p ∧ r = 0)) → V G mX8_handOn d 0 0 35 [some (.inr (.inl 80)), some (.inl (i)), some (.inl (j)), some (.inl (s)), some (.inl (hdP i j s)), some (.inl (r)), some (.inl (p)), none] [] NO M P (qV (fun n' I' P' => n' = NO ∧ P' = P ∧ (∀ a, a ≠ 81 → I' a = I a) ∧ ∀ c, 0 ≤ c → c < 48 → I' 81 c = if c < 8 * K ∧ c % 8 < so then fsS K L (8 * i + j + 1) m c else m c)) := by
        intro hs3 f
        have hd := hP0 s
        induction f with
        | zero => intro p r M hf; omega
        | succ f ihp =>
          intro p r M hf hp hp2 hMo hM hr
          have m2 : M 80 2 = K := by rw [hMo 80 (by decide)]; exact h2
          have hLs := hL0 s hs (by omega)
          have hM0 : p < K → M 81 (8 * p + s) = m (8 * p + s) := fun z => by rw [hM _ (by omega) (by omega), if_neg (by omega)]
          have nx : p < K → ∀ (M' : Mem) (r' : Int), (M' = M ∨ ∃ v, M' = uI M 81 (8 * p + s) v) → M' 81 (8 * p + s) = fsS K L (8 * i + j + 1) m (8 * p + s) → ((p + 1 ≤ hdP i j s ∧ r' = L s - colS m s (p + 1)) ∨ (hdP i j s < p + 1 ∧ r' = 0)) → V G mX8_handOn d 0 0 35 [some (.inr (.inl 80)), some (.inl (i)), some (.inl (j)), some (.inl (s)), some (.inl (hdP i j s)), some (.inl (r')), some (.inl (p + 1)), none] [] NO M' P (qV (fun n' I' P' => n' = NO ∧ P' = P ∧ (∀ a, a ≠ 81 → I' a = I a) ∧ ∀ c, 0 ≤ c → c < 48 → I' 81 c = if c < 8 * K ∧ c % 8 < so then fsS K L (8 * i + j + 1) m c else m c)) := fun z M' r' h1 h2 h3 => by
            have e1 : ∀ c, c ≠ 8 * p + s → M' 81 c = M 81 c := fun c hc => by rcases h1 with h | ⟨v, h⟩; rw [h]; rw [h, uI_eq, u1_ne hc]
            have e2 : ∀ a, a ≠ 81 → M' a = M a := fun a ha => by rcases h1 with h | ⟨v, h⟩; rw [h]; rw [h, uI_ne ha]
            refine ihp (p + 1) r' M' (by omega) (by omega) (by omega) (fun a ha => (e2 a ha).trans (hMo a ha)) (fun c c0 c1 => ?_) h3
            by_cases e : c = 8 * p + s
            · rw [e, h2, if_pos (by omega)]
            · rw [e1 c e, hM c c0 c1]
              by_cases q : c < 8 * K ∧ (c % 8 < s ∨ (c % 8 = s ∧ c < 8 * p))
              · rw [if_pos q, if_pos (by omega)]
              · rw [if_neg q, if_neg (by omega)]
          have ecs := colS_s (m := m) (x := s) hp
          have hc1 := fun (z : p ≤ hdP i j s) => hco p s hs (by omega) hp z
          have hc2 := fun (z : p + 1 ≤ hdP i j s) => hco (p + 1) s hs (by omega) (by omega) z
          have hnn := fun (z : p < hdP i j s) => hV.1 (8 * p + s) (by omega) (by omega)
          have ev : ∀ v, uI M 81 (8 * p + s) v 81 (8 * p + s) = v := fun v => by rw [uI_eq, u1_eq]
          refine x_iload (i := 6) dX8_handOn_35 rfl ?_
          refine y_aln (i := 0) dX8_handOn_37 at80.ne0 rfl rfl ?_
          refine y_geti (z := 2) dX8_handOn_38 frX8_30 cfX8 at80 rfl rfl ?_
          rw [m2]
          refine x_icmp_ge (tgt := 105) dX8_handOn_41 rfl (fun h41 => ?_) (fun h41 => ?_)
          · refine x_iinc dX8_handOn_105 rfl ⟨by omega, by omega⟩ rfl (Nat.le_of_ble_eq_true rfl) ?_
            refine x_goto (tgt := 2) dX8_handOn_108 rfl ?_
            refine x_keep [1, 1, 1, 1, 0, 0, 0, 0] ?_
            refine ih (s + 1) M (by omega) (by omega) (by omega) hMo (fun c c0 c1 => ?_)
            rw [hM c c0 c1]
            by_cases q : c < 8 * K ∧ c % 8 < s + 1
            · rw [if_pos (by omega), if_pos q]
            · rw [if_neg (by omega), if_neg q]
          · refine x_iload (i := 6) dX8_handOn_44 rfl ?_
            refine y_bi dX8_handOn_46 ⟨by decide, by decide⟩ ?_
            refine x_imul dX8_handOn_48 ⟨by omega, by omega⟩ ?_
            rw [Int.mul_comm p 8]
            refine x_iload_n (i := 3) dX8_handOn_49 rfl rfl ?_
            refine x_iadd dX8_handOn_50 ⟨by omega, by omega⟩ ?_
            refine x_istore (i := 7) dX8_handOn_51 rfl (Nat.le_of_ble_eq_true rfl) ?_
            refine x_iload (i := 6) dX8_handOn_53 rfl ?_
            refine x_iload (i := 4) dX8_handOn_55 rfl ?_
            refine x_icmp_ne (tgt := 72) dX8_handOn_57 rfl (fun h57 => ?_) (fun h57 => ?_)
            · refine x_iload (i := 6) dX8_handOn_72 rfl ?_
              refine x_iload (i := 4) dX8_handOn_74 rfl ?_
              refine x_icmp_le (tgt := 87) dX8_handOn_76 rfl (fun h76 => ?_) (fun h76 => ?_)
              · have htl := tl p s hp hs (by omega) (by omega)
                have hc1' := hc1 (by omega)
                have hc2' := hc2 (by omega)
                have hnn' := hnn (by omega)
                have hre : r = L s - colS m s p := by omega
                refine x_iload (i := 5) dX8_handOn_87 rfl ?_
                refine y_aln (i := 0) dX8_handOn_89 at80.ne0 rfl rfl ?_
                refine y_getp (z := 0) (v := 81) dX8_handOn_90 frX8_9 cfX8 at80 rfl rfl (wp (v := 81) hW rfl rfl (by decide)) ?_
                refine x_iload (i := 7) dX8_handOn_93 rfl ?_
                refine x_iald dX8_handOn_95 ar81 ⟨by omega, by omega⟩ ?_
                first | rw [ev] | rw [hM0 (by omega)]
                refine x_isub dX8_handOn_96 ⟨by omega, by omega⟩ ?_
                refine x_istore (i := 5) dX8_handOn_97 rfl (Nat.le_of_ble_eq_true rfl) ?_
                refine x_iinc dX8_handOn_99 rfl ⟨by omega, by omega⟩ rfl (Nat.le_of_ble_eq_true rfl) ?_
                refine x_goto (tgt := 35) dX8_handOn_102 rfl ?_
                refine x_keep [1, 1, 1, 1, 1, 1, 1, 0] ?_
                first | exact nx (by omega) _ _ (Or.inr ⟨_, rfl⟩) (by rw [ev]; rw [← hpe] at hte; rw [hte]; exact hre) (Or.inr ⟨by omega, by omega⟩) | exact nx (by omega) _ _ (Or.inr ⟨_, rfl⟩) (by rw [ev, htg]) (Or.inr ⟨by omega, by omega⟩) | exact nx (by omega) _ _ (Or.inl rfl) (by rw [htl]; exact hM0 (by omega)) (Or.inl ⟨by omega, by omega⟩)
              · have htg := tg p s hs (by omega) (by omega)
                refine y_aln (i := 0) dX8_handOn_79 at80.ne0 rfl rfl ?_
                refine y_getp (z := 0) (v := 81) dX8_handOn_80 frX8_9 cfX8 at80 rfl rfl (wp (v := 81) hW rfl rfl (by decide)) ?_
                refine x_iload (i := 7) dX8_handOn_83 rfl ?_
                refine y_ic dX8_handOn_85 ⟨by decide, by decide⟩ ?_
                refine x_iast dX8_handOn_86 ar81 ⟨by omega, by omega⟩ ?_
                refine x_iload (i := 5) dX8_handOn_87 rfl ?_
                refine y_aln (i := 0) dX8_handOn_89 at80.ne0 rfl rfl ?_
                refine y_getp (z := 0) (v := 81) dX8_handOn_90 frX8_9 cfX8 at80 rfl rfl (wp (v := 81) hW rfl rfl (by decide)) ?_
                refine x_iload (i := 7) dX8_handOn_93 rfl ?_
                refine x_iald dX8_handOn_95 ar81 ⟨by omega, by omega⟩ ?_
                first | rw [ev] | rw [hM0 (by omega)]
                refine x_isub dX8_handOn_96 ⟨by omega, by omega⟩ ?_
                refine x_istore (i := 5) dX8_handOn_97 rfl (Nat.le_of_ble_eq_true rfl) ?_
                refine x_iinc dX8_handOn_99 rfl ⟨by omega, by omega⟩ rfl (Nat.le_of_ble_eq_true rfl) ?_
                refine x_goto (tgt := 35) dX8_handOn_102 rfl ?_
                refine x_keep [1, 1, 1, 1, 1, 1, 1, 0] ?_
                first | exact nx (by omega) _ _ (Or.inr ⟨_, rfl⟩) (by rw [ev]; rw [← hpe] at hte; rw [hte]; exact hre) (Or.inr ⟨by omega, by omega⟩) | exact nx (by omega) _ _ (Or.inr ⟨_, rfl⟩) (by rw [ev, htg]) (Or.inr ⟨by omega, by omega⟩) | exact nx (by omega) _ _ (Or.inl rfl) (by rw [htl]; exact hM0 (by omega)) (Or.inl ⟨by omega, by omega⟩)
            · have hpe : p = hdP i j s := by omega
              have hc1' := hc1 (by omega)
              have hte := te s hs (by omega)
              have hre : r = L s - colS m s p := by omega
              refine y_aln (i := 0) dX8_handOn_60 at80.ne0 rfl rfl ?_
              refine y_getp (z := 0) (v := 81) dX8_handOn_61 frX8_9 cfX8 at80 rfl rfl (wp (v := 81) hW rfl rfl (by decide)) ?_
              refine x_iload (i := 7) dX8_handOn_64 rfl ?_
              refine x_iload (i := 5) dX8_handOn_66 rfl ?_
              refine x_iast dX8_handOn_68 ar81 ⟨by omega, by omega⟩ ?_
              refine x_goto (tgt := 87) dX8_handOn_69 rfl ?_
              refine x_iload (i := 5) dX8_handOn_87 rfl ?_
              refine y_aln (i := 0) dX8_handOn_89 at80.ne0 rfl rfl ?_
              refine y_getp (z := 0) (v := 81) dX8_handOn_90 frX8_9 cfX8 at80 rfl rfl (wp (v := 81) hW rfl rfl (by decide)) ?_
              refine x_iload (i := 7) dX8_handOn_93 rfl ?_
              refine x_iald dX8_handOn_95 ar81 ⟨by omega, by omega⟩ ?_
              first | rw [ev] | rw [hM0 (by omega)]
              refine x_isub dX8_handOn_96 ⟨by omega, by omega⟩ ?_
              refine x_istore (i := 5) dX8_handOn_97 rfl (Nat.le_of_ble_eq_true rfl) ?_
              refine x_iinc dX8_handOn_99 rfl ⟨by omega, by omega⟩ rfl (Nat.le_of_ble_eq_true rfl) ?_
              refine x_goto (tgt := 35) dX8_handOn_102 rfl ?_
              refine x_keep [1, 1, 1, 1, 1, 1, 1, 0] ?_
              first | exact nx (by omega) _ _ (Or.inr ⟨_, rfl⟩) (by rw [ev]; rw [← hpe] at hte; rw [hte]; exact hre) (Or.inr ⟨by omega, by omega⟩) | exact nx (by omega) _ _ (Or.inr ⟨_, rfl⟩) (by rw [ev, htg]) (Or.inr ⟨by omega, by omega⟩) | exact nx (by omega) _ _ (Or.inl rfl) (by rw [htl]; exact hM0 (by omega)) (Or.inl ⟨by omega, by omega⟩)
      have hd := hP0 s
      have j82 : s < so → J 82 s = L s := fun z => by rw [hJo 82 (by decide)]; exact hall s hs z
      have hgo : s < so → ∀ v, v = hdP i j s → V G mX8_handOn d 0 0 35 [some (.inr (.inl 80)), some (.inl (i)), some (.inl (j)), some (.inl (s)), some (.inl (v)), some (.inl (L s)), some (.inl (0)), none] [] NO J P (qV (fun n' I' P' => n' = NO ∧ P' = P ∧ (∀ a, a ≠ 81 → I' a = I a) ∧ ∀ c, 0 ≤ c → c < 48 → I' 81 c = if c < 8 * K ∧ c % 8 < so then fsS K L (8 * i + j + 1) m c else m c)) := fun z v hv => by
        rw [hv]
        refine hI z _ 0 (L s) J (Nat.lt_succ_self _) (Int.le_refl 0) (by omega) hJo (fun c c0 c1 => ?_) (Or.inl ⟨by omega, ?_⟩)
        · rw [hJ c c0 c1]
          by_cases q : c < 8 * K ∧ c % 8 < s
          · rw [if_pos q, if_pos (by omega)]
          · rw [if_neg q, if_neg (by omega)]
        · show L s = L s - 0
          omega
      refine x_iload_n (i := 3) dX8_handOn_2 rfl rfl ?_
      refine y_aln (i := 0) dX8_handOn_3 at80.ne0 rfl rfl ?_
      refine y_geti (z := 3) dX8_handOn_4 frX8_34 cfX8 at80 rfl rfl ?_
      rw [j3]
      refine x_icmp_ge (tgt := 111) dX8_handOn_7 rfl (fun h7 => ?_) (fun h7 => ?_)
      · refine x_vret dX8_handOn_111 rfl ?_
        exact ⟨rfl, rfl, hJo, fun c c0 c1 => by rw [hJ c c0 c1, show s = so by omega]⟩
      · refine x_iload_n (i := 3) dX8_handOn_10 rfl rfl ?_
        refine x_iload_n (i := 2) dX8_handOn_11 rfl rfl ?_
        refine x_icmp_gt (tgt := 21) dX8_handOn_12 rfl (fun h12 => ?_) (fun h12 => ?_)
        · refine x_iload_n (i := 1) dX8_handOn_21 rfl rfl ?_
          refine x_istore (i := 4) dX8_handOn_22 rfl (Nat.le_of_ble_eq_true rfl) ?_
          refine y_aln (i := 0) dX8_handOn_24 at80.ne0 rfl rfl ?_
          refine y_getp (z := 1) (v := 82) dX8_handOn_25 frX8_15 cfX8 at80 rfl rfl (wp (v := 82) hW rfl rfl (by decide)) ?_
          refine x_iload_n (i := 3) dX8_handOn_28 rfl rfl ?_
          refine x_iald dX8_handOn_29 ar82 ⟨by omega, by omega⟩ ?_
          rw [j82 (by omega)]
          refine x_istore (i := 5) dX8_handOn_30 rfl (Nat.le_of_ble_eq_true rfl) ?_
          refine y_ic dX8_handOn_32 ⟨by decide, by decide⟩ ?_
          refine x_istore (i := 6) dX8_handOn_33 rfl (Nat.le_of_ble_eq_true rfl) ?_
          refine x_keep [1, 1, 1, 1, 1, 1, 1, 0] ?_
          exact hgo (by omega) _ (by omega)
        · refine x_iload_n (i := 1) dX8_handOn_15 rfl rfl ?_
          refine y_ic dX8_handOn_16 ⟨by decide, by decide⟩ ?_
          refine x_iadd dX8_handOn_17 ⟨by omega, by omega⟩ ?_
          refine x_goto (tgt := 22) dX8_handOn_18 rfl ?_
          refine x_istore (i := 4) dX8_handOn_22 rfl (Nat.le_of_ble_eq_true rfl) ?_
          refine y_aln (i := 0) dX8_handOn_24 at80.ne0 rfl rfl ?_
          refine y_getp (z := 1) (v := 82) dX8_handOn_25 frX8_15 cfX8 at80 rfl rfl (wp (v := 82) hW rfl rfl (by decide)) ?_
          refine x_iload_n (i := 3) dX8_handOn_28 rfl rfl ?_
          refine x_iald dX8_handOn_29 ar82 ⟨by omega, by omega⟩ ?_
          rw [j82 (by omega)]
          refine x_istore (i := 5) dX8_handOn_30 rfl (Nat.le_of_ble_eq_true rfl) ?_
          refine y_ic dX8_handOn_32 ⟨by decide, by decide⟩ ?_
          refine x_istore (i := 6) dX8_handOn_33 rfl (Nat.le_of_ble_eq_true rfl) ?_
          refine x_keep [1, 1, 1, 1, 1, 1, 1, 0] ?_
          exact hgo (by omega) _ (by omega)
  refine y_ic dX8_handOn_0 ⟨by decide, by decide⟩ ?_
  refine x_istore_n (i := 3) dX8_handOn_1 rfl rfl (Nat.le_of_ble_eq_true rfl) ?_
  refine x_keep [1, 1, 1, 1, 0, 0, 0, 0] ?_
  exact hO _ 0 I (Nat.lt_succ_self _) (Int.le_refl 0) (by omega) (fun _ _ => rfl) (fun c c0 c1 => by rw [if_neg (by omega)]; exact hm c c0 c1)
theorem c_X8_goOn {K so : Int} {L m : Rw} (hW : WP P) (hS : SHC I K so L) (hm : ∀ c, 0 ≤ c → c < 48 → I 81 c = m c) (hV : VSh K L m) : Cv G mX8_goOn (d + 1) 0 0 [.inr (.inl 80)] NO I P (qV (fun n' I' P' => n' = NO ∧ P' = P ∧ (∀ a, a ≠ 81 → I' a = I a) ∧ (shI K m ≠ -1 → ∀ c, 0 ≤ c → c < 48 → I' 81 c = nxT K L m c))) := by
  obtain ⟨h2, h3, hall, hk, hso, hL0, hLz⟩ := id hS
  have hz : ∀ m, VSh K L m → ∀ p x, 0 ≤ p → so ≤ x → x < 8 → m (8 * p + x) = 0 := fun m hV p x p0 x0 x1 => VSh_z hV ⟨by omega, x1⟩ (hLz x x0 x1) p0
  have hb : ∀ c, 0 ≤ c → c < 48 → 0 ≤ m c ∧ m c ≤ 5760 := fun c c0 c1 => by
    by_cases e : c < 8 * K
    · refine ⟨hV.2.1 c c0 e, ?_⟩
      have h1 := hV.1 (c % 8) (by omega) (by omega)
      have hn : ∀ q, 0 ≤ q → q < K → 0 ≤ m (8 * q + c % 8) := fun q q0 q1 => hV.2.1 _ (by omega) (by omega)
      have h4 := colS_mo (m := m) (x := c % 8) (p := c / 8 + 1) (p' := K) ⟨by omega, by omega⟩ hn
      have h5 := colS_nn (m := m) (x := c % 8) (p := c / 8) (fun q q0 q1 => hn q q0 (by omega))
      rw [colS_s (by omega), show 8 * (c / 8) + c % 8 = c by omega] at h4
      have h6 := hL0 (c % 8) (by omega) (by omega)
      omega
    · rw [hV.2.2 c (by omega)]; omega
  refine x_enter mfX8_goOn rfl (Nat.le_of_ble_eq_true rfl) (fun _ => ?_)
  have hO : ∀ (f : Nat) (p : Int), (p + 1).toNat < f → -1 ≤ p → p ≤ K - 2 → (∀ c, 8 * (p + 1) ≤ c → c < 8 * (K - 1) → m c = 0) → V G mX8_goOn (d + 1) 0 0 7 [some (.inr (.inl 80)), some (.inl (p)), none] [] NO I P (qV (fun n' I' P' => n' = NO ∧ P' = P ∧ (∀ a, a ≠ 81 → I' a = I a) ∧ (shI K m ≠ -1 → ∀ c, 0 ≤ c → c < 48 → I' 81 c = nxT K L m c))) := by
    intro f
    induction f with
    | zero => intro p hf; omega
    | succ f ih =>
      intro p hf hp hp2 hno
      have hI : 0 ≤ p → ∀ (f : Nat) (s : Int), (s + 1).toNat < f → -1 ≤ s → s < so → (∀ c, 8 * p + s < c → c < 8 * (K - 1) → m c = 0) → V G mX8_goOn (d + 1) 0 0 18 [some (.inr (.inl 80)), some (.inl (p)), some (.inl (s))] [] NO I P (qV (fun n' I' P' => n' = NO ∧ P' = P ∧ (∀ a, a ≠ 81 → I' a = I a) ∧ (shI K m ≠ -1 → ∀ c, 0 ≤ c → c < 48 → I' 81 c = nxT K L m c))) := by
        intro hp0 f
        induction f with
        | zero => intro s hf; omega
        | succ f ihs =>
          intro s hf hs hs2 hno
          have em : 0 ≤ s → I 81 (8 * p + s) = m (8 * p + s) := fun z => hm _ (by omega) (by omega)
          have hbs := fun (z : 0 ≤ s) => hb (8 * p + s) (by omega) (by omega)
          have hgo : 0 ≤ s → 0 < m (8 * p + s) → V G mX8_goOn (d + 1) 0 0 51 [some (.inr (.inl 80)), some (.inl (p)), some (.inl (s))] [] NO (uI I 81 (8 * p + s) (m (8 * p + s) - 1)) P (qV (fun n' I' P' => n' = NO ∧ P' = P ∧ (∀ a, a ≠ 81 → I' a = I a) ∧ (shI K m ≠ -1 → ∀ c, 0 ≤ c → c < 48 → I' 81 c = nxT K L m c))) := fun z q => by
            have hin : shI K m = 8 * p + s := lastS_is ⟨by omega, by omega⟩ q (fun x x0 x1 => by rw [hno x x0 x1]; omega)
            have hP := nxT_P hV (by rw [hin]; omega)
            have hnV := nxT_V hV (by rw [hin]; omega)
            have hnx : nxT K L m = fsS K L (8 * p + s + 1) (u1 m (8 * p + s) (m (8 * p + s) - 1)) := by unfold nxT; rw [hin]
            rw [hin] at hP
            refine y_aln (i := 0) dX8_goOn_51 at80.ne0 rfl rfl ?_
            refine x_iload_n (i := 1) dX8_goOn_52 rfl rfl ?_
            refine x_iload_n (i := 2) dX8_goOn_53 rfl rfl ?_
            refine x_callVV (c_X8_handOn (m := u1 m (8 * p + s) (m (8 * p + s) - 1)) hW (hS.fr (uI_ne (by decide)) (uI_ne (by decide))) ⟨hp0, by omega⟩ ⟨z, hs2⟩ (fun c c0 c1 => by
              rw [uI_eq]
              by_cases e : c = 8 * p + s
              · rw [e, u1_eq, u1_eq]
              · rw [u1_ne e, u1_ne e]; exact hm c c0 c1) hP.2.2) dX8_goOn_54 lkX8_42 mfX8_handOn cfX8 at80 rfl rfl rfl rfl (Nat.le_of_ble_eq_true rfl) (fun n54 I54 P54 hf54 => ?_)
            obtain ⟨rfl, rfl, o54, v54⟩ := hf54
            refine x_vret dX8_goOn_57 rfl ?_
            refine ⟨rfl, rfl, fun a ha => by rw [o54 a ha, uI_ne ha], fun _ c c0 c1 => ?_⟩
            rw [v54 c c0 c1]
            by_cases q1 : c < 8 * K ∧ c % 8 < so
            · rw [if_pos q1, hnx]
            · rw [if_neg q1, u1_ne (by omega)]
              by_cases q2 : c < 8 * K
              · have a1 := hz m hV (c / 8) (c % 8) (by omega) (by omega) (by omega)
                have a2 := hz _ hnV (c / 8) (c % 8) (by omega) (by omega) (by omega)
                rw [show 8 * (c / 8) + c % 8 = c by omega] at a1 a2
                rw [a1, a2]
              · rw [hV.2.2 c (by omega), hnV.2.2 c (by omega)]
          refine x_iload_n (i := 2) dX8_goOn_18 rfl rfl ?_
          refine x_if_lt (tgt := 64) dX8_goOn_19 rfl (fun h19 => ?_) (fun h19 => ?_)
          · refine x_iinc dX8_goOn_64 rfl ⟨by omega, by omega⟩ rfl (Nat.le_of_ble_eq_true rfl) ?_
            refine x_goto (tgt := 7) dX8_goOn_67 rfl ?_
            refine x_keep [1, 1, 0] ?_
            exact ih (p - 1) (by omega) (by omega) (by omega) (fun c c0 c1 => hno c (by omega) c1)
          · have em' := em (by omega)
            have hbs' := hbs (by omega)
            refine y_aln (i := 0) dX8_goOn_22 at80.ne0 rfl rfl ?_
            refine y_getp (z := 0) (v := 81) dX8_goOn_23 frX8_9 cfX8 at80 rfl rfl (wp (v := 81) hW rfl rfl (by decide)) ?_
            refine x_iload_n (i := 1) dX8_goOn_26 rfl rfl ?_
            refine y_bi dX8_goOn_27 ⟨by decide, by decide⟩ ?_
            refine x_imul dX8_goOn_29 ⟨by omega, by omega⟩ ?_
            rw [Int.mul_comm p 8]
            refine x_iload_n (i := 2) dX8_goOn_30 rfl rfl ?_
            refine x_iadd dX8_goOn_31 ⟨by omega, by omega⟩ ?_
            refine x_iald dX8_goOn_32 ar81 ⟨by omega, by omega⟩ ?_
            rw [em']
            refine x_if_le (tgt := 58) dX8_goOn_33 rfl (fun h33 => ?_) (fun h33 => ?_)
            · refine x_iinc dX8_goOn_58 rfl ⟨by omega, by omega⟩ rfl (Nat.le_of_ble_eq_true rfl) ?_
              refine x_goto (tgt := 18) dX8_goOn_61 rfl ?_
              refine x_keep [1, 1, 1] ?_
              exact ihs (s - 1) (by omega) (by omega) (by omega) (fun c c0 c1 => by
                by_cases e : c = 8 * p + s
                · rw [e]; omega
                · exact hno c (by omega) c1)
            · refine y_aln (i := 0) dX8_goOn_36 at80.ne0 rfl rfl ?_
              refine y_getp (z := 0) (v := 81) dX8_goOn_37 frX8_9 cfX8 at80 rfl rfl (wp (v := 81) hW rfl rfl (by decide)) ?_
              refine x_iload_n (i := 1) dX8_goOn_40 rfl rfl ?_
              refine y_bi dX8_goOn_41 ⟨by decide, by decide⟩ ?_
              refine x_imul dX8_goOn_43 ⟨by omega, by omega⟩ ?_
              rw [Int.mul_comm p 8]
              refine x_iload_n (i := 2) dX8_goOn_44 rfl rfl ?_
              refine x_iadd dX8_goOn_45 ⟨by omega, by omega⟩ ?_
              refine x_dup2 dX8_goOn_46 rfl rfl ?_
              refine x_iald dX8_goOn_47 ar81 ⟨by omega, by omega⟩ ?_
              rw [em']
              refine y_ic dX8_goOn_48 ⟨by decide, by decide⟩ ?_
              refine x_isub dX8_goOn_49 ⟨by omega, by omega⟩ ?_
              refine x_iast dX8_goOn_50 ar81 ⟨by omega, by omega⟩ ?_
              refine x_keep [1, 1, 1] ?_
              exact hgo (by omega) (by omega)
      refine x_iload_n (i := 1) dX8_goOn_7 rfl rfl ?_
      refine x_if_lt (tgt := 70) dX8_goOn_8 rfl (fun h8 => ?_) (fun h8 => ?_)
      · refine x_vret dX8_goOn_70 rfl ?_
        exact ⟨rfl, rfl, fun _ _ => rfl, fun q => absurd (lastS_no (fun x x0 x1 => by rw [hno x (by omega) x1]; omega)) q⟩
      · refine y_aln (i := 0) dX8_goOn_11 at80.ne0 rfl rfl ?_
        refine y_geti (z := 3) dX8_goOn_12 frX8_34 cfX8 at80 rfl rfl ?_
        rw [h3]
        refine y_ic dX8_goOn_15 ⟨by decide, by decide⟩ ?_
        refine x_isub dX8_goOn_16 ⟨by omega, by omega⟩ ?_
        refine x_istore_n (i := 2) dX8_goOn_17 rfl rfl (Nat.le_of_ble_eq_true rfl) ?_
        refine x_keep [1, 1, 1] ?_
        refine hI (by omega) _ (so - 1) (Nat.lt_succ_self _) (by omega) (by omega) (fun c c0 c1 => ?_)
        by_cases q : 8 * (p + 1) ≤ c
        · exact hno c q c1
        · have := hz m hV p (c - 8 * p) (by omega) (by omega) (by omega)
          rw [show 8 * p + (c - 8 * p) = c by omega] at this
          exact this
  refine y_aln (i := 0) dX8_goOn_0 at80.ne0 rfl rfl ?_
  refine y_geti (z := 2) dX8_goOn_1 frX8_30 cfX8 at80 rfl rfl ?_
  rw [h2]
  refine y_ic dX8_goOn_4 ⟨by decide, by decide⟩ ?_
  refine x_isub dX8_goOn_5 ⟨by omega, by omega⟩ ?_
  refine x_istore_n (i := 1) dX8_goOn_6 rfl rfl (Nat.le_of_ble_eq_true rfl) ?_
  refine x_keep [1, 1, 0] ?_
  exact hO _ (K - 2) (Nat.lt_succ_self _) (by omega) (by omega) (fun c c0 c1 => by omega)
end

