/-! ===== the class: the town ===== -/
abbrev sC (t : Nat) : Nat → Prop := fun a => a = t ∨ a = t + 1 ∨ a = t + 2 ∨ a = t + 3 ∨ a = t + 4 ∨ a = t + 13
section
variable {G : HX} {d : Nat} {I : Mem} {P : Ptr} {T : Tn}
theorem c_X10_dearest {t : Nat} {s : Int} (hW : WP P) (hTo : isT NO t) (hca : CA I t T) (hF : WF T) (hs : 0 ≤ s ∧ s < 8) : Cv G mX10_dearest (d + 1) 0 0 [.inr (.inl t), .inl s] NO I P (qI NO (fun r I' P' => I' = I ∧ P' = P ∧ r = dearS T s)) := by
  have wT := wp_T hW hTo
  have e0 : I t 0 = T 0 1 := hca.1
  have f1 := hF.1
  have hw := hca.2.2.2.2.1
  refine x_enter mfX10_dearest rfl (Nat.le_of_ble_eq_true rfl) (fun _ => ?_)
  have hL : ∀ (j : Nat) (p v : Int), (T 0 1 - p).toNat < j → 0 ≤ p → p ≤ T 0 1 → v = itN (fun p b => if b < T 1 (8 * p + s) then T 1 (8 * p + s) else b) p 0 → V G mX10_dearest (d + 1) 0 0 4 [some (.inr (.inl t)), some (.inl (s)), some (.inl (v)), some (.inl (p))] [] NO I P (qI NO (fun r I' P' => I' = I ∧ P' = P ∧ r = dearS T s)) := by
    intro j
    induction j with
    | zero => intro p v hj; omega
    | succ j ih =>
      intro p v hj hp hp2 hv
      have es := itN_s (fun p b => if b < T 1 (8 * p + s) then T 1 (8 * p + s) else b) (0 : Int) hp
      have hwp := fun (z : p < T 0 1) => hw (8 * p + s) (by omega) (by omega)
      refine x_iload_n (i := 3) dX10_dearest_4 rfl rfl ?_
      refine y_aln (i := 0) dX10_dearest_5 hTo.at.ne0 rfl rfl ?_
      refine y_geti (z := 0) dX10_dearest_6 frX10_66 cfX10 hTo.at rfl rfl ?_
      refine x_icmp_ge (tgt := 34) dX10_dearest_9 rfl (fun h9 => ?_) (fun h9 => ?_)
      · refine x_iload_n (i := 2) dX10_dearest_34 rfl rfl ?_
        refine x_iret dX10_dearest_35 rfl ?_
        exact ⟨rfl, rfl, by rw [hv, show p = T 0 1 by omega]; rfl⟩
      · have hwp' := hwp (by omega)
        refine x_iload_n (i := 2) dX10_dearest_12 rfl rfl ?_
        refine y_aln (i := 0) dX10_dearest_13 hTo.at.ne0 rfl rfl ?_
        refine y_getp (z := 5) (v := (t + 2)) dX10_dearest_14 frX10_15 cfX10 hTo.at rfl rfl (p10_5 wT hTo) ?_
        refine x_iload_n (i := 3) dX10_dearest_17 rfl rfl ?_
        refine y_bi dX10_dearest_18 ⟨by decide, by decide⟩ ?_
        refine x_imul dX10_dearest_20 ⟨by omega, by omega⟩ ?_
        rw [Int.mul_comm p 8]
        refine x_iload_n (i := 1) dX10_dearest_21 rfl rfl ?_
        refine x_iadd dX10_dearest_22 ⟨by omega, by omega⟩ ?_
        refine x_iald dX10_dearest_23 (a10_5 hTo) ⟨by omega, by omega⟩ ?_
        rw [hwp']
        refine y_max dX10_dearest_24 jkX10_85 (by omega) (Nat.le_of_ble_eq_true rfl) ?_
        refine x_istore_n (i := 2) dX10_dearest_27 rfl rfl (Nat.le_of_ble_eq_true rfl) ?_
        refine x_iinc dX10_dearest_28 rfl ⟨by omega, by omega⟩ rfl (Nat.le_of_ble_eq_true rfl) ?_
        refine x_goto (tgt := 4) dX10_dearest_31 rfl ?_
        refine x_keep [1, 1, 1, 1] ?_
        refine ih _ _ (by omega) (by omega) (by omega) ?_
        rw [es, ← hv]
        show max v (T 1 (8 * p + s)) = if v < T 1 (8 * p + s) then T 1 (8 * p + s) else v
        split <;> omega
  refine y_ic dX10_dearest_0 ⟨by decide, by decide⟩ ?_
  refine x_istore_n (i := 2) dX10_dearest_1 rfl rfl (Nat.le_of_ble_eq_true rfl) ?_
  refine y_ic dX10_dearest_2 ⟨by decide, by decide⟩ ?_
  refine x_istore_n (i := 3) dX10_dearest_3 rfl rfl (Nat.le_of_ble_eq_true rfl) ?_
  refine x_keep [1, 1, 1, 1] ?_
  exact hL _ 0 _ (Nat.lt_succ_self _) (by omega) (by omega) rfl
theorem c_X10_allPairs {t : Nat} (hW : WP P) (hTo : isT NO t) (hca : CA I t T) (hF : WF T) : Cv G mX10_allPairs d 0 0 [.inr (.inl t)] NO I P (qI NO (fun r I' P' => I' = I ∧ P' = P ∧ r = sumN (fun p => sumN (fun k => T 4 (18 * p + 3 * k + 2)) (T 3 p)) (T 0 1))) := by
  have wT := wp_T hW hTo
  have e0 : I t 0 = T 0 1 := hca.1
  have f1 := hF.1
  have hw := hca.2.2.2.2.2.1
  have hpw := hca.2.2.2.2.2.2.1
  have f3 := hF.2.2.2.2.2.2.2.2.2.1
  have f4 := hF.2.2.2.2.2.2.2.2.2.2.1
  refine x_enter mfX10_allPairs rfl (Nat.le_of_ble_eq_true rfl) (fun _ => ?_)
  have hb : ∀ p k, 0 ≤ p → p < T 0 1 → 0 ≤ k → k ≤ T 3 p → 0 ≤ sumN (fun k => T 4 (18 * p + 3 * k + 2)) k ∧ sumN (fun k => T 4 (18 * p + 3 * k + 2)) k ≤ k * 99 := fun p k p0 p1 k0 k1 => by
    have := sumN_bd (f := fun k => T 4 (18 * p + 3 * k + 2)) (n := k) (lo := 0) (hi := 99) k0 (fun j j0 j1 => (f4 p j p0 p1 j0 (by omega)).2.2)
    omega
  have hL : ∀ (j : Nat) (p v : Int), (T 0 1 - p).toNat < j → 0 ≤ p → p ≤ T 0 1 → v = sumN (fun p => sumN (fun k => T 4 (18 * p + 3 * k + 2)) (T 3 p)) p → 0 ≤ v → v ≤ p * 594 → V G mX10_allPairs d 0 0 4 [some (.inr (.inl t)), some (.inl (v)), some (.inl (p)), none, none] [] NO I P (qI NO (fun r I' P' => I' = I ∧ P' = P ∧ r = sumN (fun p => sumN (fun k => T 4 (18 * p + 3 * k + 2)) (T 3 p)) (T 0 1))) := by
    intro j
    induction j with
    | zero => intro p v hj; omega
    | succ j ih =>
      intro p v hj hp hp2 hv hv0 hv1
      have es := sumN_s (fun p => sumN (fun k => T 4 (18 * p + 3 * k + 2)) (T 3 p)) hp
      have hwp := fun (z : p < T 0 1) => (hw p hp z).2
      have hf3 := fun (z : p < T 0 1) => f3 p hp z
      have hK : p < T 0 1 → ∀ (j : Nat) (k u : Int), (T 3 p - k).toNat < j → 0 ≤ k → k ≤ T 3 p → u = sumN (fun k => T 4 (18 * p + 3 * k + 2)) k → V G mX10_allPairs d 0 0 20 [some (.inr (.inl t)), some (.inl (v + u)), some (.inl (p)), some (.inl (6 * p)), some (.inl (k))] [] NO I P (qI NO (fun r I' P' => I' = I ∧ P' = P ∧ r = sumN (fun p => sumN (fun k => T 4 (18 * p + 3 * k + 2)) (T 3 p)) (T 0 1))) := by
        intro hp3 j
        have h3 := hf3 hp3
        have e3 := hwp hp3
        induction j with
        | zero => intro k u hj; omega
        | succ j ihk =>
          intro k u hj hk hk2 hu
          have esk := sumN_s (fun k => T 4 (18 * p + 3 * k + 2)) hk
          have hbk := hb p k hp hp3 hk hk2
          rw [← hu] at esk hbk
          have ev := fun (z : k < T 3 p) => (hpw p k hp hp3 hk z).2.2
          have ev4 := fun (z : k < T 3 p) => (f4 p k hp hp3 hk z).2.2
          refine x_iload (i := 4) dX10_allPairs_20 rfl ?_
          refine y_aln (i := 0) dX10_allPairs_22 hTo.at.ne0 rfl rfl ?_
          refine y_getp (z := 7) (v := (t + 4)) dX10_allPairs_23 frX10_21 cfX10 hTo.at rfl rfl (p10_7 wT hTo) ?_
          refine x_iload_n (i := 2) dX10_allPairs_26 rfl rfl ?_
          refine x_iald dX10_allPairs_27 (a10_7 hTo) ⟨by omega, by omega⟩ ?_
          refine x_icmp_ge (tgt := 49) dX10_allPairs_28 rfl (fun h28 => ?_) (fun h28 => ?_)
          · refine x_iinc dX10_allPairs_49 rfl ⟨by omega, by omega⟩ rfl (Nat.le_of_ble_eq_true rfl) ?_
            refine x_goto (tgt := 4) dX10_allPairs_52 rfl ?_
            refine x_keep [1, 1, 1, 0, 0] ?_
            have eu : u = sumN (fun k => T 4 (18 * p + 3 * k + 2)) (T 3 p) := by rw [hu, show k = T 3 p by omega]
            exact ih (p + 1) (v + u) (by omega) (by omega) (by omega) (by rw [es, ← hv, ← eu]) (by omega) (by omega)
          · have ev' := ev (by omega)
            have ev4' := ev4 (by omega)
            refine x_iload_n (i := 1) dX10_allPairs_31 rfl rfl ?_
            refine y_aln (i := 0) dX10_allPairs_32 hTo.at.ne0 rfl rfl ?_
            refine y_getp (z := 10) (v := (t + 7)) dX10_allPairs_33 frX10_30 cfX10 hTo.at rfl rfl (p10_10 wT hTo) ?_
            refine x_iload_n (i := 3) dX10_allPairs_36 rfl rfl ?_
            refine x_iload (i := 4) dX10_allPairs_37 rfl ?_
            refine x_iadd dX10_allPairs_39 ⟨by omega, by omega⟩ ?_
            refine x_iald dX10_allPairs_40 (a10_10 hTo) ⟨by omega, by omega⟩ ?_
            rw [ev']
            refine x_iadd dX10_allPairs_41 ⟨by omega, by omega⟩ ?_
            refine x_istore_n (i := 1) dX10_allPairs_42 rfl rfl (Nat.le_of_ble_eq_true rfl) ?_
            refine x_iinc dX10_allPairs_43 rfl ⟨by omega, by omega⟩ rfl (Nat.le_of_ble_eq_true rfl) ?_
            refine x_goto (tgt := 20) dX10_allPairs_46 rfl ?_
            refine x_keep [1, 1, 1, 1, 1] ?_
            have := ihk (k + 1) (u + T 4 (18 * p + 3 * k + 2)) (by omega) (by omega) (by omega) esk.symm
            rw [← Int.add_assoc] at this
            exact this
      refine x_iload_n (i := 2) dX10_allPairs_4 rfl rfl ?_
      refine y_aln (i := 0) dX10_allPairs_5 hTo.at.ne0 rfl rfl ?_
      refine y_geti (z := 0) dX10_allPairs_6 frX10_66 cfX10 hTo.at rfl rfl ?_
      refine x_icmp_ge (tgt := 55) dX10_allPairs_9 rfl (fun h9 => ?_) (fun h9 => ?_)
      · refine x_iload_n (i := 1) dX10_allPairs_55 rfl rfl ?_
        refine x_iret dX10_allPairs_56 rfl ?_
        exact ⟨rfl, rfl, by rw [hv, show p = T 0 1 by omega]⟩
      · refine x_iload_n (i := 2) dX10_allPairs_12 rfl rfl ?_
        refine y_bi dX10_allPairs_13 ⟨by decide, by decide⟩ ?_
        refine x_imul dX10_allPairs_15 ⟨by omega, by omega⟩ ?_
        rw [Int.mul_comm p 6]
        refine x_istore_n (i := 3) dX10_allPairs_16 rfl rfl (Nat.le_of_ble_eq_true rfl) ?_
        refine y_ic dX10_allPairs_17 ⟨by decide, by decide⟩ ?_
        refine x_istore (i := 4) dX10_allPairs_18 rfl (Nat.le_of_ble_eq_true rfl) ?_
        refine x_keep [1, 1, 1, 1, 1] ?_
        have := hK (by omega) _ 0 0 (Nat.lt_succ_self _) (Int.le_refl 0) (by have := hf3 (by omega); omega) rfl
        rw [Int.add_zero] at this
        exact this
  refine y_ic dX10_allPairs_0 ⟨by decide, by decide⟩ ?_
  refine x_istore_n (i := 1) dX10_allPairs_1 rfl rfl (Nat.le_of_ble_eq_true rfl) ?_
  refine y_ic dX10_allPairs_2 ⟨by decide, by decide⟩ ?_
  refine x_istore_n (i := 2) dX10_allPairs_3 rfl rfl (Nat.le_of_ble_eq_true rfl) ?_
  refine x_keep [1, 1, 1, 0, 0] ?_
  exact hL _ 0 0 (Nat.lt_succ_self _) (by omega) (by omega) rfl (by omega) (by omega)
theorem c_X10_clear {t : Nat} (hW : WP P) (hTo : isT NO t) : Cv G mX10_clear d 0 0 [.inr (.inl t)] NO I P (qV (fun n I' P' => n = NO ∧ P' = P ∧ Fc (sC t) I I' ∧ (I' t 0 = 0 ∧ I' t 1 = 1 ∧ I' t 2 = 0 ∧ I' t 3 = 0) ∧ (∀ c, 0 ≤ c → c < 48 → I' (t + 1) c = 0 ∧ I' (t + 2) c = 0) ∧ (∀ c, 0 ≤ c → c < 6 → I' (t + 3) c = 0 ∧ I' (t + 4) c = 0) ∧ I' (t + 13) 0 = 2 ∧ I' (t + 13) 1 = -1 ∧ I' (t + 13) 2 = 0)) := by
  have wT := wp_T hW hTo
  have ht1 := hTo.1
  refine x_enter mfX10_clear rfl (Nat.le_of_ble_eq_true rfl) (fun _ => ?_)
  have hB : ∀ (j : Nat) (c : Int) (K : Mem), (6 - c).toNat < j → 0 ≤ c → c ≤ 6 → Fc (sC t) I K → (K t 0 = 0 ∧ K t 1 = 1 ∧ K t 2 = 0 ∧ K t 3 = 0) → (∀ c, 0 ≤ c → c < 48 → K (t + 1) c = 0 ∧ K (t + 2) c = 0) → (∀ x, 0 ≤ x → x < c → K (t + 3) x = 0 ∧ K (t + 4) x = 0) → V G mX10_clear d 0 0 50 [some (.inr (.inl t)), some (.inl (c))] [] NO K P (qV (fun n I' P' => n = NO ∧ P' = P ∧ Fc (sC t) I I' ∧ (I' t 0 = 0 ∧ I' t 1 = 1 ∧ I' t 2 = 0 ∧ I' t 3 = 0) ∧ (∀ c, 0 ≤ c → c < 48 → I' (t + 1) c = 0 ∧ I' (t + 2) c = 0) ∧ (∀ c, 0 ≤ c → c < 6 → I' (t + 3) c = 0 ∧ I' (t + 4) c = 0) ∧ I' (t + 13) 0 = 2 ∧ I' (t + 13) 1 = -1 ∧ I' (t + 13) 2 = 0)) := by
    intro j
    induction j with
    | zero => intro c K hj; omega
    | succ j ih =>
      intro c K hj hc hc2 hFr h4 h48 h6
      refine x_iload_n (i := 1) dX10_clear_50 rfl rfl ?_
      refine y_bi dX10_clear_51 ⟨by decide, by decide⟩ ?_
      refine x_icmp_ge (tgt := 76) dX10_clear_53 rfl (fun h53 => ?_) (fun h53 => ?_)
      · refine y_aln (i := 0) dX10_clear_76 hTo.at.ne0 rfl rfl ?_
        refine y_getp (z := 16) (v := (t + 13)) dX10_clear_77 frX10_51 cfX10 hTo.at rfl rfl (p10_16 wT hTo) ?_
        refine y_ic dX10_clear_80 ⟨by decide, by decide⟩ ?_
        refine y_puti (z := 0) dX10_clear_81 frX10_75 cfX2 (a10_16 hTo) rfl rfl rfl ?_
        refine y_aln (i := 0) dX10_clear_84 hTo.at.ne0 rfl rfl ?_
        refine y_getp (z := 16) (v := (t + 13)) dX10_clear_85 frX10_51 cfX10 hTo.at rfl rfl (p10_16 wT hTo) ?_
        refine y_ic dX10_clear_88 ⟨by decide, by decide⟩ ?_
        refine y_puti (z := 1) dX10_clear_89 frX10_78 cfX2 (a10_16 hTo) rfl rfl rfl ?_
        refine y_aln (i := 0) dX10_clear_92 hTo.at.ne0 rfl rfl ?_
        refine y_getp (z := 16) (v := (t + 13)) dX10_clear_93 frX10_51 cfX10 hTo.at rfl rfl (p10_16 wT hTo) ?_
        refine y_ic dX10_clear_96 ⟨by decide, by decide⟩ ?_
        refine y_putz (z := 2) dX10_clear_97 frX10_81 cfX2 (a10_16 hTo) rfl rfl rfl (by omega) ?_
        refine x_vret dX10_clear_100 rfl ?_
        refine ⟨rfl, rfl, ((hFr.ui (by show _ ∨ _; omega)).ui (by show _ ∨ _; omega)).ui (by show _ ∨ _; omega), ?_, fun x x0 x1 => ?_, fun x x0 x1 => ?_, ?_⟩
        · rw [uI_ne (by omega), uI_ne (by omega), uI_ne (by omega)]; exact h4
        · rw [uI_ne (by omega), uI_ne (by omega), uI_ne (by omega), uI_ne (by omega), uI_ne (by omega), uI_ne (by omega)]; exact h48 x x0 x1
        · rw [uI_ne (by omega), uI_ne (by omega), uI_ne (by omega), uI_ne (by omega), uI_ne (by omega), uI_ne (by omega)]; exact h6 x x0 (by omega)
        · simp [uI_eq, u1]
      · refine y_aln (i := 0) dX10_clear_56 hTo.at.ne0 rfl rfl ?_
        refine y_getp (z := 6) (v := (t + 3)) dX10_clear_57 frX10_18 cfX10 hTo.at rfl rfl (p10_6 wT hTo) ?_
        refine x_iload_n (i := 1) dX10_clear_60 rfl rfl ?_
        refine y_ic dX10_clear_61 ⟨by decide, by decide⟩ ?_
        refine x_iast dX10_clear_62 (a10_6 hTo) ⟨by omega, by omega⟩ ?_
        refine y_aln (i := 0) dX10_clear_63 hTo.at.ne0 rfl rfl ?_
        refine y_getp (z := 7) (v := (t + 4)) dX10_clear_64 frX10_21 cfX10 hTo.at rfl rfl (p10_7 wT hTo) ?_
        refine x_iload_n (i := 1) dX10_clear_67 rfl rfl ?_
        refine y_ic dX10_clear_68 ⟨by decide, by decide⟩ ?_
        refine x_iast dX10_clear_69 (a10_7 hTo) ⟨by omega, by omega⟩ ?_
        refine x_iinc dX10_clear_70 rfl ⟨by omega, by omega⟩ rfl (Nat.le_of_ble_eq_true rfl) ?_
        refine x_goto (tgt := 50) dX10_clear_73 rfl ?_
        refine x_keep [1, 1] ?_
        refine ih (c + 1) _ (by omega) (by omega) (by omega) ((hFr.ui (by show _ ∨ _; omega)).ui (by show _ ∨ _; omega)) (by rw [uI_ne (by omega), uI_ne (by omega)]; exact h4) (fun x x0 x1 => by rw [uI_ne (by omega), uI_ne (by omega), uI_ne (by omega), uI_ne (by omega)]; exact h48 x x0 x1) (fun x x0 x1 => ?_)
        rw [uI_ne (by omega), uI_eq, uI_eq]
        by_cases e : x = c
        · rw [e]; exact ⟨u1_eq, u1_eq⟩
        · rw [u1_ne e, u1_ne e, uI_ne (by omega)]; exact h6 x x0 (by omega)
  have hA : ∀ (j : Nat) (c : Int) (K : Mem), (48 - c).toNat < j → 0 ≤ c → c ≤ 48 → Fc (sC t) I K → (K t 0 = 0 ∧ K t 1 = 1 ∧ K t 2 = 0 ∧ K t 3 = 0) → (∀ x, 0 ≤ x → x < c → K (t + 1) x = 0 ∧ K (t + 2) x = 0) → V G mX10_clear d 0 0 22 [some (.inr (.inl t)), some (.inl (c))] [] NO K P (qV (fun n I' P' => n = NO ∧ P' = P ∧ Fc (sC t) I I' ∧ (I' t 0 = 0 ∧ I' t 1 = 1 ∧ I' t 2 = 0 ∧ I' t 3 = 0) ∧ (∀ c, 0 ≤ c → c < 48 → I' (t + 1) c = 0 ∧ I' (t + 2) c = 0) ∧ (∀ c, 0 ≤ c → c < 6 → I' (t + 3) c = 0 ∧ I' (t + 4) c = 0) ∧ I' (t + 13) 0 = 2 ∧ I' (t + 13) 1 = -1 ∧ I' (t + 13) 2 = 0)) := by
    intro j
    induction j with
    | zero => intro c K hj; omega
    | succ j ih =>
      intro c K hj hc hc2 hFr h4 h48
      refine x_iload_n (i := 1) dX10_clear_22 rfl rfl ?_
      refine y_bi dX10_clear_23 ⟨by decide, by decide⟩ ?_
      refine x_icmp_ge (tgt := 48) dX10_clear_25 rfl (fun h25 => ?_) (fun h25 => ?_)
      · refine y_ic dX10_clear_48 ⟨by decide, by decide⟩ ?_
        refine x_istore_n (i := 1) dX10_clear_49 rfl rfl (Nat.le_of_ble_eq_true rfl) ?_
        refine x_keep [1, 1] ?_
        exact hB _ 0 K (Nat.lt_succ_self _) (by decide) (by decide) hFr h4 (fun x x0 x1 => h48 x x0 (by omega)) (fun x x0 x1 => by omega)
      · refine y_aln (i := 0) dX10_clear_28 hTo.at.ne0 rfl rfl ?_
        refine y_getp (z := 4) (v := (t + 1)) dX10_clear_29 frX10_9 cfX10 hTo.at rfl rfl (p10_4 wT hTo) ?_
        refine x_iload_n (i := 1) dX10_clear_32 rfl rfl ?_
        refine y_ic dX10_clear_33 ⟨by decide, by decide⟩ ?_
        refine x_iast dX10_clear_34 (a10_4 hTo) ⟨by omega, by omega⟩ ?_
        refine y_aln (i := 0) dX10_clear_35 hTo.at.ne0 rfl rfl ?_
        refine y_getp (z := 5) (v := (t + 2)) dX10_clear_36 frX10_15 cfX10 hTo.at rfl rfl (p10_5 wT hTo) ?_
        refine x_iload_n (i := 1) dX10_clear_39 rfl rfl ?_
        refine y_ic dX10_clear_40 ⟨by decide, by decide⟩ ?_
        refine x_iast dX10_clear_41 (a10_5 hTo) ⟨by omega, by omega⟩ ?_
        refine x_iinc dX10_clear_42 rfl ⟨by omega, by omega⟩ rfl (Nat.le_of_ble_eq_true rfl) ?_
        refine x_goto (tgt := 22) dX10_clear_45 rfl ?_
        refine x_keep [1, 1] ?_
        refine ih (c + 1) _ (by omega) (by omega) (by omega) ((hFr.ui (by show _ ∨ _; omega)).ui (by show _ ∨ _; omega)) (by rw [uI_ne (by omega), uI_ne (by omega)]; exact h4) (fun x x0 x1 => ?_)
        rw [uI_ne (by omega), uI_eq, uI_eq]
        by_cases e : x = c
        · rw [e]; exact ⟨u1_eq, u1_eq⟩
        · rw [u1_ne e, u1_ne e, uI_ne (by omega)]; exact h48 x x0 (by omega)
  refine y_aln (i := 0) dX10_clear_0 hTo.at.ne0 rfl rfl ?_
  refine y_ic dX10_clear_1 ⟨by decide, by decide⟩ ?_
  refine y_puti (z := 0) dX10_clear_2 frX10_66 cfX10 hTo.at rfl rfl rfl ?_
  refine y_aln (i := 0) dX10_clear_5 hTo.at.ne0 rfl rfl ?_
  refine y_ic dX10_clear_6 ⟨by decide, by decide⟩ ?_
  refine y_puti (z := 1) dX10_clear_7 frX10_58 cfX10 hTo.at rfl rfl rfl ?_
  refine y_aln (i := 0) dX10_clear_10 hTo.at.ne0 rfl rfl ?_
  refine y_ic dX10_clear_11 ⟨by decide, by decide⟩ ?_
  refine y_puti (z := 2) dX10_clear_12 frX10_69 cfX10 hTo.at rfl rfl rfl ?_
  refine y_aln (i := 0) dX10_clear_15 hTo.at.ne0 rfl rfl ?_
  refine y_ic dX10_clear_16 ⟨by decide, by decide⟩ ?_
  refine y_puti (z := 3) dX10_clear_17 frX10_72 cfX10 hTo.at rfl rfl rfl ?_
  refine y_ic dX10_clear_20 ⟨by decide, by decide⟩ ?_
  refine x_istore_n (i := 1) dX10_clear_21 rfl rfl (Nat.le_of_ble_eq_true rfl) ?_
  refine x_keep [1, 1] ?_
  exact hA _ 0 _ (Nat.lt_succ_self _) (by decide) (by decide) ((((Fc.rf.ui (Or.inl rfl)).ui (Or.inl rfl)).ui (Or.inl rfl)).ui (Or.inl rfl)) (by simp [uI_eq, u1]) (fun x x0 x1 => by omega)
end

