/-! ===== the reference: what is given, trades, ties ===== -/
section
variable {G : HX} {d : Nat} {I : Mem} {P : Ptr} {T : Tn}
theorem c_X12_copies {a b N M : Nat} (hA : AR NO a 20 N) (hB : AR NO b 20 M) (hab : a ≠ b) (hNM : N ≤ M) (hM : M ≤ 100000) : Cv G mX12_copies d 0 0 [.inr (.inl 91), .inr (.inl a), .inr (.inl b)] NO I P (qV (fun n I' P' => n = NO ∧ I' = uA I b (fun j => if 0 ≤ j ∧ j < (N : Int) then I a j else I b j) ∧ P' = P)) := by
  refine x_enter mfX12_copies rfl (Nat.le_of_ble_eq_true rfl) (fun hok => ?_)
  have hL : ∀ (j : Nat) (k : Int) (J : Mem), ((N : Int) - k).toNat < j → 0 ≤ k → k ≤ (N : Int) → (∀ c, J b c = if 0 ≤ c ∧ c < k then I a c else I b c) → (∀ x, x ≠ b → J x = I x) → V G mX12_copies d 0 0 2 [none, some (.inr (.inl a)), some (.inr (.inl b)), some (.inl (k))] [] NO J P (qV (fun n I' P' => n = NO ∧ I' = uA I b (fun j => if 0 ≤ j ∧ j < (N : Int) then I a j else I b j) ∧ P' = P)) := by
    intro j
    induction j with
    | zero => intro k J hj; omega
    | succ j ih =>
      intro k J hj hk hk2 hJ hJ2
      refine x_iload_n (i := 3) dX12_copies_2 rfl rfl ?_
      refine y_aln (i := 1) dX12_copies_3 hA.ne0 rfl rfl ?_
      refine x_alen (t := 0) (by decide) dX12_copies_4 hA (by omega) ?_
      refine x_icmp_ge (tgt := 20) dX12_copies_5 rfl (fun h5 => ?_) (fun h5 => ?_)
      · refine x_vret dX12_copies_20 rfl ?_
        exact ⟨rfl, mem_eq (fun c => by rw [hJ, show k = (N : Int) by omega]) hJ2, rfl⟩
      · refine y_aln (i := 2) dX12_copies_8 hB.ne0 rfl rfl ?_
        refine x_iload_n (i := 3) dX12_copies_9 rfl rfl ?_
        refine y_aln (i := 1) dX12_copies_10 hA.ne0 rfl rfl ?_
        refine x_iload_n (i := 3) dX12_copies_11 rfl rfl ?_
        refine x_iald dX12_copies_12 hA ⟨by omega, by omega⟩ ?_
        refine x_iast dX12_copies_13 hB ⟨by omega, by omega⟩ ?_
        refine x_iinc dX12_copies_14 rfl ⟨by omega, by omega⟩ rfl (Nat.le_of_ble_eq_true rfl) ?_
        refine x_goto (tgt := 2) dX12_copies_17 rfl ?_
        refine x_keep [0, 1, 1, 1] ?_
        refine ih _ _ (by omega) (by omega) (by omega) (fun c => ?_) (fun x hx => by rw [uI_ne hx]; exact hJ2 x hx)
        rw [uI_eq, hJ2 a hab]
        unfold u1
        by_cases e : c = k
        · rw [if_pos e, if_pos (by omega), e]
        · rw [if_neg e, hJ]
          by_cases e2 : 0 ≤ c ∧ c < k
          · rw [if_pos e2, if_pos (by omega)]
          · rw [if_neg e2, if_neg (by omega)]
  refine y_ic dX12_copies_0 ⟨by decide, by decide⟩ ?_
  refine x_istore_n (i := 3) dX12_copies_1 rfl rfl (Nat.le_of_ble_eq_true rfl) ?_
  refine x_keep [0, 1, 1, 1] ?_
  refine hL _ _ _ (Nat.lt_succ_self _) (by omega) (by omega) (fun c => ?_) (fun _ _ => rfl)
  rw [if_neg (by omega)]
theorem c_X12_begins (hW : WP P) (hT : MT I T) (hF : WF T) : Cv G mX12_begins d 0 0 [.inr (.inl 91)] NO I P (qV (fun n I' P' => n = NO ∧ I' = uA I 111 (fun j => if 0 ≤ j ∧ j < T 0 3 then 0 else I 111 j) ∧ P' = P)) := by
  have f3 := hF.2.2.1
  refine x_enter mfX12_begins rfl (Nat.le_of_ble_eq_true rfl) (fun hok => ?_)
  have hL : ∀ (j : Nat) (k : Int) (J : Mem), (T 0 3 - k).toNat < j → 0 ≤ k → k ≤ T 0 3 → (∀ c, J 111 c = if 0 ≤ c ∧ c < k then 0 else I 111 c) → (∀ x, x ≠ 111 → J x = I x) → V G mX12_begins d 0 0 2 [some (.inr (.inl 91)), some (.inl (k))] [] NO J P (qV (fun n I' P' => n = NO ∧ I' = uA I 111 (fun j => if 0 ≤ j ∧ j < T 0 3 then 0 else I 111 j) ∧ P' = P)) := by
    intro j
    induction j with
    | zero => intro k J hj; omega
    | succ j ih =>
      intro k J hj hk hk2 hJ hJ2
      have e3 : J 91 3 = T 0 3 := by rw [hJ2 91 (by decide)]; exact hT.1 3 (by decide) (by decide)
      refine x_iload_n (i := 1) dX12_begins_2 rfl rfl ?_
      refine y_aln (i := 0) dX12_begins_3 at91.ne0 rfl rfl ?_
      refine y_geti (z := 3) dX12_begins_4 frX12_13 cfX12 at91 rfl rfl ?_
      refine x_icmp_ge (tgt := 23) dX12_begins_7 rfl (fun h7 => ?_) (fun h7 => ?_)
      · refine x_vret dX12_begins_23 rfl ?_
        exact ⟨rfl, mem_eq (fun c => by rw [hJ, show k = T 0 3 by omega]) hJ2, rfl⟩
      · refine y_aln (i := 0) dX12_begins_10 at91.ne0 rfl rfl ?_
        refine y_getp (z := 45) (v := 111) dX12_begins_11 frX12_81 cfX12 at91 rfl rfl (wp (v := 111) hW rfl rfl (by decide)) ?_
        refine x_iload_n (i := 1) dX12_begins_14 rfl rfl ?_
        refine y_ic dX12_begins_15 ⟨by decide, by decide⟩ ?_
        refine x_iast dX12_begins_16 ar111 ⟨by omega, by omega⟩ ?_
        refine x_iinc dX12_begins_17 rfl ⟨by omega, by omega⟩ rfl (Nat.le_of_ble_eq_true rfl) ?_
        refine x_goto (tgt := 2) dX12_begins_20 rfl ?_
        refine x_keep [1, 1] ?_
        refine ih _ _ (by omega) (by omega) (by omega) (fun c => ?_) (fun x hx => by rw [uI_ne hx]; exact hJ2 x hx)
        rw [uI_eq]
        unfold u1
        by_cases e : c = k
        · rw [if_pos e, if_pos (by omega)]
        · rw [if_neg e, hJ]
          by_cases e2 : 0 ≤ c ∧ c < k
          · rw [if_pos e2, if_pos (by omega)]
          · rw [if_neg e2, if_neg (by omega)]
  refine y_ic dX12_begins_0 ⟨by decide, by decide⟩ ?_
  refine x_istore_n (i := 1) dX12_begins_1 rfl rfl (Nat.le_of_ble_eq_true rfl) ?_
  refine x_keep [1, 1] ?_
  refine hL _ _ _ (Nat.lt_succ_self _) (by omega) (by omega) (fun c => ?_) (fun _ _ => rfl)
  rw [if_neg (by omega)]
theorem c_X12_turns (hW : WP P) (hT : MT I T) (hF : WF T) (hg : ∀ j, 0 ≤ j → j < T 0 3 → 0 ≤ I 111 j ∧ I 111 j < 8) : Cv G mX12_turns d 0 0 [.inr (.inl 91)] NO I P (qI NO (fun r I' P' => P' = P ∧ ((r = 0 ∧ I' = I ∧ ∀ j, 0 ≤ j → j < T 0 3 → I 111 j = T 0 2 - 1) ∨ (r = 1 ∧ ∃ k, 0 ≤ k ∧ k < T 0 3 ∧ I 111 k ≠ T 0 2 - 1 ∧ (∀ j, k < j → j < T 0 3 → I 111 j = T 0 2 - 1) ∧ I' = uA I 111 (fun j => if k ≤ j ∧ j < T 0 3 then I 111 k + 1 else I 111 j))))) := by
  have f2 := hF.2.1
  have f3 := hF.2.2.1
  have e2 : I 91 2 = T 0 2 := hT.1 2 (by decide) (by decide)
  have e3 : I 91 3 = T 0 3 := hT.1 3 (by decide) (by decide)
  refine x_enter mfX12_turns rfl (Nat.le_of_ble_eq_true rfl) (fun hok => ?_)
  have hL : ∀ (j : Nat) (k : Int), (k + 1).toNat < j → -1 ≤ k → k < T 0 3 → (∀ j, k < j → j < T 0 3 → I 111 j = T 0 2 - 1) → V G mX12_turns d 0 0 7 [some (.inr (.inl 91)), some (.inl (k)), none] [] NO I P (qI NO (fun r I' P' => P' = P ∧ ((r = 0 ∧ I' = I ∧ ∀ j, 0 ≤ j → j < T 0 3 → I 111 j = T 0 2 - 1) ∨ (r = 1 ∧ ∃ k, 0 ≤ k ∧ k < T 0 3 ∧ I 111 k ≠ T 0 2 - 1 ∧ (∀ j, k < j → j < T 0 3 → I 111 j = T 0 2 - 1) ∧ I' = uA I 111 (fun j => if k ≤ j ∧ j < T 0 3 then I 111 k + 1 else I 111 j))))) := by
    intro j
    induction j with
    | zero => intro k hj; omega
    | succ j ih =>
      intro k hj hk hk2 hJ
      have hI : ∀ (j : Nat) (i : Int) (J : Mem), (T 0 3 - i).toNat < j → 0 ≤ k → k + 1 ≤ i → i ≤ T 0 3 → I 111 k ≠ T 0 2 - 1 → (∀ c, J 111 c = if k ≤ c ∧ c < i then I 111 k + 1 else I 111 c) → (∀ x, x ≠ 111 → J x = I x) → V G mX12_turns d 0 0 43 [some (.inr (.inl 91)), some (.inl (k)), some (.inl (i))] [] NO J P (qI NO (fun r I' P' => P' = P ∧ ((r = 0 ∧ I' = I ∧ ∀ j, 0 ≤ j → j < T 0 3 → I 111 j = T 0 2 - 1) ∨ (r = 1 ∧ ∃ k, 0 ≤ k ∧ k < T 0 3 ∧ I 111 k ≠ T 0 2 - 1 ∧ (∀ j, k < j → j < T 0 3 → I 111 j = T 0 2 - 1) ∧ I' = uA I 111 (fun j => if k ≤ j ∧ j < T 0 3 then I 111 k + 1 else I 111 j))))) := by
        intro j
        induction j with
        | zero => intro i J hj; omega
        | succ j ih2 =>
          intro i J hj hk0 hi hi2 hne hJ1 hJ2
          have e3' : J 91 3 = T 0 3 := by rw [hJ2 91 (by decide)]; exact e3
          have hv : J 111 k = I 111 k + 1 := by rw [hJ1, if_pos (by omega)]
          refine x_iload_n (i := 2) dX12_turns_43 rfl rfl ?_
          refine y_aln (i := 0) dX12_turns_44 at91.ne0 rfl rfl ?_
          refine y_geti (z := 3) dX12_turns_45 frX12_13 cfX12 at91 rfl rfl ?_
          refine x_icmp_ge (tgt := 69) dX12_turns_48 rfl (fun h48 => ?_) (fun h48 => ?_)
          · refine y_ic dX12_turns_69 ⟨by decide, by decide⟩ ?_
            refine x_zret dX12_turns_70 (by omega) rfl ?_
            exact ⟨rfl, Or.inr ⟨rfl, k, hk0, hk2, hne, hJ, mem_eq (fun c => by rw [hJ1, show i = T 0 3 by omega]) hJ2⟩⟩
          · refine y_aln (i := 0) dX12_turns_51 at91.ne0 rfl rfl ?_
            refine y_getp (z := 45) (v := 111) dX12_turns_52 frX12_81 cfX12 at91 rfl rfl (wp (v := 111) hW rfl rfl (by decide)) ?_
            refine x_iload_n (i := 2) dX12_turns_55 rfl rfl ?_
            refine y_aln (i := 0) dX12_turns_56 at91.ne0 rfl rfl ?_
            refine y_getp (z := 45) (v := 111) dX12_turns_57 frX12_81 cfX12 at91 rfl rfl (wp (v := 111) hW rfl rfl (by decide)) ?_
            refine x_iload_n (i := 1) dX12_turns_60 rfl rfl ?_
            refine x_iald dX12_turns_61 ar111 ⟨by omega, by omega⟩ ?_
            refine x_iast dX12_turns_62 ar111 ⟨by omega, by omega⟩ ?_
            refine x_iinc dX12_turns_63 rfl ⟨by omega, by omega⟩ rfl (Nat.le_of_ble_eq_true rfl) ?_
            refine x_goto (tgt := 43) dX12_turns_66 rfl ?_
            refine x_keep [1, 1, 1] ?_
            refine ih2 _ _ (by omega) (by omega) (by omega) (by omega) hne (fun c => ?_) (fun x hx => by rw [uI_ne hx]; exact hJ2 x hx)
            rw [uI_eq, hv]
            unfold u1
            by_cases e : c = i
            · rw [if_pos e, if_pos (by omega)]
            · rw [if_neg e, hJ1]
              by_cases e2 : k ≤ c ∧ c < i
              · rw [if_pos e2, if_pos (by omega)]
              · rw [if_neg e2, if_neg (by omega)]
      refine x_iload_n (i := 1) dX12_turns_7 rfl rfl ?_
      refine x_if_lt (tgt := 77) dX12_turns_8 rfl (fun h8 => ?_) (fun h8 => ?_)
      · refine y_ic dX12_turns_77 ⟨by decide, by decide⟩ ?_
        refine x_zret dX12_turns_78 (by omega) rfl ?_
        exact ⟨rfl, Or.inl ⟨rfl, rfl, fun j h0 h1 => hJ j (by omega) h1⟩⟩
      · have hgk := hg k (by omega) (by omega)
        refine y_aln (i := 0) dX12_turns_11 at91.ne0 rfl rfl ?_
        refine y_getp (z := 45) (v := 111) dX12_turns_12 frX12_81 cfX12 at91 rfl rfl (wp (v := 111) hW rfl rfl (by decide)) ?_
        refine x_iload_n (i := 1) dX12_turns_15 rfl rfl ?_
        refine x_iald dX12_turns_16 ar111 ⟨by omega, by omega⟩ ?_
        refine y_aln (i := 0) dX12_turns_17 at91.ne0 rfl rfl ?_
        refine y_geti (z := 2) dX12_turns_18 frX12_7 cfX12 at91 rfl rfl ?_
        refine y_ic dX12_turns_21 ⟨by decide, by decide⟩ ?_
        refine x_isub dX12_turns_22 ⟨by omega, by omega⟩ ?_
        refine x_icmp_ne (tgt := 29) dX12_turns_23 rfl (fun h23 => ?_) (fun h23 => ?_)
        · refine y_aln (i := 0) dX12_turns_29 at91.ne0 rfl rfl ?_
          refine y_getp (z := 45) (v := 111) dX12_turns_30 frX12_81 cfX12 at91 rfl rfl (wp (v := 111) hW rfl rfl (by decide)) ?_
          refine x_iload_n (i := 1) dX12_turns_33 rfl rfl ?_
          refine x_dup2 dX12_turns_34 rfl rfl ?_
          refine x_iald dX12_turns_35 ar111 ⟨by omega, by omega⟩ ?_
          refine y_ic dX12_turns_36 ⟨by decide, by decide⟩ ?_
          refine x_iadd dX12_turns_37 ⟨by omega, by omega⟩ ?_
          refine x_iast dX12_turns_38 ar111 ⟨by omega, by omega⟩ ?_
          refine x_iload_n (i := 1) dX12_turns_39 rfl rfl ?_
          refine y_ic dX12_turns_40 ⟨by decide, by decide⟩ ?_
          refine x_iadd dX12_turns_41 ⟨by omega, by omega⟩ ?_
          refine x_istore_n (i := 2) dX12_turns_42 rfl rfl (Nat.le_of_ble_eq_true rfl) ?_
          refine x_keep [1, 1, 1] ?_
          refine hI _ _ _ (Nat.lt_succ_self _) (by omega) (by omega) (by omega) (by omega) (fun c => ?_) (fun x hx => uI_ne hx)
          rw [uI_eq]
          unfold u1
          by_cases e : c = k
          · rw [if_pos e, if_pos (by omega)]
          · rw [if_neg e, if_neg (by omega)]
        · refine x_goto (tgt := 71) dX12_turns_26 rfl ?_
          refine x_iinc dX12_turns_71 rfl ⟨by omega, by omega⟩ rfl (Nat.le_of_ble_eq_true rfl) ?_
          refine x_goto (tgt := 7) dX12_turns_74 rfl ?_
          refine x_keep [1, 1, 0] ?_
          exact ih _ (by omega) (by omega) (by omega) (fun j h1 h2 => if e : j = k then (by rw [e]; omega) else hJ j (by omega) h2)
  refine y_aln (i := 0) dX12_turns_0 at91.ne0 rfl rfl ?_
  refine y_geti (z := 3) dX12_turns_1 frX12_13 cfX12 at91 rfl rfl ?_
  refine y_ic dX12_turns_4 ⟨by decide, by decide⟩ ?_
  refine x_isub dX12_turns_5 ⟨by omega, by omega⟩ ?_
  refine x_istore_n (i := 1) dX12_turns_6 rfl rfl (Nat.le_of_ble_eq_true rfl) ?_
  refine x_keep [1, 1, 0] ?_
  exact hL _ _ (Nat.lt_succ_self _) (by omega) (by omega) (fun j h1 h2 => absurd h1 (by omega))
theorem c_X12_asNumber (hW : WP P) (hT : MT I T) (hF : WF T) (hg : ∀ j, 0 ≤ j → j < T 0 3 → 0 ≤ I 111 j ∧ I 111 j < 8) : Cv G mX12_asNumber d 0 0 [.inr (.inl 91)] NO I P (qI NO (fun r I' P' => I' = I ∧ P' = P ∧ r = numS (T 0 3) (I 111))) := by
  have f3 := hF.2.2.1
  have e3 : I 91 3 = T 0 3 := hT.1 3 (by decide) (by decide)
  refine x_enter mfX12_asNumber rfl (Nat.le_of_ble_eq_true rfl) (fun hok => ?_)
  have hL : ∀ (j : Nat) (k v : Int), (T 0 3 - k).toNat < j → 0 ≤ k → k ≤ T 0 3 → v = itN (fun k v => 9 * v + I 111 k + 1) k 0 → 0 ≤ v → (k ≤ 0 → v ≤ 0) → (k ≤ 1 → v ≤ 8) → (k ≤ 2 → v ≤ 80) → v ≤ 728 → V G mX12_asNumber d 0 0 4 [some (.inr (.inl 91)), some (.inl (v)), some (.inl (k))] [] NO I P (qI NO (fun r I' P' => I' = I ∧ P' = P ∧ r = numS (T 0 3) (I 111))) := by
    intro j
    induction j with
    | zero => intro k v hj; omega
    | succ j ih =>
      intro k v hj hk hk2 hv0 hv1 hv2 hv3 hv4 hv5
      refine x_iload_n (i := 2) dX12_asNumber_4 rfl rfl ?_
      refine y_aln (i := 0) dX12_asNumber_5 at91.ne0 rfl rfl ?_
      refine y_geti (z := 3) dX12_asNumber_6 frX12_13 cfX12 at91 rfl rfl ?_
      refine x_icmp_ge (tgt := 32) dX12_asNumber_9 rfl (fun h9 => ?_) (fun h9 => ?_)
      · refine x_iload_n (i := 1) dX12_asNumber_32 rfl rfl ?_
        refine x_iret dX12_asNumber_33 rfl ?_
        exact ⟨rfl, rfl, by rw [hv0, show k = T 0 3 by omega]; rfl⟩
      · have hgk := hg k (by omega) (by omega)
        refine y_bi dX12_asNumber_12 ⟨by decide, by decide⟩ ?_
        refine x_iload_n (i := 1) dX12_asNumber_14 rfl rfl ?_
        refine x_imul dX12_asNumber_15 ⟨by omega, by omega⟩ ?_
        refine y_aln (i := 0) dX12_asNumber_16 at91.ne0 rfl rfl ?_
        refine y_getp (z := 45) (v := 111) dX12_asNumber_17 frX12_81 cfX12 at91 rfl rfl (wp (v := 111) hW rfl rfl (by decide)) ?_
        refine x_iload_n (i := 2) dX12_asNumber_20 rfl rfl ?_
        refine x_iald dX12_asNumber_21 ar111 ⟨by omega, by omega⟩ ?_
        refine x_iadd dX12_asNumber_22 ⟨by omega, by omega⟩ ?_
        refine y_ic dX12_asNumber_23 ⟨by decide, by decide⟩ ?_
        refine x_iadd dX12_asNumber_24 ⟨by omega, by omega⟩ ?_
        refine x_istore_n (i := 1) dX12_asNumber_25 rfl rfl (Nat.le_of_ble_eq_true rfl) ?_
        refine x_iinc dX12_asNumber_26 rfl ⟨by omega, by omega⟩ rfl (Nat.le_of_ble_eq_true rfl) ?_
        refine x_goto (tgt := 4) dX12_asNumber_29 rfl ?_
        refine x_keep [1, 1, 1] ?_
        exact ih _ _ (by omega) (by omega) (by omega) (by rw [itN_s _ _ hk, ← hv0]) (by omega) (by omega) (by omega) (by omega) (by omega)
  refine y_ic dX12_asNumber_0 ⟨by decide, by decide⟩ ?_
  refine x_istore_n (i := 1) dX12_asNumber_1 rfl rfl (Nat.le_of_ble_eq_true rfl) ?_
  refine y_ic dX12_asNumber_2 ⟨by decide, by decide⟩ ?_
  refine x_istore_n (i := 2) dX12_asNumber_3 rfl rfl (Nat.le_of_ble_eq_true rfl) ?_
  refine x_keep [1, 1, 1] ?_
  exact hL _ _ _ (Nat.lt_succ_self _) (by omega) (by omega) (itN_0 _ _).symm (by omega) (by omega) (by omega) (by omega) (by omega)
theorem c_X12_asked {s : Int} (hW : WP P) (hT : MT I T) (hF : WF T) : Cv G mX12_asked d 0 0 [.inr (.inl 91), .inl s] NO I P (qI NO (fun r I' P' => I' = I ∧ P' = P ∧ r = askS T (I 111) s)) := by
  have f3 := hF.2.2.1
  have e3 : I 91 3 = T 0 3 := hT.1 3 (by decide) (by decide)
  refine x_enter mfX12_asked rfl (Nat.le_of_ble_eq_true rfl) (fun hok => ?_)
  have hL : ∀ (j : Nat) (k v : Int), (T 0 3 - k).toNat < j → 0 ≤ k → k ≤ T 0 3 → v = sumN (fun k => if I 111 k = s then 1 else 0) k → 0 ≤ v → v ≤ k → V G mX12_asked d 0 0 4 [some (.inr (.inl 91)), some (.inl (s)), some (.inl (v)), some (.inl (k))] [] NO I P (qI NO (fun r I' P' => I' = I ∧ P' = P ∧ r = askS T (I 111) s)) := by
    intro j
    induction j with
    | zero => intro k v hj; omega
    | succ j ih =>
      intro k v hj hk hk2 hv0 hv1 hv2
      have es := sumN_s (fun k => if I 111 k = s then 1 else 0) hk
      refine x_iload_n (i := 3) dX12_asked_4 rfl rfl ?_
      refine y_aln (i := 0) dX12_asked_5 at91.ne0 rfl rfl ?_
      refine y_geti (z := 3) dX12_asked_6 frX12_13 cfX12 at91 rfl rfl ?_
      refine x_icmp_ge (tgt := 36) dX12_asked_9 rfl (fun h9 => ?_) (fun h9 => ?_)
      · refine x_iload_n (i := 2) dX12_asked_36 rfl rfl ?_
        refine x_iret dX12_asked_37 rfl ?_
        exact ⟨rfl, rfl, by rw [hv0, show k = T 0 3 by omega]; rfl⟩
      · refine x_iload_n (i := 2) dX12_asked_12 rfl rfl ?_
        refine y_aln (i := 0) dX12_asked_13 at91.ne0 rfl rfl ?_
        refine y_getp (z := 45) (v := 111) dX12_asked_14 frX12_81 cfX12 at91 rfl rfl (wp (v := 111) hW rfl rfl (by decide)) ?_
        refine x_iload_n (i := 3) dX12_asked_17 rfl rfl ?_
        refine x_iald dX12_asked_18 ar111 ⟨by omega, by omega⟩ ?_
        refine x_iload_n (i := 1) dX12_asked_19 rfl rfl ?_
        refine x_icmp_ne (tgt := 27) dX12_asked_20 rfl (fun h20 => ?_) (fun h20 => ?_)
        · rw [if_neg (by omega)] at es
          refine y_ic dX12_asked_27 ⟨by decide, by decide⟩ ?_
          refine x_iadd dX12_asked_28 ⟨by omega, by omega⟩ ?_
          refine x_istore_n (i := 2) dX12_asked_29 rfl rfl (Nat.le_of_ble_eq_true rfl) ?_
          refine x_iinc dX12_asked_30 rfl ⟨by omega, by omega⟩ rfl (Nat.le_of_ble_eq_true rfl) ?_
          refine x_goto (tgt := 4) dX12_asked_33 rfl ?_
          refine x_keep [1, 1, 1, 1] ?_
          exact ih _ _ (by omega) (by omega) (by omega) (by rw [es, hv0]) (by omega) (by omega)
        · rw [if_pos (by omega)] at es
          refine y_ic dX12_asked_23 ⟨by decide, by decide⟩ ?_
          refine x_goto (tgt := 28) dX12_asked_24 rfl ?_
          refine x_iadd dX12_asked_28 ⟨by omega, by omega⟩ ?_
          refine x_istore_n (i := 2) dX12_asked_29 rfl rfl (Nat.le_of_ble_eq_true rfl) ?_
          refine x_iinc dX12_asked_30 rfl ⟨by omega, by omega⟩ rfl (Nat.le_of_ble_eq_true rfl) ?_
          refine x_goto (tgt := 4) dX12_asked_33 rfl ?_
          refine x_keep [1, 1, 1, 1] ?_
          exact ih _ _ (by omega) (by omega) (by omega) (by rw [es, hv0]) (by omega) (by omega)
  refine y_ic dX12_asked_0 ⟨by decide, by decide⟩ ?_
  refine x_istore_n (i := 2) dX12_asked_1 rfl rfl (Nat.le_of_ble_eq_true rfl) ?_
  refine y_ic dX12_asked_2 ⟨by decide, by decide⟩ ?_
  refine x_istore_n (i := 3) dX12_asked_3 rfl rfl (Nat.le_of_ble_eq_true rfl) ?_
  refine x_keep [1, 1, 1, 1] ?_
  exact hL _ _ _ (Nat.lt_succ_self _) (by omega) (by omega) (sumN_0 _).symm (by omega) (by omega)
theorem c_X12_kept (hW : WP P) (hT : MT I T) (hF : WF T) : Cv G mX12_kept d 0 0 [.inr (.inl 91)] NO I P (qI NO (fun r I' P' => I' = I ∧ P' = P ∧ r = keepS T (I 111))) := by
  have f3 := hF.2.2.1
  have e3 : I 91 3 = T 0 3 := hT.1 3 (by decide) (by decide)
  have e4 : I 91 4 = T 0 4 := hT.1 4 (by decide) (by decide)
  refine x_enter mfX12_kept rfl (Nat.le_of_ble_eq_true rfl) (fun hok => ?_)
  have hL : ∀ (j : Nat) (k : Int), (T 0 3 - k).toNat < j → 0 ≤ k → k ≤ T 0 3 → (∀ j, 0 ≤ j → j < k → I 111 j = T 0 4) → V G mX12_kept d 0 0 2 [some (.inr (.inl 91)), some (.inl (k))] [] NO I P (qI NO (fun r I' P' => I' = I ∧ P' = P ∧ r = keepS T (I 111))) := by
    intro j
    induction j with
    | zero => intro k hj; omega
    | succ j ih =>
      intro k hj hk hk2 hJ
      refine x_iload_n (i := 1) dX12_kept_2 rfl rfl ?_
      refine y_aln (i := 0) dX12_kept_3 at91.ne0 rfl rfl ?_
      refine y_geti (z := 3) dX12_kept_4 frX12_13 cfX12 at91 rfl rfl ?_
      refine x_icmp_ge (tgt := 31) dX12_kept_7 rfl (fun h7 => ?_) (fun h7 => ?_)
      · refine y_ic dX12_kept_31 ⟨by decide, by decide⟩ ?_
        refine x_iret dX12_kept_32 rfl ?_
        refine ⟨rfl, rfl, ?_⟩
        unfold keepS
        split
        · rfl
        · split
          · next q => exact absurd (hJ 1 (by decide) (by omega)) q.2
          · split
            · next q => exact absurd (hJ 2 (by decide) (by omega)) q.2
            · rfl
      · refine y_aln (i := 0) dX12_kept_10 at91.ne0 rfl rfl ?_
        refine y_getp (z := 45) (v := 111) dX12_kept_11 frX12_81 cfX12 at91 rfl rfl (wp (v := 111) hW rfl rfl (by decide)) ?_
        refine x_iload_n (i := 1) dX12_kept_14 rfl rfl ?_
        refine x_iald dX12_kept_15 ar111 ⟨by omega, by omega⟩ ?_
        refine y_aln (i := 0) dX12_kept_16 at91.ne0 rfl rfl ?_
        refine y_geti (z := 4) dX12_kept_17 frX12_16 cfX12 at91 rfl rfl ?_
        refine x_icmp_eq (tgt := 25) dX12_kept_20 rfl (fun h20 => ?_) (fun h20 => ?_)
        · refine x_iinc dX12_kept_25 rfl ⟨by omega, by omega⟩ rfl (Nat.le_of_ble_eq_true rfl) ?_
          refine x_goto (tgt := 2) dX12_kept_28 rfl ?_
          refine x_keep [1, 1] ?_
          exact ih _ (by omega) (by omega) (by omega) (fun j h1 h2 => if e : j = k then (by rw [e]; omega) else hJ j (by omega) (by omega))
        · refine x_iload_n (i := 1) dX12_kept_23 rfl rfl ?_
          refine x_iret dX12_kept_24 rfl ?_
          refine ⟨rfl, rfl, ?_⟩
          unfold keepS
          rcases (by omega : k = 0 ∨ k = 1 ∨ k = 2) with rfl | rfl | rfl
          · rw [if_pos (by omega)]
          · rw [if_neg (by have := hJ 0 (by decide) (by decide); omega), if_pos (by omega)]
          · rw [if_neg (by have := hJ 0 (by decide) (by decide); omega), if_neg (by have := hJ 1 (by decide) (by decide); omega), if_pos (by omega)]
  refine y_ic dX12_kept_0 ⟨by decide, by decide⟩ ?_
  refine x_istore_n (i := 1) dX12_kept_1 rfl rfl (Nat.le_of_ble_eq_true rfl) ?_
  refine x_keep [1, 1] ?_
  exact hL _ _ (Nat.lt_succ_self _) (by omega) (by omega) (fun j h1 h2 => absurd h1 (by omega))
theorem c_X12_isLawful {of : Nat} {a b z : Int} (hW : WP P) (hT : MT I T) (hF : WF T) (hA : AR NO of 20 48) (hr : RC (I of)) (ha : 0 ≤ a ∧ a < 6) (hb : 0 ≤ b ∧ b < 6) (hz : 0 ≤ z ∧ z < 8) (hg : ∀ j, 0 ≤ j → j < T 0 3 → 0 ≤ I 111 j ∧ I 111 j < 8) : Cv G mX12_isLawful (d + 1) 0 0 [.inr (.inl 91), .inr (.inl of), .inl a, .inl b, .inl z] NO I P (qI NO (fun r I' P' => I' = I ∧ P' = P ∧ ((r = 1 ∧ lawP T (I of) a b (I 111) z) ∨ (r = 0 ∧ ¬ lawP T (I of) a b (I 111) z)))) := by
  have f3 := hF.2.2.1
  have e3 : I 91 3 = T 0 3 := hT.1 3 (by decide) (by decide)
  have e4 : I 91 4 = T 0 4 := hT.1 4 (by decide) (by decide)
  refine x_enter mfX12_isLawful rfl (Nat.le_of_ble_eq_true rfl) (fun hok => ?_)
  have hL : ∀ (j : Nat) (k v : Int), (T 0 3 - k).toNat < j → 0 ≤ k → k ≤ T 0 3 → (v = 0 ∨ v = 1) → (v = 0 → ¬ lawP T (I of) a b (I 111) z) → (v = 1 → (0 < I of (8 * b + z) ∧ askS T (I 111) z = 0 ∧ (T 0 4 = -1 ∨ 0 < askS T (I 111) (T 0 4))) ∧ ∀ j, 0 ≤ j → j < k → askS T (I 111) (I 111 j) ≤ I of (8 * a + I 111 j)) → V G mX12_isLawful (d + 1) 0 0 50 [some (.inr (.inl 91)), some (.inr (.inl of)), some (.inl (a)), none, none, some (.inl (v)), some (.inl (k))] [] NO I P (qI NO (fun r I' P' => I' = I ∧ P' = P ∧ ((r = 1 ∧ lawP T (I of) a b (I 111) z) ∨ (r = 0 ∧ ¬ lawP T (I of) a b (I 111) z)))) := by
    intro j
    induction j with
    | zero => intro k v hj; omega
    | succ j ih =>
      intro k v hj hk hk2 hv hv0 hv1
      refine x_iload (i := 6) dX12_isLawful_50 rfl ?_
      refine y_aln (i := 0) dX12_isLawful_52 at91.ne0 rfl rfl ?_
      refine y_geti (z := 3) dX12_isLawful_53 frX12_13 cfX12 at91 rfl rfl ?_
      refine x_icmp_ge (tgt := 105) dX12_isLawful_56 rfl (fun h56 => ?_) (fun h56 => ?_)
      · refine x_iload (i := 5) dX12_isLawful_105 rfl ?_
        refine x_zret dX12_isLawful_107 (by omega) rfl ?_
        refine ⟨rfl, rfl, ?_⟩
        rcases hv with hv | hv
        · exact Or.inr ⟨hv, hv0 hv⟩
        · have q := hv1 hv
          refine Or.inl ⟨hv, q.1.1, q.1.2.1, q.1.2.2, fun j h0 h1 => q.2 j h0 (by omega)⟩
      · have hgk := hg k (by omega) (by omega)
        have hrk := hr (8 * a + I 111 k) (by omega) (by omega)
        refine x_iload (i := 5) dX12_isLawful_59 rfl ?_
        refine x_if_eq (tgt := 105) dX12_isLawful_61 rfl (fun h61 => ?_) (fun h61 => ?_)
        · refine x_iload (i := 5) dX12_isLawful_105 rfl ?_
          refine x_zret dX12_isLawful_107 (by omega) rfl ?_
          refine ⟨rfl, rfl, ?_⟩
          rcases hv with hv | hv
          · exact Or.inr ⟨hv, hv0 hv⟩
          · have q := hv1 hv
            refine Or.inl ⟨hv, q.1.1, q.1.2.1, q.1.2.2, fun j h0 h1 => q.2 j h0 (by omega)⟩
        · refine y_aln (i := 1) dX12_isLawful_64 hA.ne0 rfl rfl ?_
          refine y_bi dX12_isLawful_65 ⟨by decide, by decide⟩ ?_
          refine x_iload_n (i := 2) dX12_isLawful_67 rfl rfl ?_
          refine x_imul dX12_isLawful_68 ⟨by omega, by omega⟩ ?_
          refine y_aln (i := 0) dX12_isLawful_69 at91.ne0 rfl rfl ?_
          refine y_getp (z := 45) (v := 111) dX12_isLawful_70 frX12_81 cfX12 at91 rfl rfl (wp (v := 111) hW rfl rfl (by decide)) ?_
          refine x_iload (i := 6) dX12_isLawful_73 rfl ?_
          refine x_iald dX12_isLawful_75 ar111 ⟨by omega, by omega⟩ ?_
          refine x_iadd dX12_isLawful_76 ⟨by omega, by omega⟩ ?_
          refine x_iald dX12_isLawful_77 hA ⟨by omega, by omega⟩ ?_
          refine y_aln (i := 0) dX12_isLawful_78 at91.ne0 rfl rfl ?_
          refine y_aln (i := 0) dX12_isLawful_79 at91.ne0 rfl rfl ?_
          refine y_getp (z := 45) (v := 111) dX12_isLawful_80 frX12_81 cfX12 at91 rfl rfl (wp (v := 111) hW rfl rfl (by decide)) ?_
          refine x_iload (i := 6) dX12_isLawful_83 rfl ?_
          refine x_iald dX12_isLawful_85 ar111 ⟨by omega, by omega⟩ ?_
          refine x_callVI (c_X12_asked hW hT hF) dX12_isLawful_86 lkX12_371 mfX12_asked cfX12 at91 rfl rfl rfl rfl (Nat.le_of_ble_eq_true rfl) (fun r86 I86 P86 hr86 hf86 => ?_)
          obtain ⟨rfl, rfl, rfl⟩ := hf86
          refine x_icmp_lt (tgt := 96) dX12_isLawful_89 rfl (fun h89 => ?_) (fun h89 => ?_)
          · refine y_ic dX12_isLawful_96 ⟨by decide, by decide⟩ ?_
            refine x_istore (i := 5) dX12_isLawful_97 rfl (Nat.le_of_ble_eq_true rfl) ?_
            refine x_iinc dX12_isLawful_99 rfl ⟨by omega, by omega⟩ rfl (Nat.le_of_ble_eq_true rfl) ?_
            refine x_goto (tgt := 50) dX12_isLawful_102 rfl ?_
            refine x_keep [1, 1, 1, 0, 0, 1, 1] ?_
            refine ih _ _ (by omega) (by omega) (by omega) (by omega) (fun q => ?_) (fun q => ?_)
            · first | exact absurd q (by decide) | exact fun ⟨_, _, _, w⟩ => absurd (w k hk (by omega)) (by omega)
            · first | exact absurd q (by decide) | exact ⟨(hv1 (by omega)).1, fun j h0 h1 => if e : j = k then (by rw [e]; omega) else (hv1 (by omega)).2 j h0 (by omega)⟩
          · refine y_ic dX12_isLawful_92 ⟨by decide, by decide⟩ ?_
            refine x_goto (tgt := 97) dX12_isLawful_93 rfl ?_
            refine x_istore (i := 5) dX12_isLawful_97 rfl (Nat.le_of_ble_eq_true rfl) ?_
            refine x_iinc dX12_isLawful_99 rfl ⟨by omega, by omega⟩ rfl (Nat.le_of_ble_eq_true rfl) ?_
            refine x_goto (tgt := 50) dX12_isLawful_102 rfl ?_
            refine x_keep [1, 1, 1, 0, 0, 1, 1] ?_
            refine ih _ _ (by omega) (by omega) (by omega) (by omega) (fun q => ?_) (fun q => ?_)
            · first | exact absurd q (by decide) | exact fun ⟨_, _, _, w⟩ => absurd (w k hk (by omega)) (by omega)
            · first | exact absurd q (by decide) | exact ⟨(hv1 (by omega)).1, fun j h0 h1 => if e : j = k then (by rw [e]; omega) else (hv1 (by omega)).2 j h0 (by omega)⟩
  refine y_aln (i := 1) dX12_isLawful_0 hA.ne0 rfl rfl ?_
  refine y_bi dX12_isLawful_1 ⟨by decide, by decide⟩ ?_
  refine x_iload_n (i := 3) dX12_isLawful_3 rfl rfl ?_
  refine x_imul dX12_isLawful_4 ⟨by omega, by omega⟩ ?_
  refine x_iload (i := 4) dX12_isLawful_5 rfl ?_
  refine x_iadd dX12_isLawful_7 ⟨by omega, by omega⟩ ?_
  refine x_iald dX12_isLawful_8 hA ⟨by omega, by omega⟩ ?_
  have hr0 := hr (8 * b + z) (by omega) (by omega)
  refine x_if_le (tgt := 44) dX12_isLawful_9 rfl (fun h9 => ?_) (fun h9 => ?_)
  · refine y_ic dX12_isLawful_44 ⟨by decide, by decide⟩ ?_
    refine x_istore (i := 5) dX12_isLawful_45 rfl (Nat.le_of_ble_eq_true rfl) ?_
    refine y_ic dX12_isLawful_47 ⟨by decide, by decide⟩ ?_
    refine x_istore (i := 6) dX12_isLawful_48 rfl (Nat.le_of_ble_eq_true rfl) ?_
    refine x_keep [1, 1, 1, 0, 0, 1, 1] ?_
    refine hL _ _ _ (Nat.lt_succ_self _) (by omega) (by omega) (by omega) (fun q => ?_) (fun q => ?_)
    · first | exact absurd q (by decide) | exact fun ⟨w1, w2, w3, _⟩ => by omega | exact fun ⟨w1, w2, w3, _⟩ => by rw [e4] at *; omega
    · first | exact absurd q (by decide) | exact ⟨⟨by omega, by omega, by first | exact Or.inl (by omega) | exact Or.inr (by rw [← e4]; omega)⟩, fun j h1 h2 => absurd h1 (by omega)⟩
  · refine y_aln (i := 0) dX12_isLawful_12 at91.ne0 rfl rfl ?_
    refine x_iload (i := 4) dX12_isLawful_13 rfl ?_
    refine x_callVI (c_X12_asked hW hT hF) dX12_isLawful_15 lkX12_371 mfX12_asked cfX12 at91 rfl rfl rfl rfl (Nat.le_of_ble_eq_true rfl) (fun r15 I15 P15 hr15 hf15 => ?_)
    obtain ⟨rfl, rfl, rfl⟩ := hf15
    have ab := askS_bd (γ := I15 111) (s := z) hF
    refine x_if_ne (tgt := 44) dX12_isLawful_18 rfl (fun h18 => ?_) (fun h18 => ?_)
    · refine y_ic dX12_isLawful_44 ⟨by decide, by decide⟩ ?_
      refine x_istore (i := 5) dX12_isLawful_45 rfl (Nat.le_of_ble_eq_true rfl) ?_
      refine y_ic dX12_isLawful_47 ⟨by decide, by decide⟩ ?_
      refine x_istore (i := 6) dX12_isLawful_48 rfl (Nat.le_of_ble_eq_true rfl) ?_
      refine x_keep [1, 1, 1, 0, 0, 1, 1] ?_
      refine hL _ _ _ (Nat.lt_succ_self _) (by omega) (by omega) (by omega) (fun q => ?_) (fun q => ?_)
      · first | exact absurd q (by decide) | exact fun ⟨w1, w2, w3, _⟩ => by omega | exact fun ⟨w1, w2, w3, _⟩ => by rw [e4] at *; omega
      · first | exact absurd q (by decide) | exact ⟨⟨by omega, by omega, by first | exact Or.inl (by omega) | exact Or.inr (by rw [← e4]; omega)⟩, fun j h1 h2 => absurd h1 (by omega)⟩
    · refine y_aln (i := 0) dX12_isLawful_21 at91.ne0 rfl rfl ?_
      refine y_geti (z := 4) dX12_isLawful_22 frX12_16 cfX12 at91 rfl rfl ?_
      refine y_ic dX12_isLawful_25 ⟨by decide, by decide⟩ ?_
      refine x_icmp_eq (tgt := 40) dX12_isLawful_26 rfl (fun h26 => ?_) (fun h26 => ?_)
      · refine y_ic dX12_isLawful_40 ⟨by decide, by decide⟩ ?_
        refine x_goto (tgt := 45) dX12_isLawful_41 rfl ?_
        refine x_istore (i := 5) dX12_isLawful_45 rfl (Nat.le_of_ble_eq_true rfl) ?_
        refine y_ic dX12_isLawful_47 ⟨by decide, by decide⟩ ?_
        refine x_istore (i := 6) dX12_isLawful_48 rfl (Nat.le_of_ble_eq_true rfl) ?_
        refine x_keep [1, 1, 1, 0, 0, 1, 1] ?_
        refine hL _ _ _ (Nat.lt_succ_self _) (by omega) (by omega) (by omega) (fun q => ?_) (fun q => ?_)
        · first | exact absurd q (by decide) | exact fun ⟨w1, w2, w3, _⟩ => by omega | exact fun ⟨w1, w2, w3, _⟩ => by rw [e4] at *; omega
        · first | exact absurd q (by decide) | exact ⟨⟨by omega, by omega, by first | exact Or.inl (by omega) | exact Or.inr (by rw [← e4]; omega)⟩, fun j h1 h2 => absurd h1 (by omega)⟩
      · refine y_aln (i := 0) dX12_isLawful_29 at91.ne0 rfl rfl ?_
        refine y_aln (i := 0) dX12_isLawful_30 at91.ne0 rfl rfl ?_
        refine y_geti (z := 4) dX12_isLawful_31 frX12_16 cfX12 at91 rfl rfl ?_
        refine x_callVI (c_X12_asked hW hT hF) dX12_isLawful_34 lkX12_371 mfX12_asked cfX12 at91 rfl rfl rfl rfl (Nat.le_of_ble_eq_true rfl) (fun r34 I34 P34 hr34 hf34 => ?_)
        obtain ⟨rfl, rfl, rfl⟩ := hf34
        refine x_if_le (tgt := 44) dX12_isLawful_37 rfl (fun h37 => ?_) (fun h37 => ?_)
        · refine y_ic dX12_isLawful_44 ⟨by decide, by decide⟩ ?_
          refine x_istore (i := 5) dX12_isLawful_45 rfl (Nat.le_of_ble_eq_true rfl) ?_
          refine y_ic dX12_isLawful_47 ⟨by decide, by decide⟩ ?_
          refine x_istore (i := 6) dX12_isLawful_48 rfl (Nat.le_of_ble_eq_true rfl) ?_
          refine x_keep [1, 1, 1, 0, 0, 1, 1] ?_
          refine hL _ _ _ (Nat.lt_succ_self _) (by omega) (by omega) (by omega) (fun q => ?_) (fun q => ?_)
          · first | exact absurd q (by decide) | exact fun ⟨w1, w2, w3, _⟩ => by omega | exact fun ⟨w1, w2, w3, _⟩ => by rw [e4] at *; omega
          · first | exact absurd q (by decide) | exact ⟨⟨by omega, by omega, by first | exact Or.inl (by omega) | exact Or.inr (by rw [← e4]; omega)⟩, fun j h1 h2 => absurd h1 (by omega)⟩
        · refine y_ic dX12_isLawful_40 ⟨by decide, by decide⟩ ?_
          refine x_goto (tgt := 45) dX12_isLawful_41 rfl ?_
          refine x_istore (i := 5) dX12_isLawful_45 rfl (Nat.le_of_ble_eq_true rfl) ?_
          refine y_ic dX12_isLawful_47 ⟨by decide, by decide⟩ ?_
          refine x_istore (i := 6) dX12_isLawful_48 rfl (Nat.le_of_ble_eq_true rfl) ?_
          refine x_keep [1, 1, 1, 0, 0, 1, 1] ?_
          refine hL _ _ _ (Nat.lt_succ_self _) (by omega) (by omega) (by omega) (fun q => ?_) (fun q => ?_)
          · first | exact absurd q (by decide) | exact fun ⟨w1, w2, w3, _⟩ => by omega | exact fun ⟨w1, w2, w3, _⟩ => by rw [e4] at *; omega
          · first | exact absurd q (by decide) | exact ⟨⟨by omega, by omega, by first | exact Or.inl (by omega) | exact Or.inr (by rw [← e4]; omega)⟩, fun j h1 h2 => absurd h1 (by omega)⟩
theorem c_X12_trades {of : Nat} {a b z : Int} (hW : WP P) (hT : MT I T) (hF : WF T) (hA : AR NO of 20 48) (hr : RC (I of)) (ha : 0 ≤ a ∧ a < 6) (hb : 0 ≤ b ∧ b < 6) (hz : 0 ≤ z ∧ z < 8) (hg : ∀ j, 0 ≤ j → j < T 0 3 → 0 ≤ I 111 j ∧ I 111 j < 8) : Cv G mX12_trades (d + 1) 0 0 [.inr (.inl 91), .inr (.inl of), .inl a, .inl b, .inl z] NO I P (qV (fun n I' P' => n = NO ∧ I' = uA I of (dealS T (I of) a b (I 111) z) ∧ P' = P)) := by
  have f3 := hF.2.2.1
  have f7 := hF.2.2.2.2.2.2.1
  have n91 : 91 ≠ of := (hA.na at91 (by decide)).symm
  have n111 : 111 ≠ of := (hA.ne ar111 (by decide)).symm
  have kb := keepS_bd T (I 111)
  refine x_enter mfX12_trades rfl (Nat.le_of_ble_eq_true rfl) (fun hok => ?_)
  have hL : ∀ (j : Nat) (k : Int) (J : Mem), (T 0 3 - k).toNat < j → 0 ≤ k → k ≤ T 0 3 → (∀ c, J of c = I of c + sumN (dlS T a b (I 111) c) k) → (∀ x, x ≠ of → J x = I x) → V G mX12_trades (d + 1) 0 0 9 [some (.inr (.inl 91)), some (.inr (.inl of)), some (.inl (a)), some (.inl (b)), some (.inl (z)), some (.inl (keepS T (I 111))), some (.inl (k))] [] NO J P (qV (fun n I' P' => n = NO ∧ I' = uA I of (dealS T (I of) a b (I 111) z) ∧ P' = P)) := by
    intro j
    induction j with
    | zero => intro k J hj; omega
    | succ j ih =>
      intro k J hj hk hk2 hJ hJ2
      have e3 : J 91 3 = T 0 3 := by rw [hJ2 91 n91]; exact hT.1 3 (by decide) (by decide)
      have e7 : J 91 7 = T 0 7 := by rw [hJ2 91 n91]; exact hT.1 7 (by decide) (by decide)
      have eg : J 111 = I 111 := hJ2 111 n111
      have hbd : ∀ c, 0 ≤ c → c < 48 → -3 ≤ J of c ∧ J of c ≤ 963 := fun c h0 h1 => by
        have q1 := hr c h0 h1
        have q2 := dl_sum_bd (T := T) (a := a) (b := b) (γ := I 111) (c := c) hk
        rw [hJ]
        omega
      refine x_iload (i := 6) dX12_trades_9 rfl ?_
      refine y_aln (i := 0) dX12_trades_11 at91.ne0 rfl rfl ?_
      refine y_geti (z := 3) dX12_trades_12 frX12_13 cfX12 at91 rfl rfl ?_
      refine x_icmp_ge (tgt := 78) dX12_trades_15 rfl (fun h15 => ?_) (fun h15 => ?_)
      · have q4 := hbd (8 * a + z) (by omega) (by omega)
        have q5 := hbd (8 * b + z) (by omega) (by omega)
        have q6 : ∀ i v, -3 ≤ v → v ≤ 964 → -3 ≤ uI J of i v of (8 * b + z) ∧ uI J of i v of (8 * b + z) ≤ 964 := fun i v h3 h4 => by
          rw [uI_eq]
          unfold u1
          split <;> omega
        have q6 := q6 (8 * a + z) (J of (8 * a + z) + 1) (by omega) (by omega)
        refine y_aln (i := 1) dX12_trades_78 hA.ne0 rfl rfl ?_
        refine y_bi dX12_trades_79 ⟨by decide, by decide⟩ ?_
        refine x_iload_n (i := 2) dX12_trades_81 rfl rfl ?_
        refine x_imul dX12_trades_82 ⟨by omega, by omega⟩ ?_
        refine x_iload (i := 4) dX12_trades_83 rfl ?_
        refine x_iadd dX12_trades_85 ⟨by omega, by omega⟩ ?_
        refine x_dup2 dX12_trades_86 rfl rfl ?_
        refine x_iald dX12_trades_87 hA ⟨by omega, by omega⟩ ?_
        refine y_ic dX12_trades_88 ⟨by decide, by decide⟩ ?_
        refine x_iadd dX12_trades_89 ⟨by omega, by omega⟩ ?_
        refine x_iast dX12_trades_90 hA ⟨by omega, by omega⟩ ?_
        refine y_aln (i := 1) dX12_trades_91 hA.ne0 rfl rfl ?_
        refine y_bi dX12_trades_92 ⟨by decide, by decide⟩ ?_
        refine x_iload_n (i := 3) dX12_trades_94 rfl rfl ?_
        refine x_imul dX12_trades_95 ⟨by omega, by omega⟩ ?_
        refine x_iload (i := 4) dX12_trades_96 rfl ?_
        refine x_iadd dX12_trades_98 ⟨by omega, by omega⟩ ?_
        refine x_dup2 dX12_trades_99 rfl rfl ?_
        refine x_iald dX12_trades_100 hA ⟨by omega, by omega⟩ ?_
        refine y_ic dX12_trades_101 ⟨by decide, by decide⟩ ?_
        refine x_isub dX12_trades_102 ⟨by omega, by omega⟩ ?_
        refine x_iast dX12_trades_103 hA ⟨by omega, by omega⟩ ?_
        refine x_vret dX12_trades_104 rfl ?_
        refine ⟨rfl, mem_eq (fun c => ?_) (fun x hx => by rw [uI_ne hx, uI_ne hx]; exact hJ2 x hx), rfl⟩
        simp only [uI_eq]
        unfold dealS
        rw [show T 0 3 = k by omega, ← hJ c, bump2 (x := 1) (y := -1) rfl (by omega)]
        split <;> split <;> omega
      · have hgk := hg k (by omega) (by omega)
        have egk : J 111 k = I 111 k := by rw [eg]
        have q1 := hbd (8 * a + J 111 k) (by omega) (by omega)
        have q2 := hbd (8 * b + J 111 k) (by omega) (by omega)
        refine y_aln (i := 1) dX12_trades_18 hA.ne0 rfl rfl ?_
        refine y_bi dX12_trades_19 ⟨by decide, by decide⟩ ?_
        refine x_iload_n (i := 2) dX12_trades_21 rfl rfl ?_
        refine x_imul dX12_trades_22 ⟨by omega, by omega⟩ ?_
        refine y_aln (i := 0) dX12_trades_23 at91.ne0 rfl rfl ?_
        refine y_getp (z := 45) (v := 111) dX12_trades_24 frX12_81 cfX12 at91 rfl rfl (wp (v := 111) hW rfl rfl (by decide)) ?_
        refine x_iload (i := 6) dX12_trades_27 rfl ?_
        refine x_iald dX12_trades_29 ar111 ⟨by omega, by omega⟩ ?_
        refine x_iadd dX12_trades_30 ⟨by omega, by omega⟩ ?_
        refine x_dup2 dX12_trades_31 rfl rfl ?_
        refine x_iald dX12_trades_32 hA ⟨by omega, by omega⟩ ?_
        refine y_ic dX12_trades_33 ⟨by decide, by decide⟩ ?_
        refine x_isub dX12_trades_34 ⟨by omega, by omega⟩ ?_
        refine x_iast dX12_trades_35 hA ⟨by omega, by omega⟩ ?_
        refine y_aln (i := 1) dX12_trades_36 hA.ne0 rfl rfl ?_
        have eg2 : ∀ i v, uI J of i v 111 = I 111 := fun i v => by rw [uI_ne n111, eg]
        have e72 : ∀ i v, uI J of i v 91 7 = T 0 7 := fun i v => by rw [uI_ne n91, e7]
        have q3 : ∀ i v, 0 ≤ i → i < 48 → -4 ≤ v → v ≤ 963 → -4 ≤ uI J of i v of (8 * b + I 111 k) ∧ uI J of i v of (8 * b + I 111 k) ≤ 963 := fun i v _ _ h3 h4 => by
          rw [uI_eq]
          unfold u1
          rw [egk] at q2
          split <;> omega
        have q3 := q3 (8 * a + J 111 k) (J of (8 * a + J 111 k) - 1) (by omega) (by omega) (by omega) (by omega)
        refine y_bi dX12_trades_37 ⟨by decide, by decide⟩ ?_
        refine x_iload_n (i := 3) dX12_trades_39 rfl rfl ?_
        refine x_imul dX12_trades_40 ⟨by omega, by omega⟩ ?_
        refine y_aln (i := 0) dX12_trades_41 at91.ne0 rfl rfl ?_
        refine y_getp (z := 45) (v := 111) dX12_trades_42 frX12_81 cfX12 at91 rfl rfl (wp (v := 111) hW rfl rfl (by decide)) ?_
        refine x_iload (i := 6) dX12_trades_45 rfl ?_
        refine x_iald dX12_trades_47 ar111 ⟨by omega, by omega⟩ ?_
        rw [eg2]
        refine x_iadd dX12_trades_48 ⟨by omega, by omega⟩ ?_
        refine x_dup2 dX12_trades_49 rfl rfl ?_
        refine x_iald dX12_trades_50 hA ⟨by omega, by omega⟩ ?_
        refine x_iload (i := 6) dX12_trades_51 rfl ?_
        refine x_iload (i := 5) dX12_trades_53 rfl ?_
        refine x_icmp_eq (tgt := 65) dX12_trades_55 rfl (fun h55 => ?_) (fun h55 => ?_)
        · refine y_ic dX12_trades_65 ⟨by decide, by decide⟩ ?_
          refine x_goto (tgt := 70) dX12_trades_66 rfl ?_
          refine x_iadd dX12_trades_70 ⟨by omega, by omega⟩ ?_
          refine x_iast dX12_trades_71 hA ⟨by omega, by omega⟩ ?_
          refine x_iinc dX12_trades_72 rfl ⟨by omega, by omega⟩ rfl (Nat.le_of_ble_eq_true rfl) ?_
          refine x_goto (tgt := 9) dX12_trades_75 rfl ?_
          refine x_keep [1, 1, 1, 1, 1, 1, 1] ?_
          refine ih _ _ (by omega) (by omega) (by omega) (fun c => ?_) (fun x hx => by rw [uI_ne hx, uI_ne hx]; exact hJ2 x hx)
          rw [sumN_s _ hk, ← Int.add_assoc, ← hJ c]
          simp only [uI_eq]
          rw [egk]
          unfold dlS
          rw [← Int.add_assoc]
          first | (rw [if_pos (show k = keepS T (I 111) ∨ T 0 7 = 0 by omega)]; exact bump2 (by omega) rfl) | (rw [if_neg (show ¬ (k = keepS T (I 111) ∨ T 0 7 = 0) by omega)]; exact bump2 (by omega) rfl)
        · refine y_aln (i := 0) dX12_trades_58 at91.ne0 rfl rfl ?_
          refine y_geti (z := 7) dX12_trades_59 frX12_325 cfX12 at91 rfl rfl ?_
          rw [e72]
          refine x_if_ne (tgt := 69) dX12_trades_62 rfl (fun h62 => ?_) (fun h62 => ?_)
          · refine y_ic dX12_trades_69 ⟨by decide, by decide⟩ ?_
            refine x_iadd dX12_trades_70 ⟨by omega, by omega⟩ ?_
            refine x_iast dX12_trades_71 hA ⟨by omega, by omega⟩ ?_
            refine x_iinc dX12_trades_72 rfl ⟨by omega, by omega⟩ rfl (Nat.le_of_ble_eq_true rfl) ?_
            refine x_goto (tgt := 9) dX12_trades_75 rfl ?_
            refine x_keep [1, 1, 1, 1, 1, 1, 1] ?_
            refine ih _ _ (by omega) (by omega) (by omega) (fun c => ?_) (fun x hx => by rw [uI_ne hx, uI_ne hx]; exact hJ2 x hx)
            rw [sumN_s _ hk, ← Int.add_assoc, ← hJ c]
            simp only [uI_eq]
            rw [egk]
            unfold dlS
            rw [← Int.add_assoc]
            first | (rw [if_pos (show k = keepS T (I 111) ∨ T 0 7 = 0 by omega)]; exact bump2 (by omega) rfl) | (rw [if_neg (show ¬ (k = keepS T (I 111) ∨ T 0 7 = 0) by omega)]; exact bump2 (by omega) rfl)
          · refine y_ic dX12_trades_65 ⟨by decide, by decide⟩ ?_
            refine x_goto (tgt := 70) dX12_trades_66 rfl ?_
            refine x_iadd dX12_trades_70 ⟨by omega, by omega⟩ ?_
            refine x_iast dX12_trades_71 hA ⟨by omega, by omega⟩ ?_
            refine x_iinc dX12_trades_72 rfl ⟨by omega, by omega⟩ rfl (Nat.le_of_ble_eq_true rfl) ?_
            refine x_goto (tgt := 9) dX12_trades_75 rfl ?_
            refine x_keep [1, 1, 1, 1, 1, 1, 1] ?_
            refine ih _ _ (by omega) (by omega) (by omega) (fun c => ?_) (fun x hx => by rw [uI_ne hx, uI_ne hx]; exact hJ2 x hx)
            rw [sumN_s _ hk, ← Int.add_assoc, ← hJ c]
            simp only [uI_eq]
            rw [egk]
            unfold dlS
            rw [← Int.add_assoc]
            first | (rw [if_pos (show k = keepS T (I 111) ∨ T 0 7 = 0 by omega)]; exact bump2 (by omega) rfl) | (rw [if_neg (show ¬ (k = keepS T (I 111) ∨ T 0 7 = 0) by omega)]; exact bump2 (by omega) rfl)
  refine y_aln (i := 0) dX12_trades_0 at91.ne0 rfl rfl ?_
  refine x_callVI (c_X12_kept hW hT hF) dX12_trades_1 lkX12_374 mfX12_kept cfX12 at91 rfl rfl rfl rfl (Nat.le_of_ble_eq_true rfl) (fun r1 I1 P1 hr1 hf1 => ?_)
  obtain ⟨rfl, rfl, rfl⟩ := hf1
  refine x_istore (i := 5) dX12_trades_4 rfl (Nat.le_of_ble_eq_true rfl) ?_
  refine y_ic dX12_trades_6 ⟨by decide, by decide⟩ ?_
  refine x_istore (i := 6) dX12_trades_7 rfl (Nat.le_of_ble_eq_true rfl) ?_
  refine x_keep [1, 1, 1, 1, 1, 1, 1] ?_
  exact hL _ _ _ (Nat.lt_succ_self _) (by omega) (by omega) (fun c => by rw [sumN_0, Int.add_zero]) (fun _ _ => rfl)
end

