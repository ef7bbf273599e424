/-! ===== the reference: the best order ===== -/
section
variable {G : HX} {d : Nat} {I : Mem} {P : Ptr} {T : Tn}
theorem uI_self {a : Nat} {i : Int} : uI I a i (I a i) = I := by
  funext b
  by_cases e : b = a
  · rw [e, uI_eq]
    funext k
    by_cases e2 : k = i
    · rw [e2, u1_eq]
    · rw [u1_ne e2]
  · rw [uI_ne e]
theorem c_X12_swap {i j : Int} (hW : WP P) (hi : 0 ≤ i ∧ i < 5) (hj : 0 ≤ j ∧ j < 5) : Cv G mX12_swap d 0 0 [.inr (.inl 91), .inl i, .inl j] NO I P (qV (fun n I' P' => n = NO ∧ P' = P ∧ I' = uA I 131 (swS (I 131) i j))) := by
  refine x_enter mfX12_swap rfl (Nat.le_of_ble_eq_true rfl) (fun _ => ?_)
  refine y_aln (i := 0) dX12_swap_0 at91.ne0 rfl rfl ?_
  refine y_getp (z := 78) (v := 131) dX12_swap_1 frX12_142 cfX12 at91 rfl rfl (wp (v := 131) hW rfl rfl (by decide)) ?_
  refine x_iload_n (i := 1) dX12_swap_4 rfl rfl ?_
  refine x_iald dX12_swap_5 ar131 ⟨by omega, by omega⟩ ?_
  refine x_istore_n (i := 3) dX12_swap_6 rfl rfl (Nat.le_of_ble_eq_true rfl) ?_
  refine y_aln (i := 0) dX12_swap_7 at91.ne0 rfl rfl ?_
  refine y_getp (z := 78) (v := 131) dX12_swap_8 frX12_142 cfX12 at91 rfl rfl (wp (v := 131) hW rfl rfl (by decide)) ?_
  refine x_iload_n (i := 1) dX12_swap_11 rfl rfl ?_
  refine y_aln (i := 0) dX12_swap_12 at91.ne0 rfl rfl ?_
  refine y_getp (z := 78) (v := 131) dX12_swap_13 frX12_142 cfX12 at91 rfl rfl (wp (v := 131) hW rfl rfl (by decide)) ?_
  refine x_iload_n (i := 2) dX12_swap_16 rfl rfl ?_
  refine x_iald dX12_swap_17 ar131 ⟨by omega, by omega⟩ ?_
  refine x_iast dX12_swap_18 ar131 ⟨by omega, by omega⟩ ?_
  refine y_aln (i := 0) dX12_swap_19 at91.ne0 rfl rfl ?_
  refine y_getp (z := 78) (v := 131) dX12_swap_20 frX12_142 cfX12 at91 rfl rfl (wp (v := 131) hW rfl rfl (by decide)) ?_
  refine x_iload_n (i := 2) dX12_swap_23 rfl rfl ?_
  refine x_iload_n (i := 3) dX12_swap_24 rfl rfl ?_
  refine x_iast dX12_swap_25 ar131 ⟨by omega, by omega⟩ ?_
  refine x_vret dX12_swap_26 rfl ?_
  refine ⟨rfl, rfl, mem_eq (fun c => ?_) (fun x hx => by rw [uI_ne hx, uI_ne hx])⟩
  rw [uI_eq, uI_eq]
  rfl
theorem c_X12_swaps (hW : WP P) (hT : MT I T) (hF : WF T) (h5 : T 0 6 ≤ 5) (hq : PM (T 0 6) (I 131)) : Cv G mX12_swaps (d + 1) 0 0 [.inr (.inl 91)] NO I P (qI NO (fun r I' P' => P' = P ∧ ((r = 0 ∧ pivS (T 0 6) (I 131) = -1 ∧ I' = I) ∨ (r = 1 ∧ pivS (T 0 6) (I 131) ≠ -1 ∧ I' = uA I 131 (nextS (T 0 6) (I 131)) ∧ PM (T 0 6) (nextS (T 0 6) (I 131)) ∧ valS (T 0 6) (I 131) + 1 ≤ valS (T 0 6) (nextS (T 0 6) (I 131)))))) := by
  have f6 := hF.2.2.2.2.2.1
  have e6 : I 91 6 = T 0 6 := hT.1 6 (by decide) (by decide)
  refine x_enter mfX12_swaps rfl (Nat.le_of_ble_eq_true rfl) (fun _ => ?_)
  have hR : ∀ (i j : Int), (0 ≤ i ∧ i + 1 < T 0 6) → (i ≤ j ∧ j < T 0 6) → ∀ (m : Nat) (x y : Int) (K : Mem), (y + 1 - x).toNat < m → i + 1 ≤ x → x + y = T 0 6 + i → y < T 0 6 → x ≤ y + 2 → (∀ k, K 131 k = if (i < k ∧ k < x) ∨ (y < k ∧ k < T 0 6) then swS (I 131) i j (T 0 6 + i - k) else swS (I 131) i j k) → (∀ a, a ≠ 131 → K a = I a) → (∀ K' : Mem, K' = uA I 131 (nxS (T 0 6) (I 131) i j) → V G mX12_swaps (d + 1) 0 0 108 [none, none, none, none, none] [] NO K' P (qI NO (fun r I' P' => P' = P ∧ ((r = 0 ∧ pivS (T 0 6) (I 131) = -1 ∧ I' = I) ∨ (r = 1 ∧ pivS (T 0 6) (I 131) ≠ -1 ∧ I' = uA I 131 (nextS (T 0 6) (I 131)) ∧ PM (T 0 6) (nextS (T 0 6) (I 131)) ∧ valS (T 0 6) (I 131) + 1 ≤ valS (T 0 6) (nextS (T 0 6) (I 131))))))) → V G mX12_swaps (d + 1) 0 0 86 [some (.inr (.inl 91)), none, none, some (.inl (x)), some (.inl (y))] [] NO K P (qI NO (fun r I' P' => P' = P ∧ ((r = 0 ∧ pivS (T 0 6) (I 131) = -1 ∧ I' = I) ∨ (r = 1 ∧ pivS (T 0 6) (I 131) ≠ -1 ∧ I' = uA I 131 (nextS (T 0 6) (I 131)) ∧ PM (T 0 6) (nextS (T 0 6) (I 131)) ∧ valS (T 0 6) (I 131) + 1 ≤ valS (T 0 6) (nextS (T 0 6) (I 131)))))) := by
    intro i j hi hj m
    induction m with
    | zero => intro x y K hm; omega
    | succ m ih =>
      intro x y K hm hx hxy hy hxy2 hK hKo k
      refine x_iload_n (i := 3) dX12_swaps_86 rfl rfl ?_
      refine x_iload (i := 4) dX12_swaps_87 rfl ?_
      refine x_icmp_ge (tgt := 108) dX12_swaps_89 rfl (fun h89 => ?_) (fun h89 => ?_)
      · refine x_keep [0, 0, 0, 0, 0] ?_
        refine k _ (mem_eq (fun c => ?_) hKo)
        rw [hK c]
        unfold nxS
        by_cases q : i < c ∧ c < T 0 6
        · rw [if_pos q]
          by_cases q2 : (i < c ∧ c < x) ∨ (y < c ∧ c < T 0 6)
          · rw [if_pos q2]
          · rw [if_neg q2, show T 0 6 + i - c = c by omega]
        · rw [if_neg q, if_neg (by omega)]
      · refine y_aln (i := 0) dX12_swaps_92 at91.ne0 rfl rfl ?_
        refine x_iload_n (i := 3) dX12_swaps_93 rfl rfl ?_
        refine x_iload (i := 4) dX12_swaps_94 rfl ?_
        refine x_callVV (c_X12_swap hW (by omega) (by omega)) dX12_swaps_96 lkX12_488 mfX12_swap cfX12 at91 rfl rfl rfl rfl (Nat.le_of_ble_eq_true rfl) (fun n96 I96 P96 hf96 => ?_)
        obtain ⟨rfl, rfl, hI96⟩ := hf96
        refine x_iinc dX12_swaps_99 rfl ⟨by omega, by omega⟩ rfl (Nat.le_of_ble_eq_true rfl) ?_
        refine x_iinc dX12_swaps_102 rfl ⟨by omega, by omega⟩ rfl (Nat.le_of_ble_eq_true rfl) ?_
        refine x_goto (tgt := 86) dX12_swaps_105 rfl ?_
        refine x_keep [1, 0, 0, 1, 1] ?_
        refine ih (x + 1) (y - 1) _ (by omega) (by omega) (by omega) (by omega) (by omega) (fun c => ?_) (fun a ha => by rw [hI96, uA_ne ha]; exact hKo a ha) k
        have ex := hK x
        have ey := hK y
        rw [if_neg (by omega)] at ex ey
        rw [hI96, uA_eq]
        show (if c = y then K 131 x else if c = x then K 131 y else K 131 c) = _
        by_cases q1 : c = y
        · rw [if_pos q1, if_pos (by omega), ex, show T 0 6 + i - c = x by omega]
        · by_cases q2 : c = x
          · rw [if_neg q1, if_pos q2, if_pos (by omega), ey, show T 0 6 + i - c = y by omega]
          · rw [if_neg q1, if_neg q2, hK c]
            by_cases q3 : (i < c ∧ c < x) ∨ (y < c ∧ c < T 0 6)
            · rw [if_pos q3, if_pos (by omega)]
            · rw [if_neg q3, if_neg (by omega)]
  have hJ : ∀ (i : Int), (0 ≤ i ∧ i + 1 < T 0 6) → I 131 i ≤ I 131 (i + 1) → (∀ x, i < x → x + 1 < T 0 6 → I 131 (x + 1) < I 131 x) → ∀ (m : Nat) (j : Int), (j + 1).toNat < m → i ≤ j → j < T 0 6 → (∀ y, j < y → y < T 0 6 → I 131 y < I 131 i) → V G mX12_swaps (d + 1) 0 0 47 [some (.inr (.inl 91)), some (.inl (i)), some (.inl (j)), none, none] [] NO I P (qI NO (fun r I' P' => P' = P ∧ ((r = 0 ∧ pivS (T 0 6) (I 131) = -1 ∧ I' = I) ∨ (r = 1 ∧ pivS (T 0 6) (I 131) ≠ -1 ∧ I' = uA I 131 (nextS (T 0 6) (I 131)) ∧ PM (T 0 6) (nextS (T 0 6) (I 131)) ∧ valS (T 0 6) (I 131) + 1 ≤ valS (T 0 6) (nextS (T 0 6) (I 131)))))) := by
    intro i hi h1 h2 m
    induction m with
    | zero => intro j hm; omega
    | succ m ih =>
      intro j hm hj hj2 h4
      refine y_aln (i := 0) dX12_swaps_47 at91.ne0 rfl rfl ?_
      refine y_getp (z := 78) (v := 131) dX12_swaps_48 frX12_142 cfX12 at91 rfl rfl (wp (v := 131) hW rfl rfl (by decide)) ?_
      refine x_iload_n (i := 2) dX12_swaps_51 rfl rfl ?_
      refine x_iald dX12_swaps_52 ar131 ⟨by omega, by omega⟩ ?_
      refine y_aln (i := 0) dX12_swaps_53 at91.ne0 rfl rfl ?_
      refine y_getp (z := 78) (v := 131) dX12_swaps_54 frX12_142 cfX12 at91 rfl rfl (wp (v := 131) hW rfl rfl (by decide)) ?_
      refine x_iload_n (i := 1) dX12_swaps_57 rfl rfl ?_
      refine x_iald dX12_swaps_58 ar131 ⟨by omega, by omega⟩ ?_
      refine x_icmp_ge (tgt := 68) dX12_swaps_59 rfl (fun h59 => ?_) (fun h59 => ?_)
      · refine y_aln (i := 0) dX12_swaps_68 at91.ne0 rfl rfl ?_
        refine x_iload_n (i := 1) dX12_swaps_69 rfl rfl ?_
        refine x_iload_n (i := 2) dX12_swaps_70 rfl rfl ?_
        refine x_callVV (c_X12_swap hW (by omega) (by omega)) dX12_swaps_71 lkX12_488 mfX12_swap cfX12 at91 rfl rfl rfl rfl (Nat.le_of_ble_eq_true rfl) (fun n71 I71 P71 hf71 => ?_)
        obtain ⟨rfl, rfl, hI71⟩ := hf71
        have e716 : I71 91 6 = T 0 6 := by rw [hI71, uA_ne (by decide)]; exact e6
        have hnx := next_is hq (by omega) hi h1 h2 ⟨hj, hj2⟩ (by omega) h4
        refine x_iload_n (i := 1) dX12_swaps_74 rfl rfl ?_
        refine y_ic dX12_swaps_75 ⟨by decide, by decide⟩ ?_
        refine x_iadd dX12_swaps_76 ⟨by omega, by omega⟩ ?_
        refine x_istore_n (i := 3) dX12_swaps_77 rfl rfl (Nat.le_of_ble_eq_true rfl) ?_
        refine y_aln (i := 0) dX12_swaps_78 at91.ne0 rfl rfl ?_
        refine y_geti (z := 6) dX12_swaps_79 frX12_322 cfX12 at91 rfl rfl ?_
        rw [e716]
        refine y_ic dX12_swaps_82 ⟨by decide, by decide⟩ ?_
        refine x_isub dX12_swaps_83 ⟨by omega, by omega⟩ ?_
        refine x_istore (i := 4) dX12_swaps_84 rfl (Nat.le_of_ble_eq_true rfl) ?_
        refine x_keep [1, 0, 0, 1, 1] ?_
        refine hR i j hi ⟨hj, hj2⟩ _ _ _ _ (Nat.lt_succ_self _) (by omega) (by omega) (by omega) (by omega) (fun k => ?_) (fun a ha => by rw [hI71, uA_ne ha]) (fun K hK => ?_)
        · rw [hI71, uA_eq, if_neg (by omega)]
        · refine y_ic dX12_swaps_108 ⟨by decide, by decide⟩ ?_
          refine x_zret dX12_swaps_109 (by omega) rfl ?_
          rw [← hnx.2.1] at hK
          exact ⟨rfl, Or.inr ⟨rfl, by rw [hnx.1]; omega, hK, hnx.2.2⟩⟩
      · refine x_iinc dX12_swaps_62 rfl ⟨by omega, by omega⟩ rfl (Nat.le_of_ble_eq_true rfl) ?_
        refine x_goto (tgt := 47) dX12_swaps_65 rfl ?_
        refine x_keep [1, 1, 1, 0, 0] ?_
        have hji : j ≠ i := fun e => by rw [e] at h59; omega
        exact ih (j - 1) (by omega) (by omega) (by omega) (fun y y0 y1 => by by_cases e : y = j; (rw [e]; omega); exact h4 y (by omega) y1)
  have hI : ∀ (m : Nat) (i : Int), (i + 2).toNat < m → -2 ≤ i → i + 1 < T 0 6 ∨ i < 0 → (∀ x, i < x → 0 ≤ x → x + 1 < T 0 6 → I 131 (x + 1) < I 131 x) → V G mX12_swaps (d + 1) 0 0 7 [some (.inr (.inl 91)), some (.inl (i)), none, none, none] [] NO I P (qI NO (fun r I' P' => P' = P ∧ ((r = 0 ∧ pivS (T 0 6) (I 131) = -1 ∧ I' = I) ∨ (r = 1 ∧ pivS (T 0 6) (I 131) ≠ -1 ∧ I' = uA I 131 (nextS (T 0 6) (I 131)) ∧ PM (T 0 6) (nextS (T 0 6) (I 131)) ∧ valS (T 0 6) (I 131) + 1 ≤ valS (T 0 6) (nextS (T 0 6) (I 131)))))) := by
    intro m
    induction m with
    | zero => intro i hm; omega
    | succ m ih =>
      intro i hm hi hi2 h2
      refine x_iload_n (i := 1) dX12_swaps_7 rfl rfl ?_
      refine x_if_lt (tgt := 34) dX12_swaps_8 rfl (fun h8 => ?_) (fun h8 => ?_)
      · refine x_iload_n (i := 1) dX12_swaps_34 rfl rfl ?_
        refine x_if_ge (tgt := 40) dX12_swaps_35 rfl (fun h35 => ?_) (fun h35 => ?_)
        · refine y_aln (i := 0) dX12_swaps_40 at91.ne0 rfl rfl ?_
          refine y_geti (z := 6) dX12_swaps_41 frX12_322 cfX12 at91 rfl rfl ?_
          rw [e6]
          refine y_ic dX12_swaps_44 ⟨by decide, by decide⟩ ?_
          refine x_isub dX12_swaps_45 ⟨by omega, by omega⟩ ?_
          refine x_istore_n (i := 2) dX12_swaps_46 rfl rfl (Nat.le_of_ble_eq_true rfl) ?_
          refine x_keep [1, 1, 1, 0, 0] ?_
          exact hJ i ⟨by omega, by omega⟩ (by omega) (fun x x0 x1 => h2 x x0 (by omega) x1) _ _ (Nat.lt_succ_self _) (by omega) (by omega) (fun y y0 y1 => by omega)
        · refine y_ic dX12_swaps_38 ⟨by decide, by decide⟩ ?_
          refine x_zret dX12_swaps_39 (by omega) rfl ?_
          exact ⟨rfl, Or.inl ⟨rfl, next_no (fun x x0 x1 => h2 x (by omega) x0 x1), rfl⟩⟩
      · refine y_aln (i := 0) dX12_swaps_11 at91.ne0 rfl rfl ?_
        refine y_getp (z := 78) (v := 131) dX12_swaps_12 frX12_142 cfX12 at91 rfl rfl (wp (v := 131) hW rfl rfl (by decide)) ?_
        refine x_iload_n (i := 1) dX12_swaps_15 rfl rfl ?_
        refine x_iald dX12_swaps_16 ar131 ⟨by omega, by omega⟩ ?_
        refine y_aln (i := 0) dX12_swaps_17 at91.ne0 rfl rfl ?_
        refine y_getp (z := 78) (v := 131) dX12_swaps_18 frX12_142 cfX12 at91 rfl rfl (wp (v := 131) hW rfl rfl (by decide)) ?_
        refine x_iload_n (i := 1) dX12_swaps_21 rfl rfl ?_
        refine y_ic dX12_swaps_22 ⟨by decide, by decide⟩ ?_
        refine x_iadd dX12_swaps_23 ⟨by omega, by omega⟩ ?_
        refine x_iald dX12_swaps_24 ar131 ⟨by omega, by omega⟩ ?_
        refine x_icmp_le (tgt := 34) dX12_swaps_25 rfl (fun h25 => ?_) (fun h25 => ?_)
        · refine x_iload_n (i := 1) dX12_swaps_34 rfl rfl ?_
          refine x_if_ge (tgt := 40) dX12_swaps_35 rfl (fun h35 => ?_) (fun h35 => ?_)
          · refine y_aln (i := 0) dX12_swaps_40 at91.ne0 rfl rfl ?_
            refine y_geti (z := 6) dX12_swaps_41 frX12_322 cfX12 at91 rfl rfl ?_
            rw [e6]
            refine y_ic dX12_swaps_44 ⟨by decide, by decide⟩ ?_
            refine x_isub dX12_swaps_45 ⟨by omega, by omega⟩ ?_
            refine x_istore_n (i := 2) dX12_swaps_46 rfl rfl (Nat.le_of_ble_eq_true rfl) ?_
            refine x_keep [1, 1, 1, 0, 0] ?_
            exact hJ i ⟨by omega, by omega⟩ (by omega) (fun x x0 x1 => h2 x x0 (by omega) x1) _ _ (Nat.lt_succ_self _) (by omega) (by omega) (fun y y0 y1 => by omega)
          · refine y_ic dX12_swaps_38 ⟨by decide, by decide⟩ ?_
            refine x_zret dX12_swaps_39 (by omega) rfl ?_
            exact ⟨rfl, Or.inl ⟨rfl, next_no (fun x x0 x1 => h2 x (by omega) x0 x1), rfl⟩⟩
        · refine x_iinc dX12_swaps_28 rfl ⟨by omega, by omega⟩ rfl (Nat.le_of_ble_eq_true rfl) ?_
          refine x_goto (tgt := 7) dX12_swaps_31 rfl ?_
          refine x_keep [1, 1, 0, 0, 0] ?_
          exact ih (i - 1) (by omega) (by omega) (by omega) (fun x x0 x1 x2 => by by_cases e : x = i; (rw [e]; omega); exact h2 x (by omega) x1 x2)
  refine y_aln (i := 0) dX12_swaps_0 at91.ne0 rfl rfl ?_
  refine y_geti (z := 6) dX12_swaps_1 frX12_322 cfX12 at91 rfl rfl ?_
  rw [e6]
  refine y_ic dX12_swaps_4 ⟨by decide, by decide⟩ ?_
  refine x_isub dX12_swaps_5 ⟨by omega, by omega⟩ ?_
  refine x_istore_n (i := 1) dX12_swaps_6 rfl rfl (Nat.le_of_ble_eq_true rfl) ?_
  refine x_keep [1, 1, 0, 0, 0] ?_
  exact hI _ _ (Nat.lt_succ_self _) (by omega) (by omega) (fun x x0 x1 x2 => by omega)
theorem c_X12_order (hW : WP P) (hT : MT I T) (hF : WF T) (hr : RW T (I 98)) : Cv G mX12_order (d + 4) 0 0 [.inr (.inl 91)] NO I P (qI NO (fun r I' P' => P' = P ∧ ((5 < T 0 6 ∧ r = -1 ∧ I' = uI I 91 0 0) ∨ (T 0 6 ≤ 5 ∧ r = (ordS T (I 98)).1 ∧ I' 91 0 = 0 ∧ I' 91 76 = T 0 6 ∧ QE (T 0 6) (I' 130) (ordS T (I 98)).2 ∧ Fr (129 :: 130 :: 131 :: frS) (0 :: 76 :: frF) I I')))) := by
  have f6 := hF.2.2.2.2.2.1
  have hT0 : MT (uI I 91 0 0) T := hT.uf (by decide)
  have e06 : uI I 91 0 0 91 6 = T 0 6 := hT0.1 6 (by decide) (by decide)
  refine x_enter mfX12_order rfl (Nat.le_of_ble_eq_true rfl) (fun _ => ?_)
  have hL : ∀ (q0 : Rw), QE (T 0 6) q0 (fun k => k) → T 0 6 ≤ 5 → ∀ (f : Nat) (q : Rw) (x : Od) (more : Int) (K : Mem), (more = 1 ∧ 32768 ≤ f + valS (T 0 6) q ∧ PM (T 0 6) q ∧ K 131 = q ∧ ordW T (I 98) q0 = ordF T (I 98) f q x) ∨ (more = 0 ∧ ordW T (I 98) q0 = x ∧ 0 ≤ x.1) → (-1 ≤ x.1 ∧ x.1 ≤ 456600000) → (0 ≤ x.1 → QE (T 0 6) (K 130) x.2) → K 91 0 = 0 → Fr (129 :: 130 :: 131 :: frS) (0 :: 76 :: frF) I K → V G mX12_order (d + 4) 0 0 42 [some (.inr (.inl 91)), some (.inl (x.1)), some (.inl (more)), none, none] [] NO K P (qI NO (fun r I' P' => P' = P ∧ ((5 < T 0 6 ∧ r = -1 ∧ I' = uI I 91 0 0) ∨ (T 0 6 ≤ 5 ∧ r = (ordS T (I 98)).1 ∧ I' 91 0 = 0 ∧ I' 91 76 = T 0 6 ∧ QE (T 0 6) (I' 130) (ordS T (I 98)).2 ∧ Fr (129 :: 130 :: 131 :: frS) (0 :: 76 :: frF) I I')))) := by
    intro q0 hq0 h5 f
    induction f with
    | zero =>
      intro q x more K hm hx hK z0 hFr
      have hb := fun hq : PM (T 0 6) q => valS_bd (q := q) (n := T 0 6) ⟨f6.1, h5⟩ (fun k h0 hk => by have := hq.1 k h0 hk; omega)
      have hTK := hT.fr hFr
      have e6 : K 91 6 = T 0 6 := hTK.1 6 (by decide) (by decide)
      have hm0 : more = 0 ∧ ordW T (I 98) q0 = x ∧ 0 ≤ x.1 := hm.resolve_left (fun q => by have := hb q.2.2.1; omega)
      have hS := ordW_S (r := I 98) hq0
      refine x_iload_n (i := 2) dX12_order_42 rfl rfl ?_
      refine x_if_eq (tgt := 167) dX12_order_43 rfl (fun h43 => ?_) (fun h43 => ?_)
      · refine y_aln (i := 0) dX12_order_167 at91.ne0 rfl rfl ?_
        refine y_aln (i := 0) dX12_order_168 at91.ne0 rfl rfl ?_
        refine y_geti (z := 6) dX12_order_169 frX12_322 cfX12 at91 rfl rfl ?_
        refine y_puti (z := 76) dX12_order_172 frX12_338 cfX12 at91 rfl rfl rfl ?_
        refine x_iload_n (i := 1) dX12_order_175 rfl rfl ?_
        refine x_iret dX12_order_176 rfl ?_
        rw [e6]
        refine ⟨rfl, Or.inr ⟨h5, by rw [← hS.1, hm0.2.1], by rw [uI_eq, u1_ne (by decide)]; exact z0, by rw [uI_eq, u1_eq], ?_, hFr.uf (by decide)⟩⟩
        have hS2 := hS.2 (by rw [hm0.2.1]; exact hm0.2.2)
        rw [hm0.2.1] at hS2
        rw [uI_ne (by decide)]
        exact fun k k0 k1 => (hK hm0.2.2 k k0 k1).trans (hS2 k k0 k1)
      · exact absurd hm0.1 h43
    | succ f ih =>
      intro q x more K hm hx hK z0 hFr
      have hTK := hT.fr hFr
      have e6 : K 91 6 = T 0 6 := hTK.1 6 (by decide) (by decide)
      have e98 : K 98 = I 98 := hFr.1 98 (by decide) (by decide)
      have hS := ordW_S (r := I 98) hq0
      -- the meetings of one order
      have hP : (32768 ≤ (f + 1 : Nat) + valS (T 0 6) q ∧ PM (T 0 6) q ∧ ordW T (I 98) q0 = ordF T (I 98) (f + 1) q x) → ∀ (j : Nat) (k : Int) (r0 : Rw) (K' : Mem), (T 0 6 - k).toNat < j → 0 ≤ k → k ≤ T 0 6 → RE (I 98) r0 → K' 129 = playS T q k r0 → K' 131 = q → (0 ≤ x.1 → QE (T 0 6) (K' 130) x.2) → K' 91 0 = 0 → Fr (129 :: 130 :: 131 :: frS) (0 :: 76 :: frF) I K' → V G mX12_order (d + 4) 0 0 60 [some (.inr (.inl 91)), some (.inl (x.1)), none, some (.inl (k)), none] [] NO K' P (qI NO (fun r I' P' => P' = P ∧ ((5 < T 0 6 ∧ r = -1 ∧ I' = uI I 91 0 0) ∨ (T 0 6 ≤ 5 ∧ r = (ordS T (I 98)).1 ∧ I' 91 0 = 0 ∧ I' 91 76 = T 0 6 ∧ QE (T 0 6) (I' 130) (ordS T (I 98)).2 ∧ Fr (129 :: 130 :: 131 :: frS) (0 :: 76 :: frF) I I')))) := by
        intro hmo j
        induction j with
        | zero => intro k r0 K' hj; omega
        | succ j ihp =>
          intro k r0 K' hj hk hk2 hre hK1 hK2 hK3 z1 hF1
          obtain ⟨hm2, hm3, hm4⟩ := hmo
          have hT1 := hT.fr hF1
          have e16 : K' 91 6 = T 0 6 := hT1.1 6 (by decide) (by decide)
          have e97 : K' 97 = T 6 := hT1.2.2.2.2.2.2
          have hqk := fun h : k < T 0 6 => hm3.1 k hk h
          have hmk := fun h : k < T 0 6 => meet6 hF (hqk h).1 (hqk h).2
          have hro := playS_ok hF hm3 (hre.rw hr) hk2
          have hps := playS_s (T := T) (q := q) (r := r0) hk
          have hx' := ordB_ok hF hr hm3 hx
          have hw0 := worthS_bd hF (playS_ok hF hm3 hr (Int.le_refl _)).rc
          have fin : ∀ (y : Od) (K2 : Mem), y = ordB T (I 98) q x → K2 131 = q → QE (T 0 6) (K2 130) y.2 → K2 91 0 = 0 → Fr (129 :: 130 :: 131 :: frS) (0 :: 76 :: frF) I K2 → V G mX12_order (d + 4) 0 0 159 [some (.inr (.inl 91)), some (.inl (y.1)), none, none, none] [] NO K2 P (qI NO (fun r I' P' => P' = P ∧ ((5 < T 0 6 ∧ r = -1 ∧ I' = uI I 91 0 0) ∨ (T 0 6 ≤ 5 ∧ r = (ordS T (I 98)).1 ∧ I' 91 0 = 0 ∧ I' 91 76 = T 0 6 ∧ QE (T 0 6) (I' 130) (ordS T (I 98)).2 ∧ Fr (129 :: 130 :: 131 :: frS) (0 :: 76 :: frF) I I')))) := fun y K2 hy hq2 ho2 z2 hF2 => by
            have hT2 := hT.fr hF2
            rw [← hy] at hx'
            refine y_aln (i := 0) dX12_order_159 at91.ne0 rfl rfl ?_
            refine x_callVI (c_X12_swaps hW hT2 hF h5 (by rw [hq2]; exact hm3)) dX12_order_160 lkX12_492 mfX12_swaps cfX12 at91 rfl rfl rfl rfl (Nat.le_of_ble_eq_true rfl) (fun r160 I160 P160 hr160 hf160 => ?_)
            obtain ⟨rfl, hs160⟩ := hf160
            rw [hq2] at hs160
            refine x_istore_n (i := 2) dX12_order_163 rfl rfl (Nat.le_of_ble_eq_true rfl) ?_
            refine x_goto (tgt := 42) dX12_order_164 rfl ?_
            refine x_keep [1, 1, 1, 0, 0] ?_
            rcases hs160 with ⟨s1, s2, s3⟩ | ⟨s1, s2, s3, s4, s5⟩
            · rw [s1, s3]
              refine ih q y 0 K2 (Or.inr ⟨rfl, ?_, hx'.1⟩) ⟨by omega, hx'.2⟩ (fun _ => ho2) z2 hF2
              rw [hm4, ordF_p s2, hy]
            · rw [s1]
              have hF3 : Fr (129 :: 130 :: 131 :: frS) (0 :: 76 :: frF) I I160 := by rw [s3]; exact hF2.ua (by decide) (by decide)
              refine ih (nextS (T 0 6) q) y 1 I160 (Or.inl ⟨rfl, by omega, s4, by rw [s3, uA_eq], ?_⟩) ⟨by omega, hx'.2⟩ (fun _ => by rw [s3, uA_ne (by decide)]; exact ho2) (by rw [s3, uA_ne (by decide)]; exact z2) hF3
              rw [hm4, ordF_q s2, hy]
          have hO : ∀ (y : Od), y = ordB T (I 98) q x → y.2 = q → ∀ (j : Nat) (i : Int) (K2 : Mem), (T 0 6 - i).toNat < j → 0 ≤ i → i ≤ T 0 6 → K2 131 = q → (∀ k, 0 ≤ k → k < i → K2 130 k = q k) → K2 91 0 = 0 → Fr (129 :: 130 :: 131 :: frS) (0 :: 76 :: frF) I K2 → V G mX12_order (d + 4) 0 0 130 [some (.inr (.inl 91)), some (.inl (y.1)), none, none, some (.inl (i))] [] NO K2 P (qI NO (fun r I' P' => P' = P ∧ ((5 < T 0 6 ∧ r = -1 ∧ I' = uI I 91 0 0) ∨ (T 0 6 ≤ 5 ∧ r = (ordS T (I 98)).1 ∧ I' 91 0 = 0 ∧ I' 91 76 = T 0 6 ∧ QE (T 0 6) (I' 130) (ordS T (I 98)).2 ∧ Fr (129 :: 130 :: 131 :: frS) (0 :: 76 :: frF) I I')))) := by
            intro y hy hyq j
            induction j with
            | zero => intro i K2 hj; omega
            | succ j iho =>
              intro i K2 hj hi hi2 hq2 ho2 z2 hF2
              have hT2 := hT.fr hF2
              have e26 : K2 91 6 = T 0 6 := hT2.1 6 (by decide) (by decide)
              refine x_iload (i := 4) dX12_order_130 rfl ?_
              refine y_aln (i := 0) dX12_order_132 at91.ne0 rfl rfl ?_
              refine y_geti (z := 6) dX12_order_133 frX12_322 cfX12 at91 rfl rfl ?_
              refine x_icmp_ge (tgt := 159) dX12_order_136 rfl (fun h136 => ?_) (fun h136 => ?_)
              · refine x_keep [1, 1, 0, 0, 0] ?_
                exact fin y K2 hy hq2 (fun k k0 k1 => by rw [hyq]; exact ho2 k k0 (by omega)) z2 hF2
              · refine y_aln (i := 0) dX12_order_139 at91.ne0 rfl rfl ?_
                refine y_getp (z := 77) (v := 130) dX12_order_140 frX12_139 cfX12 at91 rfl rfl (wp (v := 130) hW rfl rfl (by decide)) ?_
                refine x_iload (i := 4) dX12_order_143 rfl ?_
                refine y_aln (i := 0) dX12_order_145 at91.ne0 rfl rfl ?_
                refine y_getp (z := 78) (v := 131) dX12_order_146 frX12_142 cfX12 at91 rfl rfl (wp (v := 131) hW rfl rfl (by decide)) ?_
                refine x_iload (i := 4) dX12_order_149 rfl ?_
                refine x_iald dX12_order_151 ar131 ⟨by omega, by omega⟩ ?_
                refine x_iast dX12_order_152 ar130 ⟨by omega, by omega⟩ ?_
                refine x_iinc dX12_order_153 rfl ⟨by omega, by omega⟩ rfl (Nat.le_of_ble_eq_true rfl) ?_
                refine x_goto (tgt := 130) dX12_order_156 rfl ?_
                refine x_keep [1, 1, 0, 0, 1] ?_
                refine iho (i + 1) _ (by omega) (by omega) (by omega) (by rw [uI_ne (by decide)]; exact hq2) (fun k k0 k1 => ?_) (by rw [uI_ne (by decide)]; exact z2) (hF2.ui (by decide) (by decide))
                rw [uI_eq, hq2]
                by_cases e : k = i
                · rw [e, u1_eq]
                · rw [u1_ne e]; exact ho2 k k0 (by omega)
          refine x_iload_n (i := 3) dX12_order_60 rfl rfl ?_
          refine y_aln (i := 0) dX12_order_61 at91.ne0 rfl rfl ?_
          refine y_geti (z := 6) dX12_order_62 frX12_322 cfX12 at91 rfl rfl ?_
          refine x_icmp_ge (tgt := 111) dX12_order_65 rfl (fun h65 => ?_) (fun h65 => ?_)
          · refine y_aln (i := 0) dX12_order_111 at91.ne0 rfl rfl ?_
            refine y_aln (i := 0) dX12_order_112 at91.ne0 rfl rfl ?_
            refine y_getp (z := 75) (v := 129) dX12_order_113 frX12_136 cfX12 at91 rfl rfl (wp (v := 129) hW rfl rfl (by decide)) ?_
            refine x_callVI (c_X12_allWorth hW hT1 hF ar129 (by rw [hK1]; exact hro.rc)) dX12_order_116 lkX12_368 mfX12_allWorth cfX12 at91 rfl rfl rfl rfl (Nat.le_of_ble_eq_true rfl) (fun r116 I116 P116 hr116 hf116 => ?_)
            obtain ⟨i116, p116, q116⟩ := hf116
            rw [i116, p116, q116]
            have ew : worthS T (K' 129) = worthS T (playS T q (T 0 6) (I 98)) := by
              rw [hK1, show k = T 0 6 by omega]
              exact ((RE.play hF hm3 hre (Int.le_refl _)).worth hF).symm
            rw [ew]
            refine x_istore_n (i := 3) dX12_order_119 rfl rfl (Nat.le_of_ble_eq_true rfl) ?_
            refine x_iload_n (i := 3) dX12_order_120 rfl rfl ?_
            refine x_iload_n (i := 1) dX12_order_121 rfl rfl ?_
            refine x_icmp_le (tgt := 159) dX12_order_122 rfl (fun h122 => ?_) (fun h122 => ?_)
            · refine x_keep [1, 1, 0, 0, 0] ?_
              exact fin x K' (if_neg (by omega)).symm hK2 (hK3 (by omega)) z1 hF1
            · refine x_iload_n (i := 3) dX12_order_125 rfl rfl ?_
              refine x_istore_n (i := 1) dX12_order_126 rfl rfl (Nat.le_of_ble_eq_true rfl) ?_
              refine y_ic dX12_order_127 ⟨by decide, by decide⟩ ?_
              refine x_istore (i := 4) dX12_order_128 rfl (Nat.le_of_ble_eq_true rfl) ?_
              refine x_keep [1, 1, 0, 0, 1] ?_
              exact hO (worthS T (playS T q (T 0 6) (I 98)), q) (if_pos (by omega)).symm rfl _ 0 _ (Nat.lt_succ_self _) (by omega) (by omega) hK2 (fun k k0 k1 => by omega) z1 hF1
          · refine y_aln (i := 0) dX12_order_68 at91.ne0 rfl rfl ?_
            refine y_aln (i := 0) dX12_order_69 at91.ne0 rfl rfl ?_
            refine y_getp (z := 75) (v := 129) dX12_order_70 frX12_136 cfX12 at91 rfl rfl (wp (v := 129) hW rfl rfl (by decide)) ?_
            refine y_aln (i := 0) dX12_order_73 at91.ne0 rfl rfl ?_
            refine y_getp (z := 13) (v := 97) dX12_order_74 frX12_35 cfX12 at91 rfl rfl (wp (v := 97) hW rfl rfl (by decide)) ?_
            refine y_ic dX12_order_77 ⟨by decide, by decide⟩ ?_
            refine y_aln (i := 0) dX12_order_78 at91.ne0 rfl rfl ?_
            refine y_getp (z := 78) (v := 131) dX12_order_79 frX12_142 cfX12 at91 rfl rfl (wp (v := 131) hW rfl rfl (by decide)) ?_
            refine x_iload_n (i := 3) dX12_order_82 rfl rfl ?_
            refine x_iald dX12_order_83 ar131 ⟨by omega, by omega⟩ ?_
            rw [hK2]
            refine x_imul dX12_order_84 (by have := hqk (by omega); exact ⟨by omega, by omega⟩) ?_
            refine x_iald dX12_order_85 ar97 (by have := hqk (by omega); exact ⟨by omega, by omega⟩) ?_
            rw [e97]
            refine y_aln (i := 0) dX12_order_86 at91.ne0 rfl rfl ?_
            refine y_getp (z := 13) (v := 97) dX12_order_87 frX12_35 cfX12 at91 rfl rfl (wp (v := 97) hW rfl rfl (by decide)) ?_
            refine y_ic dX12_order_90 ⟨by decide, by decide⟩ ?_
            refine y_aln (i := 0) dX12_order_91 at91.ne0 rfl rfl ?_
            refine y_getp (z := 78) (v := 131) dX12_order_92 frX12_142 cfX12 at91 rfl rfl (wp (v := 131) hW rfl rfl (by decide)) ?_
            refine x_iload_n (i := 3) dX12_order_95 rfl rfl ?_
            refine x_iald dX12_order_96 ar131 ⟨by omega, by omega⟩ ?_
            rw [hK2]
            refine x_imul dX12_order_97 (by have := hqk (by omega); exact ⟨by omega, by omega⟩) ?_
            refine y_ic dX12_order_98 ⟨by decide, by decide⟩ ?_
            refine x_iadd dX12_order_99 (by have := hqk (by omega); exact ⟨by omega, by omega⟩) ?_
            refine x_iald dX12_order_100 ar97 (by have := hqk (by omega); exact ⟨by omega, by omega⟩) ?_
            rw [e97]
            refine x_callVI (c_X12_meet0 hW hT1 hF ar129 (by decide) (by rw [hK1]; exact hro) (hmk (by omega)).1 (hmk (by omega)).2.1 (hmk (by omega)).2.2) dX12_order_101 lkX12_478 mfX12_meet0 cfX12 at91 rfl rfl rfl rfl (Nat.le_of_ble_eq_true rfl) (fun r101 I101 P101 hr101 hf101 => ?_)
            obtain ⟨rfl, p101, o101, fr101⟩ := hf101
            refine x_pop dX12_order_104 rfl ?_
            refine x_iinc dX12_order_105 rfl ⟨by omega, by omega⟩ rfl (Nat.le_of_ble_eq_true rfl) ?_
            refine x_goto (tgt := 60) dX12_order_108 rfl ?_
            refine x_keep [1, 1, 0, 1, 0] ?_
            refine ihp (k + 1) r0 _ (by omega) (by omega) (by omega) hre (by rw [o101, hK1, hps]) ((fr101.1 131 (by decide) (by decide)).trans hK2) (by rw [fr101.1 130 (by decide) (by decide)]; exact hK3) ((fr101.2 0 (by decide)).trans z1) (hF1.tr (fr101.mo (by decide) (by decide)))
      refine x_iload_n (i := 2) dX12_order_42 rfl rfl ?_
      refine x_if_eq (tgt := 167) dX12_order_43 rfl (fun h43 => ?_) (fun h43 => ?_)
      · refine y_aln (i := 0) dX12_order_167 at91.ne0 rfl rfl ?_
        refine y_aln (i := 0) dX12_order_168 at91.ne0 rfl rfl ?_
        refine y_geti (z := 6) dX12_order_169 frX12_322 cfX12 at91 rfl rfl ?_
        refine y_puti (z := 76) dX12_order_172 frX12_338 cfX12 at91 rfl rfl rfl ?_
        refine x_iload_n (i := 1) dX12_order_175 rfl rfl ?_
        refine x_iret dX12_order_176 rfl ?_
        have hm0 := hm.resolve_left (fun q => by have := q.1; omega)
        rw [e6]
        refine ⟨rfl, Or.inr ⟨h5, by rw [← hS.1, hm0.2.1], by rw [uI_eq, u1_ne (by decide)]; exact z0, by rw [uI_eq, u1_eq], ?_, hFr.uf (by decide)⟩⟩
        have hS2 := hS.2 (by rw [hm0.2.1]; exact hm0.2.2)
        rw [hm0.2.1] at hS2
        rw [uI_ne (by decide)]
        exact fun k k0 k1 => (hK hm0.2.2 k k0 k1).trans (hS2 k k0 k1)
      · have hm1 := hm.resolve_right (fun q => by have := q.1; omega)
        refine y_aln (i := 0) dX12_order_46 at91.ne0 rfl rfl ?_
        refine y_aln (i := 0) dX12_order_47 at91.ne0 rfl rfl ?_
        refine y_getp (z := 14) (v := 98) dX12_order_48 frX12_38 cfX12 at91 rfl rfl (wp (v := 98) hW rfl rfl (by decide)) ?_
        refine y_aln (i := 0) dX12_order_51 at91.ne0 rfl rfl ?_
        refine y_getp (z := 75) (v := 129) dX12_order_52 frX12_136 cfX12 at91 rfl rfl (wp (v := 129) hW rfl rfl (by decide)) ?_
        refine x_callVV (c_X12_copies ar98 ar129 (by decide) (by decide) (by decide)) dX12_order_55 lkX12_328 mfX12_copies cfX12 at91 rfl rfl rfl rfl (Nat.le_of_ble_eq_true rfl) (fun n55 I55 P55 hf55 => ?_)
        obtain ⟨rfl, hI55, rfl⟩ := hf55
        have re55 : RE (I 98) (I55 129) := fun c h0 h1 => by rw [hI55, uA_eq, if_pos (by omega), e98]
        refine y_ic dX12_order_58 ⟨by decide, by decide⟩ ?_
        refine x_istore_n (i := 3) dX12_order_59 rfl rfl (Nat.le_of_ble_eq_true rfl) ?_
        refine x_keep [1, 1, 0, 1, 0] ?_
        exact hP ⟨hm1.2.1, hm1.2.2.1, hm1.2.2.2.2⟩ _ 0 (I55 129) _ (Nat.lt_succ_self _) (by omega) f6.1 re55 rfl (by rw [hI55, uA_ne (by decide)]; exact hm1.2.2.2.1) (by rw [hI55, uA_ne (by decide)]; exact hK) (by rw [hI55, uA_ne (by decide)]; exact z0) (by rw [hI55]; exact hFr.ua (by decide) (by decide))
  have hI : T 0 6 ≤ 5 → ∀ (j : Nat) (k : Int) (K : Mem), (T 0 6 - k).toNat < j → 0 ≤ k → k ≤ T 0 6 → (∀ i, 0 ≤ i → i < k → K 131 i = i) → K 91 0 = 0 → Fr (129 :: 130 :: 131 :: frS) (0 :: 76 :: frF) I K → V G mX12_order (d + 4) 0 0 17 [some (.inr (.inl 91)), some (.inl (k)), none, none, none] [] NO K P (qI NO (fun r I' P' => P' = P ∧ ((5 < T 0 6 ∧ r = -1 ∧ I' = uI I 91 0 0) ∨ (T 0 6 ≤ 5 ∧ r = (ordS T (I 98)).1 ∧ I' 91 0 = 0 ∧ I' 91 76 = T 0 6 ∧ QE (T 0 6) (I' 130) (ordS T (I 98)).2 ∧ Fr (129 :: 130 :: 131 :: frS) (0 :: 76 :: frF) I I')))) := by
    intro h5 j
    induction j with
    | zero => intro k K hj; omega
    | succ j ih =>
      intro k K hj hk hk2 hq z0 hFr
      have hTK := hT.fr hFr
      have e6 : K 91 6 = T 0 6 := hTK.1 6 (by decide) (by decide)
      refine x_iload_n (i := 1) dX12_order_17 rfl rfl ?_
      refine y_aln (i := 0) dX12_order_18 at91.ne0 rfl rfl ?_
      refine y_geti (z := 6) dX12_order_19 frX12_322 cfX12 at91 rfl rfl ?_
      refine x_icmp_ge (tgt := 38) dX12_order_22 rfl (fun h22 => ?_) (fun h22 => ?_)
      · refine y_ic dX12_order_38 ⟨by decide, by decide⟩ ?_
        refine x_istore_n (i := 1) dX12_order_39 rfl rfl (Nat.le_of_ble_eq_true rfl) ?_
        refine y_ic dX12_order_40 ⟨by decide, by decide⟩ ?_
        refine x_istore_n (i := 2) dX12_order_41 rfl rfl (Nat.le_of_ble_eq_true rfl) ?_
        refine x_keep [1, 1, 1, 0, 0] ?_
        have hQ : QE (T 0 6) (K 131) (fun k => k) := fun i i0 i1 => hq i i0 (by omega)
        have hpm : PM (T 0 6) (K 131) := QE.pm (fun i i0 i1 => (hQ i i0 i1).symm) (PM_id _)
        have hv := valS_bd (q := K 131) (n := T 0 6) ⟨f6.1, h5⟩ (fun k h0 hk => by have := hpm.1 k h0 hk; omega)
        exact hL (K 131) hQ h5 32768 (K 131) (-1, K 131) 1 K (Or.inl ⟨rfl, by omega, hpm, rfl, rfl⟩) ⟨by show (-1 : Int) ≤ -1; decide, by show (-1 : Int) ≤ 456600000; decide⟩ (fun q => absurd q (by show ¬ (0 : Int) ≤ -1; decide)) z0 hFr
      · refine y_aln (i := 0) dX12_order_25 at91.ne0 rfl rfl ?_
        refine y_getp (z := 78) (v := 131) dX12_order_26 frX12_142 cfX12 at91 rfl rfl (wp (v := 131) hW rfl rfl (by decide)) ?_
        refine x_iload_n (i := 1) dX12_order_29 rfl rfl ?_
        refine x_iload_n (i := 1) dX12_order_30 rfl rfl ?_
        refine x_iast dX12_order_31 ar131 ⟨by omega, by omega⟩ ?_
        refine x_iinc dX12_order_32 rfl ⟨by omega, by omega⟩ rfl (Nat.le_of_ble_eq_true rfl) ?_
        refine x_goto (tgt := 17) dX12_order_35 rfl ?_
        refine x_keep [1, 1, 0, 0, 0] ?_
        refine ih (k + 1) _ (by omega) (by omega) (by omega) (fun i i0 i1 => ?_) (by rw [uI_ne (by decide)]; exact z0) (hFr.ui (by decide) (by decide))
        rw [uI_eq]
        by_cases e : i = k
        · rw [e, u1_eq]
        · rw [u1_ne e]; exact hq i i0 (by omega)
  refine y_aln (i := 0) dX12_order_0 at91.ne0 rfl rfl ?_
  refine y_ic dX12_order_1 ⟨by decide, by decide⟩ ?_
  refine y_puti (z := 0) dX12_order_2 frX12_184 cfX12 at91 rfl rfl rfl ?_
  refine y_aln (i := 0) dX12_order_5 at91.ne0 rfl rfl ?_
  refine y_geti (z := 6) dX12_order_6 frX12_322 cfX12 at91 rfl rfl ?_
  refine y_ic dX12_order_9 ⟨by decide, by decide⟩ ?_
  refine x_icmp_le (tgt := 15) dX12_order_10 rfl (fun h10 => ?_) (fun h10 => ?_)
  · refine y_ic dX12_order_15 ⟨by decide, by decide⟩ ?_
    refine x_istore_n (i := 1) dX12_order_16 rfl rfl (Nat.le_of_ble_eq_true rfl) ?_
    refine x_keep [1, 1, 0, 0, 0] ?_
    exact hI (by omega) _ 0 _ (Nat.lt_succ_self _) (by omega) f6.1 (fun i i0 i1 => by omega) (by rw [uI_eq, u1_eq]) (Fr.rf.uf (by decide))
  · refine y_ic dX12_order_13 ⟨by decide, by decide⟩ ?_
    refine x_iret dX12_order_14 rfl ?_
    exact ⟨rfl, Or.inl ⟨by omega, rfl, rfl⟩⟩
end

