/-! ===== the class: orders, purse, what is kept ===== -/
abbrev sO : Nat → Prop := fun a => a = 83 ∨ a = 84
abbrev sU : Nat → Prop := fun a => a = 77 ∨ a = 78 ∨ a = 79
section
variable {G : HX} {d : Nat} {I : Mem} {P : Ptr} {T : Tn}
theorem c_X4_swap {i j : Int} (hW : WP P) (hi : 0 ≤ i ∧ i < 5) (hj : 0 ≤ j ∧ j < 5) : Cv G mX4_swap d 0 0 [.inr (.inl 83), .inl i, .inl j] NO I P (qV (fun n I' P' => n = NO ∧ P' = P ∧ I' = uA I 84 (swS (I 84) i j))) := by
  refine x_enter mfX4_swap rfl (Nat.le_of_ble_eq_true rfl) (fun _ => ?_)
  refine y_aln (i := 0) dX4_swap_0 at83.ne0 rfl rfl ?_
  refine y_getp (z := 0) (v := 84) dX4_swap_1 frX4_9 cfX4 at83 rfl rfl (wp (v := 84) hW rfl rfl (by decide)) ?_
  refine x_iload_n (i := 1) dX4_swap_4 rfl rfl ?_
  refine x_iald dX4_swap_5 ar84 ⟨by omega, by omega⟩ ?_
  refine x_istore_n (i := 3) dX4_swap_6 rfl rfl (Nat.le_of_ble_eq_true rfl) ?_
  refine y_aln (i := 0) dX4_swap_7 at83.ne0 rfl rfl ?_
  refine y_getp (z := 0) (v := 84) dX4_swap_8 frX4_9 cfX4 at83 rfl rfl (wp (v := 84) hW rfl rfl (by decide)) ?_
  refine x_iload_n (i := 1) dX4_swap_11 rfl rfl ?_
  refine y_aln (i := 0) dX4_swap_12 at83.ne0 rfl rfl ?_
  refine y_getp (z := 0) (v := 84) dX4_swap_13 frX4_9 cfX4 at83 rfl rfl (wp (v := 84) hW rfl rfl (by decide)) ?_
  refine x_iload_n (i := 2) dX4_swap_16 rfl rfl ?_
  refine x_iald dX4_swap_17 ar84 ⟨by omega, by omega⟩ ?_
  refine x_iast dX4_swap_18 ar84 ⟨by omega, by omega⟩ ?_
  refine y_aln (i := 0) dX4_swap_19 at83.ne0 rfl rfl ?_
  refine y_getp (z := 0) (v := 84) dX4_swap_20 frX4_9 cfX4 at83 rfl rfl (wp (v := 84) hW rfl rfl (by decide)) ?_
  refine x_iload_n (i := 2) dX4_swap_23 rfl rfl ?_
  refine x_iload_n (i := 3) dX4_swap_24 rfl rfl ?_
  refine x_iast dX4_swap_25 ar84 ⟨by omega, by omega⟩ ?_
  refine x_vret dX4_swap_26 rfl ?_
  refine ⟨rfl, rfl, mem_eq (fun c => ?_) (fun x hx => by rw [uI_ne hx, uI_ne hx])⟩
  rw [uI_eq, uI_eq]
  rfl
theorem c_X4_goOn {n : Int} (hW : WP P) (hn : I 83 1 = n) (h5 : 0 ≤ n ∧ n ≤ 5) (hq : PM n (I 84)) : Cv G mX4_goOn (d + 1) 0 0 [.inr (.inl 83)] NO I P (qI NO (fun r I' P' => P' = P ∧ ((r = 0 ∧ pivS n (I 84) = -1 ∧ I' = I) ∨ (r = 1 ∧ pivS n (I 84) ≠ -1 ∧ I' = uA I 84 (nextS n (I 84)) ∧ PM n (nextS n (I 84)) ∧ valS n (I 84) + 1 ≤ valS n (nextS n (I 84)))))) := by
  refine x_enter mfX4_goOn rfl (Nat.le_of_ble_eq_true rfl) (fun _ => ?_)
  have hR : ∀ (i j : Int), (0 ≤ i ∧ i + 1 < n) → (i ≤ j ∧ j < n) → ∀ (m : Nat) (x y : Int) (K : Mem), (y + 1 - x).toNat < m → i + 1 ≤ x → x + y = n + i → y < n → x ≤ y + 2 → (∀ k, K 84 k = if (i < k ∧ k < x) ∨ (y < k ∧ k < n) then swS (I 84) i j (n + i - k) else swS (I 84) i j k) → (∀ a, a ≠ 84 → K a = I a) → (∀ K' : Mem, K' = uA I 84 (nxS n (I 84) i j) → V G mX4_goOn (d + 1) 0 0 115 [none, none, none, none, none] [] NO K' P (qI NO (fun r I' P' => P' = P ∧ ((r = 0 ∧ pivS n (I 84) = -1 ∧ I' = I) ∨ (r = 1 ∧ pivS n (I 84) ≠ -1 ∧ I' = uA I 84 (nextS n (I 84)) ∧ PM n (nextS n (I 84)) ∧ valS n (I 84) + 1 ≤ valS n (nextS n (I 84))))))) → V G mX4_goOn (d + 1) 0 0 93 [some (.inr (.inl 83)), none, none, some (.inl (y)), some (.inl (x))] [] NO K P (qI NO (fun r I' P' => P' = P ∧ ((r = 0 ∧ pivS n (I 84) = -1 ∧ I' = I) ∨ (r = 1 ∧ pivS n (I 84) ≠ -1 ∧ I' = uA I 84 (nextS n (I 84)) ∧ PM n (nextS n (I 84)) ∧ valS n (I 84) + 1 ≤ valS n (nextS n (I 84)))))) := by
    intro i j hi hj m
    induction m with
    | zero => intro x y K hm; omega
    | succ m ih =>
      intro x y K hm hx hxy hy hxy2 hK hKo k
      refine x_iload (i := 4) dX4_goOn_93 rfl ?_
      refine x_iload_n (i := 3) dX4_goOn_95 rfl rfl ?_
      refine x_icmp_ge (tgt := 115) dX4_goOn_96 rfl (fun h96 => ?_) (fun h96 => ?_)
      · refine x_keep [0, 0, 0, 0, 0] ?_
        refine k _ (mem_eq (fun c => ?_) hKo)
        rw [hK c]
        unfold nxS
        by_cases q : i < c ∧ c < n
        · rw [if_pos q]
          by_cases q2 : (i < c ∧ c < x) ∨ (y < c ∧ c < n)
          · rw [if_pos q2]
          · rw [if_neg q2, show n + i - c = c by omega]
        · rw [if_neg q, if_neg (by omega)]
      · refine y_aln (i := 0) dX4_goOn_99 at83.ne0 rfl rfl ?_
        refine x_iload (i := 4) dX4_goOn_100 rfl ?_
        refine x_iload_n (i := 3) dX4_goOn_102 rfl rfl ?_
        refine x_callVV (c_X4_swap hW (by omega) (by omega)) dX4_goOn_103 lkX4_25 mfX4_swap cfX4 at83 rfl rfl rfl rfl (Nat.le_of_ble_eq_true rfl) (fun n103 I103 P103 hf103 => ?_)
        obtain ⟨rfl, rfl, hI103⟩ := hf103
        refine x_iinc dX4_goOn_106 rfl ⟨by omega, by omega⟩ rfl (Nat.le_of_ble_eq_true rfl) ?_
        refine x_iinc dX4_goOn_109 rfl ⟨by omega, by omega⟩ rfl (Nat.le_of_ble_eq_true rfl) ?_
        refine x_goto (tgt := 93) dX4_goOn_112 rfl ?_
        refine x_keep [1, 0, 0, 1, 1] ?_
        refine ih (x + 1) (y - 1) _ (by omega) (by omega) (by omega) (by omega) (by omega) (fun c => ?_) (fun a ha => by rw [hI103, uA_ne ha]; exact hKo a ha) k
        have ex := hK x
        have ey := hK y
        rw [if_neg (by omega)] at ex ey
        rw [hI103, uA_eq]
        show (if c = y then K 84 x else if c = x then K 84 y else K 84 c) = _
        by_cases q1 : c = y
        · rw [if_pos q1, if_pos (by omega), ex, show n + i - c = x by omega]
        · by_cases q2 : c = x
          · rw [if_neg q1, if_pos q2, if_pos (by omega), ey, show n + i - c = y by omega]
          · rw [if_neg q1, if_neg q2, hK c]
            by_cases q3 : (i < c ∧ c < x) ∨ (y < c ∧ c < n)
            · rw [if_pos q3, if_pos (by omega)]
            · rw [if_neg q3, if_neg (by omega)]
  have hJ : ∀ (i : Int), (0 ≤ i ∧ i + 1 < n) → I 84 i ≤ I 84 (i + 1) → (∀ x, i < x → x + 1 < n → I 84 (x + 1) < I 84 x) → ∀ (m : Nat) (j : Int), (j + 1).toNat < m → i + 1 ≤ j → j < n → (∀ y, j < y → y < n → I 84 y < I 84 i) → V G mX4_goOn (d + 1) 0 0 47 [some (.inr (.inl 83)), some (.inl (i)), some (.inl (j)), none, none] [] NO I P (qI NO (fun r I' P' => P' = P ∧ ((r = 0 ∧ pivS n (I 84) = -1 ∧ I' = I) ∨ (r = 1 ∧ pivS n (I 84) ≠ -1 ∧ I' = uA I 84 (nextS n (I 84)) ∧ PM n (nextS n (I 84)) ∧ valS n (I 84) + 1 ≤ valS n (nextS n (I 84)))))) := by
    intro i hi h1 h2 m
    induction m with
    | zero => intro j hm; omega
    | succ m ih =>
      intro j hm hj hj2 h4
      have hz : (j ≤ i + 1 ∨ ¬ I 84 j < I 84 i) → I 84 i ≤ I 84 j := fun q => by
        rcases q with q | q
        · rw [show j = i + 1 by omega]; exact h1
        · omega
      have hfin : I 84 i ≤ I 84 j → V G mX4_goOn (d + 1) 0 0 75 [some (.inr (.inl 83)), some (.inl (i)), some (.inl (j)), none, none] [] NO I P (qI NO (fun r I' P' => P' = P ∧ ((r = 0 ∧ pivS n (I 84) = -1 ∧ I' = I) ∨ (r = 1 ∧ pivS n (I 84) ≠ -1 ∧ I' = uA I 84 (nextS n (I 84)) ∧ PM n (nextS n (I 84)) ∧ valS n (I 84) + 1 ≤ valS n (nextS n (I 84)))))) := fun h3 => by
        refine y_aln (i := 0) dX4_goOn_75 at83.ne0 rfl rfl ?_
        refine x_iload_n (i := 1) dX4_goOn_76 rfl rfl ?_
        refine x_iload_n (i := 2) dX4_goOn_77 rfl rfl ?_
        refine x_callVV (c_X4_swap hW (by omega) (by omega)) dX4_goOn_78 lkX4_25 mfX4_swap cfX4 at83 rfl rfl rfl rfl (Nat.le_of_ble_eq_true rfl) (fun n78 I78 P78 hf78 => ?_)
        obtain ⟨rfl, rfl, hI78⟩ := hf78
        have e78 : I78 83 1 = n := by rw [hI78, uA_ne (by decide)]; exact hn
        have hnx := next_is hq (by omega) hi h1 h2 ⟨by omega, hj2⟩ h3 h4
        refine y_aln (i := 0) dX4_goOn_81 at83.ne0 rfl rfl ?_
        refine y_geti (z := 1) dX4_goOn_82 frX4_21 cfX4 at83 rfl rfl ?_
        rw [e78]
        refine y_ic dX4_goOn_85 ⟨by decide, by decide⟩ ?_
        refine x_isub dX4_goOn_86 ⟨by omega, by omega⟩ ?_
        refine x_istore_n (i := 3) dX4_goOn_87 rfl rfl (Nat.le_of_ble_eq_true rfl) ?_
        refine x_iload_n (i := 1) dX4_goOn_88 rfl rfl ?_
        refine y_ic dX4_goOn_89 ⟨by decide, by decide⟩ ?_
        refine x_iadd dX4_goOn_90 ⟨by omega, by omega⟩ ?_
        refine x_istore (i := 4) dX4_goOn_91 rfl (Nat.le_of_ble_eq_true rfl) ?_
        refine x_keep [1, 0, 0, 1, 1] ?_
        refine hR i j hi ⟨by omega, hj2⟩ _ _ _ _ (Nat.lt_succ_self _) (by omega) (by omega) (by omega) (by omega) (fun k => ?_) (fun a ha => by rw [hI78, uA_ne ha]) (fun K hK => ?_)
        · rw [hI78, uA_eq, if_neg (by omega)]
        · refine y_ic dX4_goOn_115 ⟨by decide, by decide⟩ ?_
          refine x_zret dX4_goOn_116 (by omega) rfl ?_
          rw [← hnx.2.1] at hK
          exact ⟨rfl, Or.inr ⟨rfl, by rw [hnx.1]; omega, hK, hnx.2.2⟩⟩
      refine x_iload_n (i := 2) dX4_goOn_47 rfl rfl ?_
      refine x_iload_n (i := 1) dX4_goOn_48 rfl rfl ?_
      refine y_ic dX4_goOn_49 ⟨by decide, by decide⟩ ?_
      refine x_iadd dX4_goOn_50 ⟨by omega, by omega⟩ ?_
      refine x_icmp_le (tgt := 75) dX4_goOn_51 rfl (fun h51 => ?_) (fun h51 => ?_)
      · refine x_keep [1, 1, 1, 0, 0] ?_
        exact hfin (hz (by omega))
      · refine y_aln (i := 0) dX4_goOn_54 at83.ne0 rfl rfl ?_
        refine y_getp (z := 0) (v := 84) dX4_goOn_55 frX4_9 cfX4 at83 rfl rfl (wp (v := 84) hW rfl rfl (by decide)) ?_
        refine x_iload_n (i := 2) dX4_goOn_58 rfl rfl ?_
        refine x_iald dX4_goOn_59 ar84 ⟨by omega, by omega⟩ ?_
        refine y_aln (i := 0) dX4_goOn_60 at83.ne0 rfl rfl ?_
        refine y_getp (z := 0) (v := 84) dX4_goOn_61 frX4_9 cfX4 at83 rfl rfl (wp (v := 84) hW rfl rfl (by decide)) ?_
        refine x_iload_n (i := 1) dX4_goOn_64 rfl rfl ?_
        refine x_iald dX4_goOn_65 ar84 ⟨by omega, by omega⟩ ?_
        refine x_icmp_ge (tgt := 75) dX4_goOn_66 rfl (fun h66 => ?_) (fun h66 => ?_)
        · refine x_keep [1, 1, 1, 0, 0] ?_
          exact hfin (hz (by omega))
        · refine x_iinc dX4_goOn_69 rfl ⟨by omega, by omega⟩ rfl (Nat.le_of_ble_eq_true rfl) ?_
          refine x_goto (tgt := 47) dX4_goOn_72 rfl ?_
          refine x_keep [1, 1, 1, 0, 0] ?_
          exact ih (j - 1) (by omega) (by omega) (by omega) (fun y y0 y1 => by by_cases e : y = j; (rw [e]; omega); exact h4 y (by omega) y1)
  have hI : ∀ (m : Nat) (i : Int), (i + 2).toNat < m → -2 ≤ i → i + 1 < n ∨ i < 0 → (∀ x, i < x → 0 ≤ x → x + 1 < n → I 84 (x + 1) < I 84 x) → V G mX4_goOn (d + 1) 0 0 7 [some (.inr (.inl 83)), some (.inl (i)), none, none, none] [] NO I P (qI NO (fun r I' P' => P' = P ∧ ((r = 0 ∧ pivS n (I 84) = -1 ∧ I' = I) ∨ (r = 1 ∧ pivS n (I 84) ≠ -1 ∧ I' = uA I 84 (nextS n (I 84)) ∧ PM n (nextS n (I 84)) ∧ valS n (I 84) + 1 ≤ valS n (nextS n (I 84)))))) := by
    intro m
    induction m with
    | zero => intro i hm; omega
    | succ m ih =>
      intro i hm hi hi2 h2
      refine x_iload_n (i := 1) dX4_goOn_7 rfl rfl ?_
      refine x_if_lt (tgt := 34) dX4_goOn_8 rfl (fun h8 => ?_) (fun h8 => ?_)
      · refine x_iload_n (i := 1) dX4_goOn_34 rfl rfl ?_
        refine x_if_ge (tgt := 40) dX4_goOn_35 rfl (fun h35 => ?_) (fun h35 => ?_)
        · refine y_aln (i := 0) dX4_goOn_40 at83.ne0 rfl rfl ?_
          refine y_geti (z := 1) dX4_goOn_41 frX4_21 cfX4 at83 rfl rfl ?_
          rw [hn]
          refine y_ic dX4_goOn_44 ⟨by decide, by decide⟩ ?_
          refine x_isub dX4_goOn_45 ⟨by omega, by omega⟩ ?_
          refine x_istore_n (i := 2) dX4_goOn_46 rfl rfl (Nat.le_of_ble_eq_true rfl) ?_
          refine x_keep [1, 1, 1, 0, 0] ?_
          exact hJ i ⟨by omega, by omega⟩ (by omega) (fun x x0 x1 => h2 x x0 (by omega) x1) _ _ (Nat.lt_succ_self _) (by omega) (by omega) (fun y y0 y1 => by omega)
        · refine y_ic dX4_goOn_38 ⟨by decide, by decide⟩ ?_
          refine x_zret dX4_goOn_39 (by omega) rfl ?_
          exact ⟨rfl, Or.inl ⟨rfl, next_no (fun x x0 x1 => h2 x (by omega) x0 x1), rfl⟩⟩
      · refine y_aln (i := 0) dX4_goOn_11 at83.ne0 rfl rfl ?_
        refine y_getp (z := 0) (v := 84) dX4_goOn_12 frX4_9 cfX4 at83 rfl rfl (wp (v := 84) hW rfl rfl (by decide)) ?_
        refine x_iload_n (i := 1) dX4_goOn_15 rfl rfl ?_
        refine x_iald dX4_goOn_16 ar84 ⟨by omega, by omega⟩ ?_
        refine y_aln (i := 0) dX4_goOn_17 at83.ne0 rfl rfl ?_
        refine y_getp (z := 0) (v := 84) dX4_goOn_18 frX4_9 cfX4 at83 rfl rfl (wp (v := 84) hW rfl rfl (by decide)) ?_
        refine x_iload_n (i := 1) dX4_goOn_21 rfl rfl ?_
        refine y_ic dX4_goOn_22 ⟨by decide, by decide⟩ ?_
        refine x_iadd dX4_goOn_23 ⟨by omega, by omega⟩ ?_
        refine x_iald dX4_goOn_24 ar84 ⟨by omega, by omega⟩ ?_
        refine x_icmp_le (tgt := 34) dX4_goOn_25 rfl (fun h25 => ?_) (fun h25 => ?_)
        · refine x_iload_n (i := 1) dX4_goOn_34 rfl rfl ?_
          refine x_if_ge (tgt := 40) dX4_goOn_35 rfl (fun h35 => ?_) (fun h35 => ?_)
          · refine y_aln (i := 0) dX4_goOn_40 at83.ne0 rfl rfl ?_
            refine y_geti (z := 1) dX4_goOn_41 frX4_21 cfX4 at83 rfl rfl ?_
            rw [hn]
            refine y_ic dX4_goOn_44 ⟨by decide, by decide⟩ ?_
            refine x_isub dX4_goOn_45 ⟨by omega, by omega⟩ ?_
            refine x_istore_n (i := 2) dX4_goOn_46 rfl rfl (Nat.le_of_ble_eq_true rfl) ?_
            refine x_keep [1, 1, 1, 0, 0] ?_
            exact hJ i ⟨by omega, by omega⟩ (by omega) (fun x x0 x1 => h2 x x0 (by omega) x1) _ _ (Nat.lt_succ_self _) (by omega) (by omega) (fun y y0 y1 => by omega)
          · refine y_ic dX4_goOn_38 ⟨by decide, by decide⟩ ?_
            refine x_zret dX4_goOn_39 (by omega) rfl ?_
            exact ⟨rfl, Or.inl ⟨rfl, next_no (fun x x0 x1 => h2 x (by omega) x0 x1), rfl⟩⟩
        · refine x_iinc dX4_goOn_28 rfl ⟨by omega, by omega⟩ rfl (Nat.le_of_ble_eq_true rfl) ?_
          refine x_goto (tgt := 7) dX4_goOn_31 rfl ?_
          refine x_keep [1, 1, 0, 0, 0] ?_
          exact ih (i - 1) (by omega) (by omega) (by omega) (fun x x0 x1 x2 => by by_cases e : x = i; (rw [e]; omega); exact h2 x (by omega) x1 x2)
  refine y_aln (i := 0) dX4_goOn_0 at83.ne0 rfl rfl ?_
  refine y_geti (z := 1) dX4_goOn_1 frX4_21 cfX4 at83 rfl rfl ?_
  rw [hn]
  refine y_ic dX4_goOn_4 ⟨by decide, by decide⟩ ?_
  refine x_isub dX4_goOn_5 ⟨by omega, by omega⟩ ?_
  refine x_istore_n (i := 1) dX4_goOn_6 rfl rfl (Nat.le_of_ble_eq_true rfl) ?_
  refine x_keep [1, 1, 0, 0, 0] ?_
  exact hI _ _ (Nat.lt_succ_self _) (by omega) (by omega) (fun x x0 x1 x2 => by omega)
theorem c_X4_begin {k : Int} (hW : WP P) (hk : 0 ≤ k) : Cv G mX4_begin (d + 1) 0 0 [.inr (.inl 83), .inl k] NO I P (qV (fun n I' P' => n = NO ∧ P' = P ∧ Fc sO I I' ∧ I' 83 1 = min k 5 ∧ ∀ c, 0 ≤ c → c < min k 5 → I' 84 c = c)) := by
  refine x_enter mfX4_begin rfl (Nat.le_of_ble_eq_true rfl) (fun _ => ?_)
  refine x_rng 1 rfl (fun hrm => ?_)
  obtain ⟨hrm1, hrm2⟩ := hrm
  have hL : ∀ (j : Nat) (c : Int) (K : Mem), (5 - c).toNat < j → 0 ≤ c → c ≤ 5 → Fc sO I K → K 83 1 = min k 5 → c ≤ min k 5 → (∀ x, 0 ≤ x → x < c → K 84 x = x) → V G mX4_begin (d + 1) 0 0 11 [some (.inr (.inl 83)), none, some (.inl (c))] [] NO K P (qV (fun n I' P' => n = NO ∧ P' = P ∧ Fc sO I I' ∧ I' 83 1 = min k 5 ∧ ∀ c, 0 ≤ c → c < min k 5 → I' 84 c = c)) := by
    intro j
    induction j with
    | zero => intro c K hj; omega
    | succ j ih =>
      intro c K hj hc hc2 hFr hm hcm hK
      refine x_iload_n (i := 2) dX4_begin_11 rfl rfl ?_
      refine y_aln (i := 0) dX4_begin_12 at83.ne0 rfl rfl ?_
      refine y_geti (z := 1) dX4_begin_13 frX4_21 cfX4 at83 rfl rfl ?_
      refine x_icmp_ge (tgt := 32) dX4_begin_16 rfl (fun h16 => ?_) (fun h16 => ?_)
      · refine x_vret dX4_begin_32 rfl ?_
        exact ⟨rfl, rfl, hFr, hm, fun x x0 x1 => hK x x0 (by omega)⟩
      · refine y_aln (i := 0) dX4_begin_19 at83.ne0 rfl rfl ?_
        refine y_getp (z := 0) (v := 84) dX4_begin_20 frX4_9 cfX4 at83 rfl rfl (wp (v := 84) hW rfl rfl (by decide)) ?_
        refine x_iload_n (i := 2) dX4_begin_23 rfl rfl ?_
        refine x_iload_n (i := 2) dX4_begin_24 rfl rfl ?_
        refine x_iast dX4_begin_25 ar84 ⟨by omega, by omega⟩ ?_
        refine x_iinc dX4_begin_26 rfl ⟨by omega, by omega⟩ rfl (Nat.le_of_ble_eq_true rfl) ?_
        refine x_goto (tgt := 11) dX4_begin_29 rfl ?_
        refine x_keep [1, 0, 1] ?_
        refine ih (c + 1) _ (by omega) (by omega) (by omega) (hFr.ui (Or.inr rfl)) (by rw [uI_ne (by decide)]; exact hm) (by omega) (fun x x0 x1 => ?_)
        rw [uI_eq]
        by_cases e : x = c
        · rw [e, u1_eq]
        · rw [u1_ne e]; exact hK x x0 (by omega)
  refine y_aln (i := 0) dX4_begin_0 at83.ne0 rfl rfl ?_
  refine x_iload_n (i := 1) dX4_begin_1 rfl rfl ?_
  refine y_ic dX4_begin_2 ⟨by decide, by decide⟩ ?_
  refine y_min dX4_begin_3 jkX4_15 (by omega) (Nat.le_of_ble_eq_true rfl) ?_
  refine y_puti (z := 1) dX4_begin_6 frX4_21 cfX4 at83 rfl rfl rfl ?_
  refine y_ic dX4_begin_9 ⟨by decide, by decide⟩ ?_
  refine x_istore_n (i := 2) dX4_begin_10 rfl rfl (Nat.le_of_ble_eq_true rfl) ?_
  refine x_keep [1, 0, 1] ?_
  exact hL _ 0 _ (Nat.lt_succ_self _) (by omega) (by omega) (Fc.rf.ui (Or.inl rfl)) (by rw [uI_eq, u1_eq]) (by omega) (fun x x0 x1 => by omega)
theorem c_X5_open {q t l : Nat} {p : Int} (hW : WP P) (hM : MK I P q t l T) (hr : RC (I (q + 1))) (hp : 0 ≤ p ∧ p < 6) : Cv G mX5_open d 0 0 [.inr (.inl 77), .inr (.inl q), .inl p] NO I P (qV (fun n I' P' => n = NO ∧ P' = P ∧ Fc sU I I' ∧ I' 77 2 = T 0 2 ∧ I' 77 3 = sumN (fun s => I (q + 1) (8 * p + s)) 8 ∧ ∀ c, 0 ≤ c → c < 8 → I' 78 c = I (q + 1) (8 * p + c) ∧ I' 79 c = 0)) := by
  obtain ⟨hq, hTo, hLo, hpt, hpl, hca, hcl⟩ := id hM
  have wT := wp_T hW hTo
  have hq1 := hq
  unfold isM at hq1
  have e1 : I t 1 = T 0 2 := hca.2.1
  refine x_enter mfX5_open rfl (Nat.le_of_ble_eq_true rfl) (fun _ => ?_)
  have hL : ∀ (j : Nat) (c : Int) (K : Mem), (8 - c).toNat < j → 0 ≤ c → c ≤ 8 → Fc sU I K → K 77 2 = T 0 2 → K 77 3 = sumN (fun s => I (q + 1) (8 * p + s)) c → (∀ x, 0 ≤ x → x < c → K 78 x = I (q + 1) (8 * p + x) ∧ K 79 x = 0) → V G mX5_open d 0 0 18 [some (.inr (.inl 77)), some (.inr (.inl q)), some (.inl (p)), some (.inl (c))] [] NO K P (qV (fun n I' P' => n = NO ∧ P' = P ∧ Fc sU I I' ∧ I' 77 2 = T 0 2 ∧ I' 77 3 = sumN (fun s => I (q + 1) (8 * p + s)) 8 ∧ ∀ c, 0 ≤ c → c < 8 → I' 78 c = I (q + 1) (8 * p + c) ∧ I' 79 c = 0)) := by
    intro j
    induction j with
    | zero => intro c K hj; omega
    | succ j ih =>
      intro c K hj hc hc2 hFr h2 h3 hK
      have kr : K (q + 1) = I (q + 1) := hFr (q + 1) (by show ¬ (q + 1 = 77 ∨ q + 1 = 78 ∨ q + 1 = 79); omega)
      have es := sumN_s (fun s => I (q + 1) (8 * p + s)) hc
      have hb := (sumN_bd (f := fun s => I (q + 1) (8 * p + s)) (n := c) (lo := 0) (hi := 960) hc (fun j j0 j1 => hr (8 * p + j) (by omega) (by omega)))
      have e773 : ∀ v w, uI (uI K 78 c v) 79 c w 77 3 = K 77 3 := fun v w => by rw [uI_ne (by decide), uI_ne (by decide)]
      have e78c : ∀ v w, uI (uI K 78 c v) 79 c w 78 c = v := fun v w => by rw [uI_ne (by decide), uI_eq, u1_eq]
      have hb1 := fun (z : c < 8) => hr (8 * p + c) (by omega) (by omega)
      refine x_iload_n (i := 3) dX5_open_18 rfl rfl ?_
      refine y_bi dX5_open_19 ⟨by decide, by decide⟩ ?_
      refine x_icmp_ge (tgt := 69) dX5_open_21 rfl (fun h21 => ?_) (fun h21 => ?_)
      · refine x_vret dX5_open_69 rfl ?_
        exact ⟨rfl, rfl, hFr, h2, by rw [h3, show c = 8 by omega], fun x x0 x1 => hK x x0 (by omega)⟩
      · have hb1' := hb1 (by omega)
        refine y_aln (i := 0) dX5_open_24 at77.ne0 rfl rfl ?_
        refine y_getp (z := 0) (v := 78) dX5_open_25 frX5_9 cfX5 at77 rfl rfl (wp (v := 78) hW rfl rfl (by decide)) ?_
        refine x_iload_n (i := 3) dX5_open_28 rfl rfl ?_
        refine y_aln (i := 1) dX5_open_29 hq.at.ne0 rfl rfl ?_
        refine y_getp (z := 2) (v := (q + 1)) dX5_open_30 frX5_34 cfX3 hq.at rfl rfl (p3_2 hW hq) ?_
        refine x_iload_n (i := 2) dX5_open_33 rfl rfl ?_
        refine y_bi dX5_open_34 ⟨by decide, by decide⟩ ?_
        refine x_imul dX5_open_36 ⟨by omega, by omega⟩ ?_
        rw [Int.mul_comm p 8]
        refine x_iload_n (i := 3) dX5_open_37 rfl rfl ?_
        refine x_iadd dX5_open_38 ⟨by omega, by omega⟩ ?_
        refine x_iald dX5_open_39 (a3_2 hq) ⟨by omega, by omega⟩ ?_
        rw [kr]
        refine x_iast dX5_open_40 ar78 ⟨by omega, by omega⟩ ?_
        refine y_aln (i := 0) dX5_open_41 at77.ne0 rfl rfl ?_
        refine y_getp (z := 1) (v := 79) dX5_open_42 frX5_15 cfX5 at77 rfl rfl (wp (v := 79) hW rfl rfl (by decide)) ?_
        refine x_iload_n (i := 3) dX5_open_45 rfl rfl ?_
        refine y_ic dX5_open_46 ⟨by decide, by decide⟩ ?_
        refine x_iast dX5_open_47 ar79 ⟨by omega, by omega⟩ ?_
        refine y_aln (i := 0) dX5_open_48 at77.ne0 rfl rfl ?_
        refine x_dup dX5_open_49 rfl ?_
        refine y_geti (z := 3) dX5_open_50 frX5_31 cfX5 at77 rfl rfl ?_
        rw [e773, h3]
        refine y_aln (i := 0) dX5_open_53 at77.ne0 rfl rfl ?_
        refine y_getp (z := 0) (v := 78) dX5_open_54 frX5_9 cfX5 at77 rfl rfl (wp (v := 78) hW rfl rfl (by decide)) ?_
        refine x_iload_n (i := 3) dX5_open_57 rfl rfl ?_
        refine x_iald dX5_open_58 ar78 ⟨by omega, by omega⟩ ?_
        rw [e78c]
        refine x_iadd dX5_open_59 ⟨by omega, by omega⟩ ?_
        refine y_puti (z := 3) dX5_open_60 frX5_31 cfX5 at77 rfl rfl rfl ?_
        refine x_iinc dX5_open_63 rfl ⟨by omega, by omega⟩ rfl (Nat.le_of_ble_eq_true rfl) ?_
        refine x_goto (tgt := 18) dX5_open_66 rfl ?_
        refine x_keep [1, 1, 1, 1] ?_
        refine ih (c + 1) _ (by omega) (by omega) (by omega) (((hFr.ui (Or.inr (Or.inl rfl))).ui (Or.inr (Or.inr rfl))).ui (Or.inl rfl)) (by rw [uI_eq, u1_ne (by decide)]; exact h2) (by rw [uI_eq, u1_eq, es]) (fun x x0 x1 => ?_)
        by_cases e : x = c
        · rw [e]; exact ⟨by rw [uI_ne (by decide), uI_ne (by decide), uI_eq, u1_eq], by rw [uI_ne (by decide), uI_eq, u1_eq]⟩
        · have := hK x x0 (by omega)
          exact ⟨by rw [uI_ne (by decide), uI_ne (by decide), uI_eq, u1_ne e]; exact this.1, by rw [uI_ne (by decide), uI_eq, u1_ne e]; exact this.2⟩
  refine y_aln (i := 0) dX5_open_0 at77.ne0 rfl rfl ?_
  refine y_aln (i := 1) dX5_open_1 hq.at.ne0 rfl rfl ?_
  refine y_getp (z := 0) (v := t) dX5_open_2 frX5_18 cfX3 hq.at rfl rfl hpt ?_
  refine y_geti (z := 1) dX5_open_5 frX5_24 cfX10 hTo.at rfl rfl ?_
  refine y_puti (z := 2) dX5_open_8 frX5_30 cfX5 at77 rfl rfl rfl ?_
  refine y_aln (i := 0) dX5_open_11 at77.ne0 rfl rfl ?_
  refine y_ic dX5_open_12 ⟨by decide, by decide⟩ ?_
  refine y_puti (z := 3) dX5_open_13 frX5_31 cfX5 at77 rfl rfl rfl ?_
  refine y_ic dX5_open_16 ⟨by decide, by decide⟩ ?_
  refine x_istore_n (i := 3) dX5_open_17 rfl rfl (Nat.le_of_ble_eq_true rfl) ?_
  refine x_keep [1, 1, 1, 1] ?_
  exact hL _ 0 _ (Nat.lt_succ_self _) (by decide) (by decide) ((Fc.rf.ui (Or.inl rfl)).ui (Or.inl rfl)) (by rw [uI_eq, u1_ne (by decide), uI_eq, u1_eq]; exact e1) (by rw [uI_eq, u1_eq]; rfl) (fun x x0 x1 => by omega)
theorem c_X5_fill {so f m : Int} {b : Rw} (hW : WP P) (hs : I 77 2 = so) (h8 : 1 ≤ so ∧ so ≤ 8) (hr : ∀ s, 0 ≤ s → s < so → 0 ≤ I 78 s ∧ I 78 s ≤ 960) (hf : 0 ≤ f ∧ f ≤ so) (hm : 0 ≤ m) (hb : ∀ s, 0 ≤ s → s < f → I 79 s = b s) : Cv G mX5_fill (d + 1) 0 0 [.inr (.inl 77), .inl f, .inl m] NO I P (qV (fun n I' P' => n = NO ∧ P' = P ∧ (∀ a, a ≠ 79 → I' a = I a) ∧ ∀ s, 0 ≤ s → s < so → I' 79 s = fillS so (I 78) f m b s)) := by
  refine x_enter mfX5_fill rfl (Nat.le_of_ble_eq_true rfl) (fun _ => ?_)
  refine x_rng 2 rfl (fun hrm => ?_)
  obtain ⟨hrm1, hrm2⟩ := hrm
  have hL : ∀ (j : Nat) (s : Int) (K : Mem), (s + 1).toNat < j → f - 1 ≤ s → s < so → (∀ c, K 79 c = if s < c ∧ c < so then min (I 78 c) (remS so (I 78) m (so - 1 - c)) else I 79 c) → (∀ q, q ≠ 79 → K q = I q) → V G mX5_fill (d + 1) 0 0 10 [some (.inr (.inl 77)), some (.inl (f)), none, some (.inl (remS so (I 78) m (so - 1 - s))), some (.inl (s))] [] NO K P (qV (fun n I' P' => n = NO ∧ P' = P ∧ (∀ a, a ≠ 79 → I' a = I a) ∧ ∀ s, 0 ≤ s → s < so → I' 79 s = fillS so (I 78) f m b s)) := by
    intro j
    induction j with
    | zero => intro s K hj; omega
    | succ j ih =>
      intro s K hj hs hs2 hK hKo
      have hbd := remS_bd (so := so) (fu := I 78) (m := m) (i := so - 1 - s) hm (by omega) (fun t t0 t1 => (hr t (by omega) (by omega)).1)
      have e78 : K 78 = I 78 := hKo 78 (by decide)
      have e79 : ∀ v, uI K 79 s v 79 s = v := fun v => by rw [uI_eq, u1_eq]
      have es : s - 1 < so → remS so (I 78) m (so - 1 - (s - 1)) = remS so (I 78) m (so - 1 - s) - min (I 78 s) (remS so (I 78) m (so - 1 - s)) := fun _ => by
        rw [show so - 1 - (s - 1) = so - 1 - s + 1 by omega, remS_s (by omega), show so - 1 - (so - 1 - s) = s by omega]
      obtain ⟨l, hl⟩ : ∃ l, l = remS so (I 78) m (so - 1 - s) := ⟨_, rfl⟩
      rw [← hl] at hbd es ⊢
      have h78 : f ≤ s → 0 ≤ I 78 s ∧ I 78 s ≤ 960 := fun q => hr s (by omega) (by omega)
      have nx : ∀ w, w = min (I 78 s) l → f ≤ s → V G mX5_fill (d + 1) 0 0 10 [some (.inr (.inl 77)), some (.inl (f)), none, some (.inl (l - w)), some (.inl (s - 1))] [] NO (uI K 79 s w) P (qV (fun n I' P' => n = NO ∧ P' = P ∧ (∀ a, a ≠ 79 → I' a = I a) ∧ ∀ s, 0 ≤ s → s < so → I' 79 s = fillS so (I 78) f m b s)) := fun w hw q => by
        have := ih (s - 1) (uI K 79 s w) (by omega) (by omega) (by omega) (fun c => by
          rw [uI_eq]
          by_cases ec : c = s
          · rw [ec, u1_eq, if_pos (by omega), ← hl]; exact hw
          · rw [u1_ne ec, hK]
            by_cases e : s < c ∧ c < so
            · rw [if_pos e, if_pos (by omega)]
            · rw [if_neg e, if_neg (by omega)]) (fun q hq => by rw [uI_ne hq]; exact hKo q hq)
        rw [es (by omega), ← hw] at this
        exact this
      have hret : s < f → ∀ t, 0 ≤ t → t < so → K 79 t = fillS so (I 78) f m b t := fun q t t0 t1 => by
        unfold fillS
        rw [hK]
        by_cases e : f ≤ t
        · rw [if_pos (by omega), if_pos e]
        · rw [if_neg (by omega), if_neg e]; exact hb t t0 (by omega)
      refine x_iload (i := 4) dX5_fill_10 rfl ?_
      refine x_iload_n (i := 1) dX5_fill_12 rfl rfl ?_
      refine x_icmp_lt (tgt := 50) dX5_fill_13 rfl (fun h13 => ?_) (fun h13 => ?_)
      · refine x_vret dX5_fill_50 rfl ?_
        exact ⟨rfl, rfl, hKo, hret (by omega)⟩
      · have h78' := h78 (by omega)
        refine y_aln (i := 0) dX5_fill_16 at77.ne0 rfl rfl ?_
        refine y_getp (z := 1) (v := 79) dX5_fill_17 frX5_15 cfX5 at77 rfl rfl (wp (v := 79) hW rfl rfl (by decide)) ?_
        refine x_iload (i := 4) dX5_fill_20 rfl ?_
        refine y_aln (i := 0) dX5_fill_22 at77.ne0 rfl rfl ?_
        refine y_getp (z := 0) (v := 78) dX5_fill_23 frX5_9 cfX5 at77 rfl rfl (wp (v := 78) hW rfl rfl (by decide)) ?_
        refine x_iload (i := 4) dX5_fill_26 rfl ?_
        refine x_iald dX5_fill_28 ar78 ⟨by omega, by omega⟩ ?_
        rw [e78]
        refine x_iload_n (i := 3) dX5_fill_29 rfl rfl ?_
        refine y_min dX5_fill_30 jkX5_37 (by omega) (Nat.le_of_ble_eq_true rfl) ?_
        refine x_iast dX5_fill_33 ar79 ⟨by omega, by omega⟩ ?_
        refine x_iload_n (i := 3) dX5_fill_34 rfl rfl ?_
        refine y_aln (i := 0) dX5_fill_35 at77.ne0 rfl rfl ?_
        refine y_getp (z := 1) (v := 79) dX5_fill_36 frX5_15 cfX5 at77 rfl rfl (wp (v := 79) hW rfl rfl (by decide)) ?_
        refine x_iload (i := 4) dX5_fill_39 rfl ?_
        refine x_iald dX5_fill_41 ar79 ⟨by omega, by omega⟩ ?_
        rw [e79]
        refine x_isub dX5_fill_42 ⟨by omega, by omega⟩ ?_
        refine x_istore_n (i := 3) dX5_fill_43 rfl rfl (Nat.le_of_ble_eq_true rfl) ?_
        refine x_iinc dX5_fill_44 rfl ⟨by omega, by omega⟩ rfl (Nat.le_of_ble_eq_true rfl) ?_
        refine x_goto (tgt := 10) dX5_fill_47 rfl ?_
        refine x_keep [1, 1, 0, 1, 1] ?_
        exact nx _ rfl (by omega)
  refine x_iload_n (i := 2) dX5_fill_0 rfl rfl ?_
  refine x_istore_n (i := 3) dX5_fill_1 rfl rfl (Nat.le_of_ble_eq_true rfl) ?_
  refine y_aln (i := 0) dX5_fill_2 at77.ne0 rfl rfl ?_
  refine y_geti (z := 2) dX5_fill_3 frX5_30 cfX5 at77 rfl rfl ?_
  rw [hs]
  refine y_ic dX5_fill_6 ⟨by decide, by decide⟩ ?_
  refine x_isub dX5_fill_7 ⟨by omega, by omega⟩ ?_
  refine x_istore (i := 4) dX5_fill_8 rfl (Nat.le_of_ble_eq_true rfl) ?_
  refine x_keep [1, 1, 0, 1, 1] ?_
  have := hL _ (so - 1) I (Nat.lt_succ_self _) (by omega) (by omega) (fun c => by rw [if_neg (by omega)]) (fun _ _ => rfl)
  rw [show so - 1 - (so - 1) = 0 by omega, remS_0] at this
  exact this
theorem c_X5_goOn {so : Int} {b : Rw} (hW : WP P) (hs : I 77 2 = so) (h8 : 1 ≤ so ∧ so ≤ 8) (hr : ∀ s, 0 ≤ s → s < so → 0 ≤ I 78 s ∧ I 78 s ≤ 960) (hb : BG so (I 78) b) (hK : ∀ s, 0 ≤ s → s < so → I 79 s = b s) : Cv G mX5_goOn (d + 2) 0 0 [.inr (.inl 77)] NO I P (qI NO (fun r I' P' => P' = P ∧ (∀ a, a ≠ 79 → I' a = I a) ∧ ((r = 1 ∧ nbI so (I 78) b ≠ -1 ∧ ∀ s, 0 ≤ s → s < so → I' 79 s = nbS so (I 78) b s) ∨ (r = 0 ∧ nbI so (I 78) b = -1)))) := by
  refine x_enter mfX5_goOn rfl (Nat.le_of_ble_eq_true rfl) (fun _ => ?_)
  have hlb : ∀ i, 0 ≤ i → i ≤ so → (0 ≤ latS so b i ∧ latS so b i ≤ latS so (I 78) i) ∧ latS so (I 78) i ≤ 960 * i := fun i i0 i1 => ⟨latS_le hb ⟨i0, i1⟩, (sumN_bd (f := fun j => I 78 (so - 1 - j)) (n := i) (lo := 0) (hi := 960) i0 (fun j j0 j1 => hr (so - 1 - j) (by omega) (by omega))).2⟩
  have hL : ∀ (j : Nat) (s : Int), (s + 1).toNat < j → -1 ≤ s → s ≤ so - 1 → (∀ x, s < x → x < so → ¬ (0 < latS so b (so - 1 - x) ∧ b x < I 78 x)) → V G mX5_goOn (d + 2) 0 0 9 [some (.inr (.inl 77)), some (.inl (latS so b (so - 1 - s))), some (.inl (s))] [] NO I P (qI NO (fun r I' P' => P' = P ∧ (∀ a, a ≠ 79 → I' a = I a) ∧ ((r = 1 ∧ nbI so (I 78) b ≠ -1 ∧ ∀ s, 0 ≤ s → s < so → I' 79 s = nbS so (I 78) b s) ∨ (r = 0 ∧ nbI so (I 78) b = -1)))) := by
    intro j
    induction j with
    | zero => intro s hj; omega
    | succ j ih =>
      intro s hj hs1 hs2 hno
      have hl := hlb (so - 1 - s) (by omega) (by omega)
      have es : 0 ≤ s → latS so b (so - 1 - (s - 1)) = latS so b (so - 1 - s) + b s := fun _ => by
        rw [show so - 1 - (s - 1) = so - 1 - s + 1 by omega, latS_s (by omega), show so - 1 - (so - 1 - s) = s by omega]
      have hcs : 0 ≤ s → (0 ≤ b s ∧ b s ≤ I 78 s) ∧ I 78 s ≤ 960 ∧ I 79 s = b s := fun q => ⟨hb s q (by omega), (hr s (by omega) (by omega)).2, hK s q (by omega)⟩
      have hfound : 0 ≤ s → 0 < latS so b (so - 1 - s) → b s < I 78 s → nbI so (I 78) b = s := fun q q1 q2 => lastS_is ⟨q, by omega⟩ ⟨q1, q2⟩ hno
      have hnb : nbI so (I 78) b = s → nbS so (I 78) b = fillS so (I 78) (s + 1) (latS so b (so - 1 - s) - 1) (u1 b s (b s + 1)) := fun q => by unfold nbS; rw [q]
      obtain ⟨l, hl0⟩ : ∃ l, l = latS so b (so - 1 - s) := ⟨_, rfl⟩
      rw [← hl0] at hl es hfound hnb ⊢
      have hstep : 0 ≤ s → ¬ (0 < l ∧ b s < I 78 s) → V G mX5_goOn (d + 2) 0 0 54 [some (.inr (.inl 77)), some (.inl (l)), some (.inl (s))] [] NO I P (qI NO (fun r I' P' => P' = P ∧ (∀ a, a ≠ 79 → I' a = I a) ∧ ((r = 1 ∧ nbI so (I 78) b ≠ -1 ∧ ∀ s, 0 ≤ s → s < so → I' 79 s = nbS so (I 78) b s) ∨ (r = 0 ∧ nbI so (I 78) b = -1)))) := fun q0 q => by
        have hc := hcs q0
        have es' := es q0
        refine x_iload_n (i := 1) dX5_goOn_54 rfl rfl ?_
        refine y_aln (i := 0) dX5_goOn_55 at77.ne0 rfl rfl ?_
        refine y_getp (z := 1) (v := 79) dX5_goOn_56 frX5_15 cfX5 at77 rfl rfl (wp (v := 79) hW rfl rfl (by decide)) ?_
        refine x_iload_n (i := 2) dX5_goOn_59 rfl rfl ?_
        refine x_iald dX5_goOn_60 ar79 ⟨by omega, by omega⟩ ?_
        rw [hc.2.2]
        refine x_iadd dX5_goOn_61 ⟨by omega, by omega⟩ ?_
        refine x_istore_n (i := 1) dX5_goOn_62 rfl rfl (Nat.le_of_ble_eq_true rfl) ?_
        refine x_iinc dX5_goOn_63 rfl ⟨by omega, by omega⟩ rfl (Nat.le_of_ble_eq_true rfl) ?_
        refine x_goto (tgt := 9) dX5_goOn_66 rfl ?_
        refine x_keep [1, 1, 1] ?_
        have := ih (s - 1) (by omega) (by omega) (by omega) (fun x x0 x1 => by
          by_cases e : x = s
          · rw [e, ← hl0]; exact q
          · exact hno x (by omega) x1)
        rw [es'] at this
        exact this
      refine x_iload_n (i := 2) dX5_goOn_9 rfl rfl ?_
      refine x_if_lt (tgt := 69) dX5_goOn_10 rfl (fun h10 => ?_) (fun h10 => ?_)
      · refine y_ic dX5_goOn_69 ⟨by decide, by decide⟩ ?_
        refine x_zret dX5_goOn_70 (by omega) rfl ?_
        exact ⟨rfl, fun _ _ => rfl, Or.inr ⟨rfl, lastS_no (fun x x0 x1 => hno x (by omega) x1)⟩⟩
      · have hc := hcs (by omega)
        refine x_iload_n (i := 1) dX5_goOn_13 rfl rfl ?_
        refine x_if_le (tgt := 54) dX5_goOn_14 rfl (fun h14 => ?_) (fun h14 => ?_)
        · refine x_keep [1, 1, 1] ?_
          exact hstep (by omega) (by omega)
        · refine y_aln (i := 0) dX5_goOn_17 at77.ne0 rfl rfl ?_
          refine y_getp (z := 1) (v := 79) dX5_goOn_18 frX5_15 cfX5 at77 rfl rfl (wp (v := 79) hW rfl rfl (by decide)) ?_
          refine x_iload_n (i := 2) dX5_goOn_21 rfl rfl ?_
          refine x_iald dX5_goOn_22 ar79 ⟨by omega, by omega⟩ ?_
          rw [hc.2.2]
          refine y_aln (i := 0) dX5_goOn_23 at77.ne0 rfl rfl ?_
          refine y_getp (z := 0) (v := 78) dX5_goOn_24 frX5_9 cfX5 at77 rfl rfl (wp (v := 78) hW rfl rfl (by decide)) ?_
          refine x_iload_n (i := 2) dX5_goOn_27 rfl rfl ?_
          refine x_iald dX5_goOn_28 ar78 ⟨by omega, by omega⟩ ?_
          refine x_icmp_ge (tgt := 54) dX5_goOn_29 rfl (fun h29 => ?_) (fun h29 => ?_)
          · refine x_keep [1, 1, 1] ?_
            exact hstep (by omega) (by omega)
          · have hi := hfound (by omega) (by omega) (by omega)
            have e77 : uI I 79 s (b s + 1) 77 = I 77 := uI_ne (by decide)
            have e78 : uI I 79 s (b s + 1) 78 = I 78 := uI_ne (by decide)
            refine y_aln (i := 0) dX5_goOn_32 at77.ne0 rfl rfl ?_
            refine y_getp (z := 1) (v := 79) dX5_goOn_33 frX5_15 cfX5 at77 rfl rfl (wp (v := 79) hW rfl rfl (by decide)) ?_
            refine x_iload_n (i := 2) dX5_goOn_36 rfl rfl ?_
            refine x_dup2 dX5_goOn_37 rfl rfl ?_
            refine x_iald dX5_goOn_38 ar79 ⟨by omega, by omega⟩ ?_
            rw [hc.2.2]
            refine y_ic dX5_goOn_39 ⟨by decide, by decide⟩ ?_
            refine x_iadd dX5_goOn_40 ⟨by omega, by omega⟩ ?_
            refine x_iast dX5_goOn_41 ar79 ⟨by omega, by omega⟩ ?_
            refine y_aln (i := 0) dX5_goOn_42 at77.ne0 rfl rfl ?_
            refine x_iload_n (i := 2) dX5_goOn_43 rfl rfl ?_
            refine y_ic dX5_goOn_44 ⟨by decide, by decide⟩ ?_
            refine x_iadd dX5_goOn_45 ⟨by omega, by omega⟩ ?_
            refine x_iload_n (i := 1) dX5_goOn_46 rfl rfl ?_
            refine y_ic dX5_goOn_47 ⟨by decide, by decide⟩ ?_
            refine x_isub dX5_goOn_48 ⟨by omega, by omega⟩ ?_
            refine x_callVV (c_X5_fill (so := so) (b := u1 b s (b s + 1)) hW (by rw [e77]; exact hs) h8 (by rw [e78]; exact hr) ⟨by omega, by omega⟩ (by omega) (fun t t0 t1 => by
              rw [uI_eq]
              unfold u1
              split
              · rfl
              · exact hK t t0 (by omega))) dX5_goOn_49 lkX5_43 mfX5_fill cfX5 at77 rfl rfl rfl rfl (Nat.le_of_ble_eq_true rfl) (fun n49 I49 P49 hf49 => ?_)
            rw [e78] at hf49
            obtain ⟨rfl, rfl, fr49, v49⟩ := hf49
            refine y_ic dX5_goOn_52 ⟨by decide, by decide⟩ ?_
            refine x_zret dX5_goOn_53 (by omega) rfl ?_
            refine ⟨rfl, fun a ha => by rw [fr49 a ha, uI_ne ha], Or.inl ⟨rfl, by omega, fun t t0 t1 => ?_⟩⟩
            rw [hnb hi]; exact v49 t t0 t1
  refine y_ic dX5_goOn_0 ⟨by decide, by decide⟩ ?_
  refine x_istore_n (i := 1) dX5_goOn_1 rfl rfl (Nat.le_of_ble_eq_true rfl) ?_
  refine y_aln (i := 0) dX5_goOn_2 at77.ne0 rfl rfl ?_
  refine y_geti (z := 2) dX5_goOn_3 frX5_30 cfX5 at77 rfl rfl ?_
  rw [hs]
  refine y_ic dX5_goOn_6 ⟨by decide, by decide⟩ ?_
  refine x_isub dX5_goOn_7 ⟨by omega, by omega⟩ ?_
  refine x_istore_n (i := 2) dX5_goOn_8 rfl rfl (Nat.le_of_ble_eq_true rfl) ?_
  refine x_keep [1, 1, 1] ?_
  have := hL _ (so - 1) (Nat.lt_succ_self _) (by omega) (by omega) (fun x x0 x1 => by omega)
  rw [show so - 1 - (so - 1) = 0 by omega, latS_0] at this
  exact this
theorem c_X1_forget (hW : WP P) : Cv G mX1_forget d 0 0 [.inr (.inl 85)] NO I P (qV (fun n I' P' => n = NO ∧ P' = P ∧ (∀ a, a ≠ 85 → I' a = I a) ∧ I' 85 1 = 0 ∧ I' 85 3 = 0 ∧ I' 85 5 = 0 ∧ I' 85 7 = 0 ∧ I' 85 9 = 0)) := by
  refine x_enter mfX1_forget rfl (Nat.le_of_ble_eq_true rfl) (fun _ => ?_)
  refine y_aln (i := 0) dX1_forget_0 at85.ne0 rfl rfl ?_
  refine y_ic dX1_forget_1 ⟨by decide, by decide⟩ ?_
  refine y_puti (z := 1) dX1_forget_2 frX1_27 cfX1 at85 rfl rfl rfl ?_
  refine y_aln (i := 0) dX1_forget_5 at85.ne0 rfl rfl ?_
  refine y_ic dX1_forget_6 ⟨by decide, by decide⟩ ?_
  refine y_putz (z := 3) dX1_forget_7 frX1_31 cfX1 at85 rfl rfl rfl (by omega) ?_
  refine y_aln (i := 0) dX1_forget_10 at85.ne0 rfl rfl ?_
  refine y_ic dX1_forget_11 ⟨by decide, by decide⟩ ?_
  refine y_puti (z := 5) dX1_forget_12 frX1_35 cfX1 at85 rfl rfl rfl ?_
  refine y_aln (i := 0) dX1_forget_15 at85.ne0 rfl rfl ?_
  refine y_ic dX1_forget_16 ⟨by decide, by decide⟩ ?_
  refine y_putz (z := 7) dX1_forget_17 frX1_38 cfX1 at85 rfl rfl rfl (by omega) ?_
  refine y_aln (i := 0) dX1_forget_20 at85.ne0 rfl rfl ?_
  refine y_ic dX1_forget_21 ⟨by decide, by decide⟩ ?_
  refine y_putz (z := 9) dX1_forget_22 frX1_41 cfX1 at85 rfl rfl rfl (by omega) ?_
  refine x_vret dX1_forget_25 rfl ?_
  exact ⟨rfl, rfl, fun a ha => by rw [uI_ne ha, uI_ne ha, uI_ne ha, uI_ne ha, uI_ne ha], by simp [uI_eq, u1], by simp [uI_eq, u1], by simp [uI_eq, u1], by simp [uI_eq, u1], by simp [uI_eq, u1]⟩
theorem c_X1_keepBag {c : Nat} (hW : WP P) (hc : AR NO c 20 8) : Cv G mX1_keepBag (d + 2) 0 0 [.inr (.inl 85), .inr (.inl c)] NO I P (qV (fun n I' P' => n = NO ∧ P' = P ∧ (∀ a, a ≠ 85 → a ≠ 87 → I' a = I a) ∧ (∀ k, k ≠ 3 → I' 85 k = I 85 k) ∧ I' 85 3 = 1 ∧ ∀ x, 0 ≤ x → x < 8 → I' 87 x = I c x)) := by
  refine x_enter mfX1_keepBag rfl (Nat.le_of_ble_eq_true rfl) (fun _ => ?_)
  refine y_aln (i := 1) dX1_keepBag_0 hc.ne0 rfl rfl ?_
  refine y_ic dX1_keepBag_1 ⟨by decide, by decide⟩ ?_
  refine y_aln (i := 0) dX1_keepBag_2 at85.ne0 rfl rfl ?_
  refine y_getp (z := 2) (v := 87) dX1_keepBag_3 frX1_15 cfX1 at85 rfl rfl (wp (v := 87) hW rfl rfl (by decide)) ?_
  refine y_ic dX1_keepBag_6 ⟨by decide, by decide⟩ ?_
  refine y_bi dX1_keepBag_7 ⟨by decide, by decide⟩ ?_
  refine x_copy (own := "") dX1_keepBag_9 jkX1_44 rfl hc ar87 (by omega) (by omega) (by omega) (by omega) (by omega) rfl (by omega) ?_
  refine y_aln (i := 0) dX1_keepBag_12 at85.ne0 rfl rfl ?_
  refine y_ic dX1_keepBag_13 ⟨by decide, by decide⟩ ?_
  refine y_putz (z := 3) dX1_keepBag_14 frX1_31 cfX1 at85 rfl rfl rfl (by omega) ?_
  refine x_vret dX1_keepBag_17 rfl ?_
  refine ⟨rfl, rfl, fun a h1 h2 => by rw [uI_ne h1, uA_ne h2], fun k hk => by rw [uI_eq, u1_ne hk, uA_ne (by decide)], by rw [uI_eq, u1_eq], fun x x0 x1 => ?_⟩
  rw [uI_ne (by decide), uA_eq, if_pos ⟨x0, by omega⟩, Int.sub_zero, Int.zero_add]
theorem c_X1_keepOrder {c : Nat} {k : Int} (hW : WP P) (hc : AR NO c 20 5) (h85 : c ≠ 85) (hk : 0 ≤ k ∧ k ≤ 5) : Cv G mX1_keepOrder (d + 2) 0 0 [.inr (.inl 85), .inr (.inl c), .inl k] NO I P (qV (fun n I' P' => n = NO ∧ P' = P ∧ (∀ a, a ≠ 85 → a ≠ 88 → I' a = I a) ∧ (∀ k, k ≠ 5 → I' 85 k = I 85 k) ∧ I' 85 5 = k ∧ ∀ x, 0 ≤ x → x < k → I' 88 x = I c x)) := by
  refine x_enter mfX1_keepOrder rfl (Nat.le_of_ble_eq_true rfl) (fun _ => ?_)
  have hmn : min k 5 = k := by omega
  have e5 : ∀ v, uI I 85 5 v 85 5 = v := fun v => by rw [uI_eq, u1_eq]
  refine y_aln (i := 0) dX1_keepOrder_0 at85.ne0 rfl rfl ?_
  refine x_iload_n (i := 2) dX1_keepOrder_1 rfl rfl ?_
  refine y_ic dX1_keepOrder_2 ⟨by decide, by decide⟩ ?_
  refine y_min dX1_keepOrder_3 jkX1_50 (by omega) (Nat.le_of_ble_eq_true rfl) ?_
  refine y_puti (z := 5) dX1_keepOrder_6 frX1_35 cfX1 at85 rfl rfl rfl ?_
  refine y_aln (i := 1) dX1_keepOrder_9 hc.ne0 rfl rfl ?_
  refine y_ic dX1_keepOrder_10 ⟨by decide, by decide⟩ ?_
  refine y_aln (i := 0) dX1_keepOrder_11 at85.ne0 rfl rfl ?_
  refine y_getp (z := 4) (v := 88) dX1_keepOrder_12 frX1_18 cfX1 at85 rfl rfl (wp (v := 88) hW rfl rfl (by decide)) ?_
  refine y_ic dX1_keepOrder_15 ⟨by decide, by decide⟩ ?_
  refine y_aln (i := 0) dX1_keepOrder_16 at85.ne0 rfl rfl ?_
  rw [hmn]
  refine y_geti (z := 5) dX1_keepOrder_17 frX1_35 cfX1 at85 rfl rfl ?_
  rw [e5]
  refine x_copy (own := "") dX1_keepOrder_20 jkX1_44 rfl hc ar88 (by omega) (by omega) (by omega) (by omega) (by omega) rfl (by omega) ?_
  refine x_vret dX1_keepOrder_23 rfl ?_
  refine ⟨rfl, rfl, fun a h1 h2 => by rw [uA_ne h2, uI_ne h1], fun k hk => by rw [uA_ne (by decide), uI_eq, u1_ne hk], by rw [uA_ne (by decide), uI_eq, u1_eq], fun x x0 x1 => ?_⟩
  rw [uA_eq, if_pos ⟨x0, by omega⟩, Int.sub_zero, Int.zero_add, uI_ne h85]
theorem c_X1_keepShare {c : Nat} (hW : WP P) (hc : AR NO c 20 48) : Cv G mX1_keepShare (d + 2) 0 0 [.inr (.inl 85), .inr (.inl c)] NO I P (qV (fun n I' P' => n = NO ∧ P' = P ∧ (∀ a, a ≠ 85 → a ≠ 89 → I' a = I a) ∧ (∀ k, k ≠ 7 → I' 85 k = I 85 k) ∧ I' 85 7 = 1 ∧ ∀ x, 0 ≤ x → x < 48 → I' 89 x = I c x)) := by
  refine x_enter mfX1_keepShare rfl (Nat.le_of_ble_eq_true rfl) (fun _ => ?_)
  refine y_aln (i := 1) dX1_keepShare_0 hc.ne0 rfl rfl ?_
  refine y_ic dX1_keepShare_1 ⟨by decide, by decide⟩ ?_
  refine y_aln (i := 0) dX1_keepShare_2 at85.ne0 rfl rfl ?_
  refine y_getp (z := 6) (v := 89) dX1_keepShare_3 frX1_21 cfX1 at85 rfl rfl (wp (v := 89) hW rfl rfl (by decide)) ?_
  refine y_ic dX1_keepShare_6 ⟨by decide, by decide⟩ ?_
  refine y_bi dX1_keepShare_7 ⟨by decide, by decide⟩ ?_
  refine x_copy (own := "") dX1_keepShare_9 jkX1_44 rfl hc ar89 (by omega) (by omega) (by omega) (by omega) (by omega) rfl (by omega) ?_
  refine y_aln (i := 0) dX1_keepShare_12 at85.ne0 rfl rfl ?_
  refine y_ic dX1_keepShare_13 ⟨by decide, by decide⟩ ?_
  refine y_putz (z := 7) dX1_keepShare_14 frX1_38 cfX1 at85 rfl rfl rfl (by omega) ?_
  refine x_vret dX1_keepShare_17 rfl ?_
  refine ⟨rfl, rfl, fun a h1 h2 => by rw [uI_ne h1, uA_ne h2], fun k hk => by rw [uI_eq, u1_ne hk, uA_ne (by decide)], by rw [uI_eq, u1_eq], fun x x0 x1 => ?_⟩
  rw [uI_ne (by decide), uA_eq, if_pos ⟨x0, by omega⟩, Int.sub_zero, Int.zero_add]
end

