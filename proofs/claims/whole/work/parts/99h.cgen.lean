/-! ===== clear and makeOffers while objects are still to come ===== -/
section
variable {G : HX} {d n : Nat} {I : Mem} {P : Ptr} {T : Tn}
theorem g_X10_clear {t : Nat} (wT : PT P t) (hTo : isT n t) : Cv G mX10_clear d 0 0 [.inr (.inl t)] n I P (qV (fun n' I' P' => n' = n ∧ P' = P ∧ Fc (sC t) I I' ∧ (I' t 0 = 0 ∧ I' t 1 = 1 ∧ I' t 2 = 0 ∧ I' t 3 = 0) ∧ (∀ c, 0 ≤ c → c < 48 → I' (t + 1) c = 0 ∧ I' (t + 2) c = 0) ∧ (∀ c, 0 ≤ c → c < 6 → I' (t + 3) c = 0 ∧ I' (t + 4) c = 0) ∧ I' (t + 13) 0 = 2 ∧ I' (t + 13) 1 = -1 ∧ I' (t + 13) 2 = 0)) := by
  have ht1 := hTo.1
  refine x_enter mfX10_clear rfl (Nat.le_of_ble_eq_true rfl) (fun _ => ?_)
  have hB : ∀ (j : Nat) (c : Int) (K : Mem), (6 - c).toNat < j → 0 ≤ c → c ≤ 6 → Fc (sC t) I K → (K t 0 = 0 ∧ K t 1 = 1 ∧ K t 2 = 0 ∧ K t 3 = 0) → (∀ c, 0 ≤ c → c < 48 → K (t + 1) c = 0 ∧ K (t + 2) c = 0) → (∀ x, 0 ≤ x → x < c → K (t + 3) x = 0 ∧ K (t + 4) x = 0) → V G mX10_clear d 0 0 50 [some (.inr (.inl t)), some (.inl (c))] [] n K P (qV (fun n' I' P' => n' = n ∧ P' = P ∧ Fc (sC t) I I' ∧ (I' t 0 = 0 ∧ I' t 1 = 1 ∧ I' t 2 = 0 ∧ I' t 3 = 0) ∧ (∀ c, 0 ≤ c → c < 48 → I' (t + 1) c = 0 ∧ I' (t + 2) c = 0) ∧ (∀ c, 0 ≤ c → c < 6 → I' (t + 3) c = 0 ∧ I' (t + 4) c = 0) ∧ I' (t + 13) 0 = 2 ∧ I' (t + 13) 1 = -1 ∧ I' (t + 13) 2 = 0)) := by
    intro j
    induction j with
    | zero => intro c K hj; omega
    | succ j ih =>
      intro c K hj hc hc2 hFr h4 h48 h6
      refine x_iload_n (i := 1) dX10_clear_50 rfl rfl ?_
      refine y_bi dX10_clear_51 ⟨by decide, by decide⟩ ?_
      refine x_icmp_ge (tgt := 76) dX10_clear_53 rfl (fun h53 => ?_) (fun h53 => ?_)
      · refine y_aln (i := 0) dX10_clear_76 hTo.at.ne0 rfl rfl ?_
        refine y_getp (z := 16) (v := (t + 13)) dX10_clear_77 frX10_51 cfX10 hTo.at rfl rfl (p10_16 wT hTo) ?_
        refine y_ic dX10_clear_80 ⟨by decide, by decide⟩ ?_
        refine y_puti (z := 0) dX10_clear_81 frX10_75 cfX2 (a10_16 hTo) rfl rfl rfl ?_
        refine y_aln (i := 0) dX10_clear_84 hTo.at.ne0 rfl rfl ?_
        refine y_getp (z := 16) (v := (t + 13)) dX10_clear_85 frX10_51 cfX10 hTo.at rfl rfl (p10_16 wT hTo) ?_
        refine y_ic dX10_clear_88 ⟨by decide, by decide⟩ ?_
        refine y_puti (z := 1) dX10_clear_89 frX10_78 cfX2 (a10_16 hTo) rfl rfl rfl ?_
        refine y_aln (i := 0) dX10_clear_92 hTo.at.ne0 rfl rfl ?_
        refine y_getp (z := 16) (v := (t + 13)) dX10_clear_93 frX10_51 cfX10 hTo.at rfl rfl (p10_16 wT hTo) ?_
        refine y_ic dX10_clear_96 ⟨by decide, by decide⟩ ?_
        refine y_putz (z := 2) dX10_clear_97 frX10_81 cfX2 (a10_16 hTo) rfl rfl rfl (by omega) ?_
        refine x_vret dX10_clear_100 rfl ?_
        refine ⟨rfl, rfl, ((hFr.ui (by show _ ∨ _; omega)).ui (by show _ ∨ _; omega)).ui (by show _ ∨ _; omega), ?_, fun x x0 x1 => ?_, fun x x0 x1 => ?_, ?_⟩
        · rw [uI_ne (by omega), uI_ne (by omega), uI_ne (by omega)]; exact h4
        · rw [uI_ne (by omega), uI_ne (by omega), uI_ne (by omega), uI_ne (by omega), uI_ne (by omega), uI_ne (by omega)]; exact h48 x x0 x1
        · rw [uI_ne (by omega), uI_ne (by omega), uI_ne (by omega), uI_ne (by omega), uI_ne (by omega), uI_ne (by omega)]; exact h6 x x0 (by omega)
        · simp [uI_eq, u1]
      · refine y_aln (i := 0) dX10_clear_56 hTo.at.ne0 rfl rfl ?_
        refine y_getp (z := 6) (v := (t + 3)) dX10_clear_57 frX10_18 cfX10 hTo.at rfl rfl (p10_6 wT hTo) ?_
        refine x_iload_n (i := 1) dX10_clear_60 rfl rfl ?_
        refine y_ic dX10_clear_61 ⟨by decide, by decide⟩ ?_
        refine x_iast dX10_clear_62 (a10_6 hTo) ⟨by omega, by omega⟩ ?_
        refine y_aln (i := 0) dX10_clear_63 hTo.at.ne0 rfl rfl ?_
        refine y_getp (z := 7) (v := (t + 4)) dX10_clear_64 frX10_21 cfX10 hTo.at rfl rfl (p10_7 wT hTo) ?_
        refine x_iload_n (i := 1) dX10_clear_67 rfl rfl ?_
        refine y_ic dX10_clear_68 ⟨by decide, by decide⟩ ?_
        refine x_iast dX10_clear_69 (a10_7 hTo) ⟨by omega, by omega⟩ ?_
        refine x_iinc dX10_clear_70 rfl ⟨by omega, by omega⟩ rfl (Nat.le_of_ble_eq_true rfl) ?_
        refine x_goto (tgt := 50) dX10_clear_73 rfl ?_
        refine x_keep [1, 1] ?_
        refine ih (c + 1) _ (by omega) (by omega) (by omega) ((hFr.ui (by show _ ∨ _; omega)).ui (by show _ ∨ _; omega)) (by rw [uI_ne (by omega), uI_ne (by omega)]; exact h4) (fun x x0 x1 => by rw [uI_ne (by omega), uI_ne (by omega), uI_ne (by omega), uI_ne (by omega)]; exact h48 x x0 x1) (fun x x0 x1 => ?_)
        rw [uI_ne (by omega), uI_eq, uI_eq]
        by_cases e : x = c
        · rw [e]; exact ⟨u1_eq, u1_eq⟩
        · rw [u1_ne e, u1_ne e, uI_ne (by omega)]; exact h6 x x0 (by omega)
  have hA : ∀ (j : Nat) (c : Int) (K : Mem), (48 - c).toNat < j → 0 ≤ c → c ≤ 48 → Fc (sC t) I K → (K t 0 = 0 ∧ K t 1 = 1 ∧ K t 2 = 0 ∧ K t 3 = 0) → (∀ x, 0 ≤ x → x < c → K (t + 1) x = 0 ∧ K (t + 2) x = 0) → V G mX10_clear d 0 0 22 [some (.inr (.inl t)), some (.inl (c))] [] n K P (qV (fun n' I' P' => n' = n ∧ P' = P ∧ Fc (sC t) I I' ∧ (I' t 0 = 0 ∧ I' t 1 = 1 ∧ I' t 2 = 0 ∧ I' t 3 = 0) ∧ (∀ c, 0 ≤ c → c < 48 → I' (t + 1) c = 0 ∧ I' (t + 2) c = 0) ∧ (∀ c, 0 ≤ c → c < 6 → I' (t + 3) c = 0 ∧ I' (t + 4) c = 0) ∧ I' (t + 13) 0 = 2 ∧ I' (t + 13) 1 = -1 ∧ I' (t + 13) 2 = 0)) := by
    intro j
    induction j with
    | zero => intro c K hj; omega
    | succ j ih =>
      intro c K hj hc hc2 hFr h4 h48
      refine x_iload_n (i := 1) dX10_clear_22 rfl rfl ?_
      refine y_bi dX10_clear_23 ⟨by decide, by decide⟩ ?_
      refine x_icmp_ge (tgt := 48) dX10_clear_25 rfl (fun h25 => ?_) (fun h25 => ?_)
      · refine y_ic dX10_clear_48 ⟨by decide, by decide⟩ ?_
        refine x_istore_n (i := 1) dX10_clear_49 rfl rfl (Nat.le_of_ble_eq_true rfl) ?_
        refine x_keep [1, 1] ?_
        exact hB _ 0 K (Nat.lt_succ_self _) (by decide) (by decide) hFr h4 (fun x x0 x1 => h48 x x0 (by omega)) (fun x x0 x1 => by omega)
      · refine y_aln (i := 0) dX10_clear_28 hTo.at.ne0 rfl rfl ?_
        refine y_getp (z := 4) (v := (t + 1)) dX10_clear_29 frX10_9 cfX10 hTo.at rfl rfl (p10_4 wT hTo) ?_
        refine x_iload_n (i := 1) dX10_clear_32 rfl rfl ?_
        refine y_ic dX10_clear_33 ⟨by decide, by decide⟩ ?_
        refine x_iast dX10_clear_34 (a10_4 hTo) ⟨by omega, by omega⟩ ?_
        refine y_aln (i := 0) dX10_clear_35 hTo.at.ne0 rfl rfl ?_
        refine y_getp (z := 5) (v := (t + 2)) dX10_clear_36 frX10_15 cfX10 hTo.at rfl rfl (p10_5 wT hTo) ?_
        refine x_iload_n (i := 1) dX10_clear_39 rfl rfl ?_
        refine y_ic dX10_clear_40 ⟨by decide, by decide⟩ ?_
        refine x_iast dX10_clear_41 (a10_5 hTo) ⟨by omega, by omega⟩ ?_
        refine x_iinc dX10_clear_42 rfl ⟨by omega, by omega⟩ rfl (Nat.le_of_ble_eq_true rfl) ?_
        refine x_goto (tgt := 22) dX10_clear_45 rfl ?_
        refine x_keep [1, 1] ?_
        refine ih (c + 1) _ (by omega) (by omega) (by omega) ((hFr.ui (by show _ ∨ _; omega)).ui (by show _ ∨ _; omega)) (by rw [uI_ne (by omega), uI_ne (by omega)]; exact h4) (fun x x0 x1 => ?_)
        rw [uI_ne (by omega), uI_eq, uI_eq]
        by_cases e : x = c
        · rw [e]; exact ⟨u1_eq, u1_eq⟩
        · rw [u1_ne e, u1_ne e, uI_ne (by omega)]; exact h48 x x0 (by omega)
  refine y_aln (i := 0) dX10_clear_0 hTo.at.ne0 rfl rfl ?_
  refine y_ic dX10_clear_1 ⟨by decide, by decide⟩ ?_
  refine y_puti (z := 0) dX10_clear_2 frX10_66 cfX10 hTo.at rfl rfl rfl ?_
  refine y_aln (i := 0) dX10_clear_5 hTo.at.ne0 rfl rfl ?_
  refine y_ic dX10_clear_6 ⟨by decide, by decide⟩ ?_
  refine y_puti (z := 1) dX10_clear_7 frX10_58 cfX10 hTo.at rfl rfl rfl ?_
  refine y_aln (i := 0) dX10_clear_10 hTo.at.ne0 rfl rfl ?_
  refine y_ic dX10_clear_11 ⟨by decide, by decide⟩ ?_
  refine y_puti (z := 2) dX10_clear_12 frX10_69 cfX10 hTo.at rfl rfl rfl ?_
  refine y_aln (i := 0) dX10_clear_15 hTo.at.ne0 rfl rfl ?_
  refine y_ic dX10_clear_16 ⟨by decide, by decide⟩ ?_
  refine y_puti (z := 3) dX10_clear_17 frX10_72 cfX10 hTo.at rfl rfl rfl ?_
  refine y_ic dX10_clear_20 ⟨by decide, by decide⟩ ?_
  refine x_istore_n (i := 1) dX10_clear_21 rfl rfl (Nat.le_of_ble_eq_true rfl) ?_
  refine x_keep [1, 1] ?_
  exact hA _ 0 _ (Nat.lt_succ_self _) (by decide) (by decide) ((((Fc.rf.ui (Or.inl rfl)).ui (Or.inl rfl)).ui (Or.inl rfl)).ui (Or.inl rfl)) (by simp [uI_eq, u1]) (fun x x0 x1 => by omega)
theorem g_X2_addOffer {l : Nat} {o : Int} (wL : PL P l) (hLo : isL n l) (hF : WF T) (h0 : I l 0 = T 0 3) (h1 : I l 1 = T 0 4) (h3 : I l 3 = o) (ho : 0 ≤ o ∧ o < OFN T) : Cv G mX2_addOffer d 0 0 [.inr (.inl l), .inl (OF T o 0), .inl (OF T o 1), .inl (OF T o 2)] n I P (qV (fun n' I' P' => n' = n ∧ P' = P ∧ Fc (sL l) I I' ∧ I' l = u1 (I l) 3 (o + 1) ∧ CLo I' l T o ∧ ∀ o', 0 ≤ o' → o' ≠ o → CLo I l T o' → CLo I' l T o')) := by
  have hl1 := hLo.1
  have f3 := hF.2.2.1
  have f2 := hF.2.1
  have hON := OFN_bd hF
  have hg : ∀ j, 0 ≤ j → j < 3 → 0 ≤ OF T o j ∧ OF T o j < T 0 2 := fun j j0 j1 => OF_bd hF ho.1 ho.2 j0 j1
  refine x_enter mfX2_addOffer rfl (Nat.le_of_ble_eq_true rfl) (fun _ => ?_)
  have hK : ∀ (K : Mem) (num kp mask sp : Int), K l = I l → (∀ j, 0 ≤ j → j < 3 → K (l + 1) (3 * o + j) = OF T o j) → (∀ c, (c < 3 * o ∨ 3 * o + 3 ≤ c) → K (l + 1) c = I (l + 1) c) → (∀ a, a ≠ l + 1 → K a = I a) → ∀ (m : Nat) (i : Int), (T 0 3 - i).toNat < m → 0 ≤ i → i ≤ T 0 3 → ∀ num kp mask sp : Int, num = numS i (OF T o) → ((i = 0 → num = 0) ∧ (i = 1 → num ≤ 8) ∧ (i = 2 → num ≤ 80) ∧ 0 ≤ num ∧ num ≤ 728) → kp = kpN (T 0 4) (OF T o) i → (0 ≤ mask ∧ mask < 256) → (∀ z, 0 ≤ z → z < 8 → andF (shrF mask z) 1 = if akN (OF T o) z i = 0 then 0 else 1) → SPI T (OF T o) i sp → V G mX2_addOffer d 0 0 73 [some (.inr (.inl l)), some (.inl (OF T o 0)), none, none, some (.inl (3 * o)), some (.inl (num)), some (.inl (kp)), some (.inl (mask)), some (.inl (sp)), some (.inl (i)), none] [] n K P (qV (fun n' I' P' => n' = n ∧ P' = P ∧ Fc (sL l) I I' ∧ I' l = u1 (I l) 3 (o + 1) ∧ CLo I' l T o ∧ ∀ o', 0 ≤ o' → o' ≠ o → CLo I l T o' → CLo I' l T o')) := by
    intro K _ _ _ _ hKl hK1 hK2 hKo m
    have k0 : K l 0 = T 0 3 := by rw [hKl]; exact h0
    have k1 : K l 1 = T 0 4 := by rw [hKl]; exact h1
    have k3 : K l 3 = o := by rw [hKl]; exact h3
    induction m with
    | zero => intro i hm; omega
    | succ m ih =>
      intro i hm hi hi2 num kp mask sp hnum hnb hkp hmk hbit hsp
      have es : numS (i + 1) (OF T o) = 9 * numS i (OF T o) + OF T o i + 1 := itN_s _ _ hi
      have ek := kpN_s (p := T 0 4) (γ := OF T o) hi
      have ea := akN_s (γ := OF T o) (s := T 0 4) hi
      have eb := akN_bd (γ := OF T o) (s := T 0 4) hi
      rw [← hnum] at es
      rw [← hkp] at ek
      have hgi := fun (z : i < T 0 3) => hg i hi (by omega)
      have hki := fun (z : i < T 0 3) => hK1 i hi (by omega)
      have hgo : i < T 0 3 → ∀ kp' sp' : Int, kp' = kpN (T 0 4) (OF T o) (i + 1) → SPI T (OF T o) (i + 1) sp' → V G mX2_addOffer d 0 0 161 [some (.inr (.inl l)), some (.inl (OF T o 0)), none, none, some (.inl (3 * o)), some (.inl (num * 9 + OF T o i + 1)), some (.inl (kp')), some (.inl (orF mask (shlF 1 (OF T o i)))), some (.inl (sp')), some (.inl (i)), none] [] n K P (qV (fun n' I' P' => n' = n ∧ P' = P ∧ Fc (sL l) I I' ∧ I' l = u1 (I l) 3 (o + 1) ∧ CLo I' l T o ∧ ∀ o', 0 ≤ o' → o' ≠ o → CLo I l T o' → CLo I' l T o')) := fun q kp' sp' hk' hs' => by
        have hgi' := hgi q
        have ho1 := fun z (z0 : 0 ≤ z) (z1 : z < 8) => orb hmk (x := OF T o i) (z := z) ⟨hgi'.1, by omega⟩ ⟨z0, z1⟩
        refine x_iinc dX2_addOffer_161 rfl ⟨by omega, by omega⟩ rfl (Nat.le_of_ble_eq_true rfl) ?_
        refine x_goto (tgt := 73) dX2_addOffer_164 rfl ?_
        refine x_keep [1, 1, 0, 0, 1, 1, 1, 1, 1, 1, 0] ?_
        refine ih (i + 1) (by omega) (by omega) (by omega) _ _ _ _ (by rw [es]; omega) ⟨by omega, by omega, by omega, by omega, by omega⟩ hk' (ho1 0 (by decide) (by decide)).1 (fun z z0 z1 => ?_) hs'
        have ez := akN_s (γ := OF T o) (s := z) hi
        have bz := akN_bd (γ := OF T o) (s := z) hi
        rw [(ho1 z z0 z1).2, ez, hbit z z0 z1]
        by_cases e : OF T o i = z
        · rw [if_pos e, if_pos e, if_neg (by omega)]
        · rw [if_neg e, if_neg e, Int.add_zero]
      have hsx : i < T 0 3 → ∀ sp' : Int, SPI T (OF T o) (i + 1) sp' → V G mX2_addOffer d 0 0 142 [some (.inr (.inl l)), some (.inl (OF T o 0)), none, none, some (.inl (3 * o)), some (.inl (num * 9 + OF T o i + 1)), some (.inl (kp)), some (.inl (orF mask (shlF 1 (OF T o i)))), some (.inl (sp')), some (.inl (i)), some (.inl (OF T o i))] [] n K P (qV (fun n' I' P' => n' = n ∧ P' = P ∧ Fc (sL l) I I' ∧ I' l = u1 (I l) 3 (o + 1) ∧ CLo I' l T o ∧ ∀ o', 0 ≤ o' → o' ≠ o → CLo I l T o' → CLo I' l T o')) := fun q sp' hs' => by
        refine x_iload (i := 6) dX2_addOffer_142 rfl ?_
        refine y_ic dX2_addOffer_144 ⟨by decide, by decide⟩ ?_
        refine x_icmp_ne (tgt := 161) dX2_addOffer_145 rfl (fun h145 => ?_) (fun h145 => ?_)
        · have e1 := ek.trans (if_neg (fun z => h145 z.1))
          refine x_keep [1, 1, 0, 0, 1, 1, 1, 1, 1, 1, 0] ?_
          exact hgo q _ _ e1.symm hs'
        · refine x_iload (i := 10) dX2_addOffer_148 rfl ?_
          refine y_aln (i := 0) dX2_addOffer_150 hLo.at.ne0 rfl rfl ?_
          refine y_geti (z := 1) dX2_addOffer_151 frX2_15 cfX2 hLo.at rfl rfl ?_
          rw [k1]
          refine x_icmp_eq (tgt := 161) dX2_addOffer_154 rfl (fun h154 => ?_) (fun h154 => ?_)
          · have e1 := ek.trans (if_neg (fun z => z.2 h154))
            refine x_keep [1, 1, 0, 0, 1, 1, 1, 1, 1, 1, 0] ?_
            exact hgo q _ _ e1.symm hs'
          · have e1 := ek.trans (if_pos ⟨by omega, h154⟩)
            refine x_iload (i := 10) dX2_addOffer_157 rfl ?_
            refine x_istore (i := 6) dX2_addOffer_159 rfl (Nat.le_of_ble_eq_true rfl) ?_
            refine x_keep [1, 1, 0, 0, 1, 1, 1, 1, 1, 1, 0] ?_
            exact hgo q _ _ e1.symm hs'
      have hn1 : num * 9 + OF T o i + 1 ≤ 1000 ∨ T 0 3 ≤ i := by
        by_cases q : i < T 0 3
        · have := hgi q; exact Or.inl (by omega)
        · exact Or.inr (by omega)
      have hsp0 : sp = 0 ∨ sp = 1 := by rcases hsp with q | q <;> omega
      have sp1 : sp = 1 → SPI T (OF T o) (i + 1) 1 := fun q => by
        refine Or.inl ⟨rfl, ?_⟩
        rcases hsp with r | r
        · rcases r.2 with r | r
          · exact Or.inl r
          · refine Or.inr ?_; rw [ea]; split <;> omega
        · omega
      have sp2 : OF T o i = T 0 4 → SPI T (OF T o) (i + 1) 1 := fun q => Or.inl ⟨rfl, Or.inr (by rw [ea, if_pos q]; omega)⟩
      have sp3 : sp = 0 → OF T o i ≠ T 0 4 → SPI T (OF T o) (i + 1) 0 := fun q q2 => by
        refine Or.inr ⟨rfl, ?_⟩
        rcases hsp with r | r
        · omega
        · rw [ea, if_neg q2, Int.add_zero]; exact r.2
      have hfin : i = T 0 3 → V G mX2_addOffer d 0 0 167 [some (.inr (.inl l)), some (.inl (OF T o 0)), none, none, none, some (.inl (num)), some (.inl (kp)), some (.inl (mask)), some (.inl (sp)), none, none] [] n K P (qV (fun n' I' P' => n' = n ∧ P' = P ∧ Fc (sL l) I I' ∧ I' l = u1 (I l) 3 (o + 1) ∧ CLo I' l T o ∧ ∀ o', 0 ≤ o' → o' ≠ o → CLo I l T o' → CLo I' l T o')) := fun q => by
        have kend := kpN_end (T := T) (γ := OF T o) f3 (fun k k0 k1 => (hg k k0 (by omega)).1)
        rw [← q, ← hkp] at kend
        have kx : ∀ v, uI K (l + 2) o v l 3 = o := fun v => by rw [uI_ne (by omega)]; exact k3
        have kx2 : ∀ v w, uI (uI K (l + 2) o v) (l + 3) o w l 3 = o := fun v w => by rw [uI_ne (by omega), uI_ne (by omega)]; exact k3
        have kx3 : ∀ v w u, uI (uI (uI K (l + 2) o v) (l + 3) o w) (l + 4) o u l 3 = o := fun v w u => by rw [uI_ne (by omega), uI_ne (by omega), uI_ne (by omega)]; exact k3
        have kx4 : ∀ v w u t, uI (uI (uI (uI K (l + 2) o v) (l + 3) o w) (l + 4) o u) (l + 5) o t l 3 = o := fun v w u t => by rw [uI_ne (by omega), uI_ne (by omega), uI_ne (by omega), uI_ne (by omega)]; exact k3
        refine y_aln (i := 0) dX2_addOffer_167 hLo.at.ne0 rfl rfl ?_
        refine y_getp (z := 5) (v := (l + 2)) dX2_addOffer_168 frX2_22 cfX2 hLo.at rfl rfl (p2_5 wL hLo) ?_
        refine y_aln (i := 0) dX2_addOffer_171 hLo.at.ne0 rfl rfl ?_
        refine y_geti (z := 3) dX2_addOffer_172 frX2_35 cfX2 hLo.at rfl rfl ?_
        rw [k3]
        refine x_iload (i := 5) dX2_addOffer_175 rfl ?_
        refine x_iast dX2_addOffer_177 (a2_5 hLo) ⟨by omega, by omega⟩ ?_
        refine y_aln (i := 0) dX2_addOffer_178 hLo.at.ne0 rfl rfl ?_
        refine y_getp (z := 6) (v := (l + 3)) dX2_addOffer_179 frX2_25 cfX2 hLo.at rfl rfl (p2_6 wL hLo) ?_
        refine y_aln (i := 0) dX2_addOffer_182 hLo.at.ne0 rfl rfl ?_
        refine y_geti (z := 3) dX2_addOffer_183 frX2_35 cfX2 hLo.at rfl rfl ?_
        rw [kx]
        refine x_iload (i := 6) dX2_addOffer_186 rfl ?_
        refine y_ic dX2_addOffer_188 ⟨by decide, by decide⟩ ?_
        refine x_icmp_ne (tgt := 196) dX2_addOffer_189 rfl (fun h189 => ?_) (fun h189 => ?_)
        · rw [if_neg h189] at kend
          refine x_iload (i := 6) dX2_addOffer_196 rfl ?_
          rw [kend]
          refine x_iast dX2_addOffer_198 (a2_6 hLo) ⟨by omega, by omega⟩ ?_
          refine y_aln (i := 0) dX2_addOffer_199 hLo.at.ne0 rfl rfl ?_
          refine y_getp (z := 7) (v := (l + 4)) dX2_addOffer_200 frX2_28 cfX2 hLo.at rfl rfl (p2_7 wL hLo) ?_
          refine y_aln (i := 0) dX2_addOffer_203 hLo.at.ne0 rfl rfl ?_
          refine y_geti (z := 3) dX2_addOffer_204 frX2_35 cfX2 hLo.at rfl rfl ?_
          rw [kx2]
          refine x_iload (i := 7) dX2_addOffer_207 rfl ?_
          refine x_iast dX2_addOffer_209 (a2_7 hLo) ⟨by omega, by omega⟩ ?_
          refine y_aln (i := 0) dX2_addOffer_210 hLo.at.ne0 rfl rfl ?_
          refine y_getp (z := 8) (v := (l + 5)) dX2_addOffer_211 frX2_31 cfX2 hLo.at rfl rfl (p2_8 wL hLo) ?_
          refine y_aln (i := 0) dX2_addOffer_214 hLo.at.ne0 rfl rfl ?_
          refine y_geti (z := 3) dX2_addOffer_215 frX2_35 cfX2 hLo.at rfl rfl ?_
          rw [kx3]
          refine x_iload (i := 8) dX2_addOffer_218 rfl ?_
          refine x_zast dX2_addOffer_220 (a2_8 hLo) ⟨by omega, by omega⟩ (by omega) ?_
          refine y_aln (i := 0) dX2_addOffer_221 hLo.at.ne0 rfl rfl ?_
          refine x_dup dX2_addOffer_222 rfl ?_
          refine y_geti (z := 3) dX2_addOffer_223 frX2_35 cfX2 hLo.at rfl rfl ?_
          rw [kx4]
          refine y_ic dX2_addOffer_226 ⟨by decide, by decide⟩ ?_
          refine x_iadd dX2_addOffer_227 ⟨by omega, by omega⟩ ?_
          refine y_puti (z := 3) dX2_addOffer_228 frX2_35 cfX2 hLo.at rfl rfl rfl ?_
          refine x_vret dX2_addOffer_231 rfl ?_
          obtain ⟨J, hJ⟩ : ∃ J, J = uI (uI (uI (uI (uI K (l + 2) o num) (l + 3) o (OF T o (keepS T (OF T o)))) (l + 4) o mask) (l + 5) o sp) l 3 (o + 1) := ⟨_, rfl⟩
          rw [← hJ]
          have j1 : J (l + 1) = K (l + 1) := by rw [hJ, uI_ne (by omega), uI_ne (by omega), uI_ne (by omega), uI_ne (by omega), uI_ne (by omega)]
          have j2 : J (l + 2) = u1 (K (l + 2)) o num := by rw [hJ, uI_ne (by omega), uI_ne (by omega), uI_ne (by omega), uI_ne (by omega), uI_eq]
          have j3 : J (l + 3) = u1 (K (l + 3)) o (OF T o (keepS T (OF T o))) := by rw [hJ, uI_ne (by omega), uI_ne (by omega), uI_ne (by omega), uI_eq, uI_ne (by omega)]
          have j4 : J (l + 4) = u1 (K (l + 4)) o mask := by rw [hJ, uI_ne (by omega), uI_ne (by omega), uI_eq, uI_ne (by omega), uI_ne (by omega)]
          have j5 : J (l + 5) = u1 (K (l + 5)) o sp := by rw [hJ, uI_ne (by omega), uI_eq, uI_ne (by omega), uI_ne (by omega), uI_ne (by omega)]
          have j0 : J l = u1 (I l) 3 (o + 1) := by rw [hJ, uI_eq, uI_ne (by omega), uI_ne (by omega), uI_ne (by omega), uI_ne (by omega), hKl]
          refine ⟨rfl, rfl, fun a ha => ?_, j0, ⟨fun j j0 j1' => by rw [j1]; exact hK1 j j0 j1', by rw [j2, u1_eq, hnum, q], by rw [j3, u1_eq], fun z z0 z1 => by rw [j4, u1_eq]; rw [q] at hbit; exact hbit z z0 z1, by rw [j5, u1_eq]; rw [q] at hsp; exact hsp⟩, fun o' o0 oo hc => hc.of (fun j j0 j1' => ?_) ?_ ?_ ?_ ?_⟩
          · have ha' : ¬ (l ≤ a ∧ a ≤ l + 5) := ha
            rw [hJ, uI_ne (by omega), uI_ne (by omega), uI_ne (by omega), uI_ne (by omega), uI_ne (by omega)]
            exact hKo a (by omega)
          · rw [j1]; exact hK2 _ (by omega)
          · rw [j2, u1_ne oo, hKo _ (by omega)]
          · rw [j3, u1_ne oo, hKo _ (by omega)]
          · rw [j4, u1_ne oo, hKo _ (by omega)]
          · rw [j5, u1_ne oo, hKo _ (by omega)]
        · rw [if_pos (by omega)] at kend
          refine x_iload_n (i := 1) dX2_addOffer_192 rfl rfl ?_
          refine x_goto (tgt := 198) dX2_addOffer_193 rfl ?_
          rw [kend]
          refine x_iast dX2_addOffer_198 (a2_6 hLo) ⟨by omega, by omega⟩ ?_
          refine y_aln (i := 0) dX2_addOffer_199 hLo.at.ne0 rfl rfl ?_
          refine y_getp (z := 7) (v := (l + 4)) dX2_addOffer_200 frX2_28 cfX2 hLo.at rfl rfl (p2_7 wL hLo) ?_
          refine y_aln (i := 0) dX2_addOffer_203 hLo.at.ne0 rfl rfl ?_
          refine y_geti (z := 3) dX2_addOffer_204 frX2_35 cfX2 hLo.at rfl rfl ?_
          rw [kx2]
          refine x_iload (i := 7) dX2_addOffer_207 rfl ?_
          refine x_iast dX2_addOffer_209 (a2_7 hLo) ⟨by omega, by omega⟩ ?_
          refine y_aln (i := 0) dX2_addOffer_210 hLo.at.ne0 rfl rfl ?_
          refine y_getp (z := 8) (v := (l + 5)) dX2_addOffer_211 frX2_31 cfX2 hLo.at rfl rfl (p2_8 wL hLo) ?_
          refine y_aln (i := 0) dX2_addOffer_214 hLo.at.ne0 rfl rfl ?_
          refine y_geti (z := 3) dX2_addOffer_215 frX2_35 cfX2 hLo.at rfl rfl ?_
          rw [kx3]
          refine x_iload (i := 8) dX2_addOffer_218 rfl ?_
          refine x_zast dX2_addOffer_220 (a2_8 hLo) ⟨by omega, by omega⟩ (by omega) ?_
          refine y_aln (i := 0) dX2_addOffer_221 hLo.at.ne0 rfl rfl ?_
          refine x_dup dX2_addOffer_222 rfl ?_
          refine y_geti (z := 3) dX2_addOffer_223 frX2_35 cfX2 hLo.at rfl rfl ?_
          rw [kx4]
          refine y_ic dX2_addOffer_226 ⟨by decide, by decide⟩ ?_
          refine x_iadd dX2_addOffer_227 ⟨by omega, by omega⟩ ?_
          refine y_puti (z := 3) dX2_addOffer_228 frX2_35 cfX2 hLo.at rfl rfl rfl ?_
          refine x_vret dX2_addOffer_231 rfl ?_
          obtain ⟨J, hJ⟩ : ∃ J, J = uI (uI (uI (uI (uI K (l + 2) o num) (l + 3) o (OF T o (keepS T (OF T o)))) (l + 4) o mask) (l + 5) o sp) l 3 (o + 1) := ⟨_, rfl⟩
          rw [← hJ]
          have j1 : J (l + 1) = K (l + 1) := by rw [hJ, uI_ne (by omega), uI_ne (by omega), uI_ne (by omega), uI_ne (by omega), uI_ne (by omega)]
          have j2 : J (l + 2) = u1 (K (l + 2)) o num := by rw [hJ, uI_ne (by omega), uI_ne (by omega), uI_ne (by omega), uI_ne (by omega), uI_eq]
          have j3 : J (l + 3) = u1 (K (l + 3)) o (OF T o (keepS T (OF T o))) := by rw [hJ, uI_ne (by omega), uI_ne (by omega), uI_ne (by omega), uI_eq, uI_ne (by omega)]
          have j4 : J (l + 4) = u1 (K (l + 4)) o mask := by rw [hJ, uI_ne (by omega), uI_ne (by omega), uI_eq, uI_ne (by omega), uI_ne (by omega)]
          have j5 : J (l + 5) = u1 (K (l + 5)) o sp := by rw [hJ, uI_ne (by omega), uI_eq, uI_ne (by omega), uI_ne (by omega), uI_ne (by omega)]
          have j0 : J l = u1 (I l) 3 (o + 1) := by rw [hJ, uI_eq, uI_ne (by omega), uI_ne (by omega), uI_ne (by omega), uI_ne (by omega), hKl]
          refine ⟨rfl, rfl, fun a ha => ?_, j0, ⟨fun j j0 j1' => by rw [j1]; exact hK1 j j0 j1', by rw [j2, u1_eq, hnum, q], by rw [j3, u1_eq], fun z z0 z1 => by rw [j4, u1_eq]; rw [q] at hbit; exact hbit z z0 z1, by rw [j5, u1_eq]; rw [q] at hsp; exact hsp⟩, fun o' o0 oo hc => hc.of (fun j j0 j1' => ?_) ?_ ?_ ?_ ?_⟩
          · have ha' : ¬ (l ≤ a ∧ a ≤ l + 5) := ha
            rw [hJ, uI_ne (by omega), uI_ne (by omega), uI_ne (by omega), uI_ne (by omega), uI_ne (by omega)]
            exact hKo a (by omega)
          · rw [j1]; exact hK2 _ (by omega)
          · rw [j2, u1_ne oo, hKo _ (by omega)]
          · rw [j3, u1_ne oo, hKo _ (by omega)]
          · rw [j4, u1_ne oo, hKo _ (by omega)]
          · rw [j5, u1_ne oo, hKo _ (by omega)]
      refine x_iload (i := 9) dX2_addOffer_73 rfl ?_
      refine y_aln (i := 0) dX2_addOffer_75 hLo.at.ne0 rfl rfl ?_
      refine y_geti (z := 0) dX2_addOffer_76 frX2_9 cfX2 hLo.at rfl rfl ?_
      rw [k0]
      refine x_icmp_ge (tgt := 167) dX2_addOffer_79 rfl (fun h79 => ?_) (fun h79 => ?_)
      · refine x_keep [1, 1, 0, 0, 0, 1, 1, 1, 1, 0, 0] ?_
        exact hfin (by omega)
      · have hgi' := hgi (by omega)
        have hki' := hki (by omega)
        refine x_iload (i := 9) dX2_addOffer_82 rfl ?_
        refine y_ic dX2_addOffer_84 ⟨by decide, by decide⟩ ?_
        refine x_icmp_ge (tgt := 167) dX2_addOffer_85 rfl (fun h85 => ?_) (fun h85 => ?_)
        · refine x_keep [1, 1, 0, 0, 0, 1, 1, 1, 1, 0, 0] ?_
          exact hfin (by omega)
        · refine y_aln (i := 0) dX2_addOffer_88 hLo.at.ne0 rfl rfl ?_
          refine y_getp (z := 4) (v := (l + 1)) dX2_addOffer_89 frX2_18 cfX2 hLo.at rfl rfl (p2_4 wL hLo) ?_
          refine x_iload (i := 4) dX2_addOffer_92 rfl ?_
          refine x_iload (i := 9) dX2_addOffer_94 rfl ?_
          refine x_iadd dX2_addOffer_96 ⟨by omega, by omega⟩ ?_
          refine x_iald dX2_addOffer_97 (a2_4 hLo) ⟨by omega, by omega⟩ ?_
          rw [hki']
          refine x_istore (i := 10) dX2_addOffer_98 rfl (Nat.le_of_ble_eq_true rfl) ?_
          refine x_iload (i := 5) dX2_addOffer_100 rfl ?_
          refine y_bi dX2_addOffer_102 ⟨by decide, by decide⟩ ?_
          refine x_imul dX2_addOffer_104 ⟨by omega, by omega⟩ ?_
          refine x_iload (i := 10) dX2_addOffer_105 rfl ?_
          refine x_iadd dX2_addOffer_107 ⟨by omega, by omega⟩ ?_
          refine y_ic dX2_addOffer_108 ⟨by decide, by decide⟩ ?_
          refine x_iadd dX2_addOffer_109 ⟨by omega, by omega⟩ ?_
          refine x_istore (i := 5) dX2_addOffer_110 rfl (Nat.le_of_ble_eq_true rfl) ?_
          refine x_iload (i := 7) dX2_addOffer_112 rfl ?_
          refine y_ic dX2_addOffer_114 ⟨by decide, by decide⟩ ?_
          refine x_iload (i := 10) dX2_addOffer_115 rfl ?_
          refine y_ishl dX2_addOffer_117 ?_
          refine y_ior dX2_addOffer_118 ?_
          refine x_istore (i := 7) dX2_addOffer_119 rfl (Nat.le_of_ble_eq_true rfl) ?_
          refine x_iload (i := 8) dX2_addOffer_121 rfl ?_
          refine x_if_ne (tgt := 135) dX2_addOffer_123 rfl (fun h123 => ?_) (fun h123 => ?_)
          · refine y_ic dX2_addOffer_135 ⟨by decide, by decide⟩ ?_
            refine x_goto (tgt := 140) dX2_addOffer_136 rfl ?_
            refine x_istore (i := 8) dX2_addOffer_140 rfl (Nat.le_of_ble_eq_true rfl) ?_
            refine x_keep [1, 1, 0, 0, 1, 1, 1, 1, 1, 1, 1] ?_
            first | exact hsx (by omega) 1 (sp1 (by omega)) | exact hsx (by omega) 1 (sp2 (by omega)) | exact hsx (by omega) 0 (sp3 (by omega) (by omega))
          · refine x_iload (i := 10) dX2_addOffer_126 rfl ?_
            refine y_aln (i := 0) dX2_addOffer_128 hLo.at.ne0 rfl rfl ?_
            refine y_geti (z := 1) dX2_addOffer_129 frX2_15 cfX2 hLo.at rfl rfl ?_
            rw [k1]
            refine x_icmp_ne (tgt := 139) dX2_addOffer_132 rfl (fun h132 => ?_) (fun h132 => ?_)
            · refine y_ic dX2_addOffer_139 ⟨by decide, by decide⟩ ?_
              refine x_istore (i := 8) dX2_addOffer_140 rfl (Nat.le_of_ble_eq_true rfl) ?_
              refine x_keep [1, 1, 0, 0, 1, 1, 1, 1, 1, 1, 1] ?_
              first | exact hsx (by omega) 1 (sp1 (by omega)) | exact hsx (by omega) 1 (sp2 (by omega)) | exact hsx (by omega) 0 (sp3 (by omega) (by omega))
            · refine y_ic dX2_addOffer_135 ⟨by decide, by decide⟩ ?_
              refine x_goto (tgt := 140) dX2_addOffer_136 rfl ?_
              refine x_istore (i := 8) dX2_addOffer_140 rfl (Nat.le_of_ble_eq_true rfl) ?_
              refine x_keep [1, 1, 0, 0, 1, 1, 1, 1, 1, 1, 1] ?_
              first | exact hsx (by omega) 1 (sp1 (by omega)) | exact hsx (by omega) 1 (sp2 (by omega)) | exact hsx (by omega) 0 (sp3 (by omega) (by omega))
  obtain ⟨M, hM⟩ : ∃ M, M = uI (uI (uI I (l + 1) (3 * o) (OF T o 0)) (l + 1) (3 * o + 1) (OF T o 1)) (l + 1) (3 * o + 2) (OF T o 2) := ⟨_, rfl⟩
  have m0 : M l = I l := by rw [hM, uI_ne (by omega), uI_ne (by omega), uI_ne (by omega)]
  have m1 : M l 1 = T 0 4 := by rw [m0]; exact h1
  have m2 : M (l + 1) = u1 (u1 (u1 (I (l + 1)) (3 * o) (OF T o 0)) (3 * o + 1) (OF T o 1)) (3 * o + 2) (OF T o 2) := by rw [hM, uI_eq, uI_eq, uI_eq]
  have m3 : ∀ j, 0 ≤ j → j < 3 → M (l + 1) (3 * o + j) = OF T o j := fun j j0 j1 => by
    rw [m2]
    have : j = 0 ∨ j = 1 ∨ j = 2 := by omega
    rcases this with rfl | rfl | rfl
    · rw [u1_ne (by omega), u1_ne (by omega), Int.add_zero, u1_eq]
    · rw [u1_ne (by omega), u1_eq]
    · rw [u1_eq]
  have hgo : ∀ sp, SPI T (OF T o) 0 sp → V G mX2_addOffer d 0 0 73 [some (.inr (.inl l)), some (.inl (OF T o 0)), none, none, some (.inl (3 * o)), some (.inl (0)), some (.inl (-1)), some (.inl (0)), some (.inl (sp)), some (.inl (0)), none] [] n M P (qV (fun n' I' P' => n' = n ∧ P' = P ∧ Fc (sL l) I I' ∧ I' l = u1 (I l) 3 (o + 1) ∧ CLo I' l T o ∧ ∀ o', 0 ≤ o' → o' ≠ o → CLo I l T o' → CLo I' l T o')) := fun sp hsp => hK M 0 0 0 0 m0 m3 (fun c hc => by rw [m2, u1_ne (by omega), u1_ne (by omega), u1_ne (by omega)]) (fun a ha => by rw [hM, uI_ne ha, uI_ne ha, uI_ne ha]) _ 0 (Nat.lt_succ_self _) (by decide) (by omega) 0 (-1) 0 sp rfl ⟨by omega, by omega, by omega, by omega, by omega⟩ rfl ⟨by decide, by decide⟩ (fun z z0 z1 => by
    rw [show akN (OF T o) z 0 = 0 from rfl, if_pos rfl]
    have : z = 0 ∨ z = 1 ∨ z = 2 ∨ z = 3 ∨ z = 4 ∨ z = 5 ∨ z = 6 ∨ z = 7 := by omega
    rcases this with rfl | rfl | rfl | rfl | rfl | rfl | rfl | rfl <;> rfl) hsp
  refine y_aln (i := 0) dX2_addOffer_0 hLo.at.ne0 rfl rfl ?_
  refine y_geti (z := 3) dX2_addOffer_1 frX2_35 cfX2 hLo.at rfl rfl ?_
  rw [h3]
  refine y_bi dX2_addOffer_4 ⟨by decide, by decide⟩ ?_
  refine x_icmp_lt (tgt := 10) dX2_addOffer_6 rfl (fun h6 => ?_) (fun h6 => ?_)
  · refine y_aln (i := 0) dX2_addOffer_10 hLo.at.ne0 rfl rfl ?_
    refine y_geti (z := 3) dX2_addOffer_11 frX2_35 cfX2 hLo.at rfl rfl ?_
    rw [h3]
    refine y_ic dX2_addOffer_14 ⟨by decide, by decide⟩ ?_
    refine x_imul dX2_addOffer_15 ⟨by omega, by omega⟩ ?_
    rw [Int.mul_comm o 3]
    refine x_istore (i := 4) dX2_addOffer_16 rfl (Nat.le_of_ble_eq_true rfl) ?_
    refine y_aln (i := 0) dX2_addOffer_18 hLo.at.ne0 rfl rfl ?_
    refine y_getp (z := 4) (v := (l + 1)) dX2_addOffer_19 frX2_18 cfX2 hLo.at rfl rfl (p2_4 wL hLo) ?_
    refine x_iload (i := 4) dX2_addOffer_22 rfl ?_
    refine x_iload_n (i := 1) dX2_addOffer_24 rfl rfl ?_
    refine x_iast dX2_addOffer_25 (a2_4 hLo) ⟨by omega, by omega⟩ ?_
    refine y_aln (i := 0) dX2_addOffer_26 hLo.at.ne0 rfl rfl ?_
    refine y_getp (z := 4) (v := (l + 1)) dX2_addOffer_27 frX2_18 cfX2 hLo.at rfl rfl (p2_4 wL hLo) ?_
    refine x_iload (i := 4) dX2_addOffer_30 rfl ?_
    refine y_ic dX2_addOffer_32 ⟨by decide, by decide⟩ ?_
    refine x_iadd dX2_addOffer_33 ⟨by omega, by omega⟩ ?_
    refine x_iload_n (i := 2) dX2_addOffer_34 rfl rfl ?_
    refine x_iast dX2_addOffer_35 (a2_4 hLo) ⟨by omega, by omega⟩ ?_
    refine y_aln (i := 0) dX2_addOffer_36 hLo.at.ne0 rfl rfl ?_
    refine y_getp (z := 4) (v := (l + 1)) dX2_addOffer_37 frX2_18 cfX2 hLo.at rfl rfl (p2_4 wL hLo) ?_
    refine x_iload (i := 4) dX2_addOffer_40 rfl ?_
    refine y_ic dX2_addOffer_42 ⟨by decide, by decide⟩ ?_
    refine x_iadd dX2_addOffer_43 ⟨by omega, by omega⟩ ?_
    refine x_iload_n (i := 3) dX2_addOffer_44 rfl rfl ?_
    refine x_iast dX2_addOffer_45 (a2_4 hLo) ⟨by omega, by omega⟩ ?_
    refine y_ic dX2_addOffer_46 ⟨by decide, by decide⟩ ?_
    refine x_istore (i := 5) dX2_addOffer_47 rfl (Nat.le_of_ble_eq_true rfl) ?_
    refine y_ic dX2_addOffer_49 ⟨by decide, by decide⟩ ?_
    refine x_istore (i := 6) dX2_addOffer_50 rfl (Nat.le_of_ble_eq_true rfl) ?_
    refine y_ic dX2_addOffer_52 ⟨by decide, by decide⟩ ?_
    refine x_istore (i := 7) dX2_addOffer_53 rfl (Nat.le_of_ble_eq_true rfl) ?_
    rw [← hM]
    refine y_aln (i := 0) dX2_addOffer_55 hLo.at.ne0 rfl rfl ?_
    refine y_geti (z := 1) dX2_addOffer_56 frX2_15 cfX2 hLo.at rfl rfl ?_
    rw [m1]
    refine y_ic dX2_addOffer_59 ⟨by decide, by decide⟩ ?_
    refine x_icmp_ne (tgt := 67) dX2_addOffer_60 rfl (fun h60 => ?_) (fun h60 => ?_)
    · have e60 : SPI T (OF T o) 0 0 := Or.inr ⟨rfl, fun q => by rcases q with q | q; exact h60 q; exact absurd q (by show ¬ (0 : Int) < 0; decide)⟩
      refine y_ic dX2_addOffer_67 ⟨by decide, by decide⟩ ?_
      refine x_istore (i := 8) dX2_addOffer_68 rfl (Nat.le_of_ble_eq_true rfl) ?_
      refine y_ic dX2_addOffer_70 ⟨by decide, by decide⟩ ?_
      refine x_istore (i := 9) dX2_addOffer_71 rfl (Nat.le_of_ble_eq_true rfl) ?_
      refine x_keep [1, 1, 0, 0, 1, 1, 1, 1, 1, 1, 0] ?_
      exact hgo _ e60
    · have e60 : SPI T (OF T o) 0 1 := Or.inl ⟨rfl, Or.inl (by omega)⟩
      refine y_ic dX2_addOffer_63 ⟨by decide, by decide⟩ ?_
      refine x_goto (tgt := 68) dX2_addOffer_64 rfl ?_
      refine x_istore (i := 8) dX2_addOffer_68 rfl (Nat.le_of_ble_eq_true rfl) ?_
      refine y_ic dX2_addOffer_70 ⟨by decide, by decide⟩ ?_
      refine x_istore (i := 9) dX2_addOffer_71 rfl (Nat.le_of_ble_eq_true rfl) ?_
      refine x_keep [1, 1, 0, 0, 1, 1, 1, 1, 1, 1, 0] ?_
      exact hgo _ e60
  · exact absurd hON.2 (by omega)
theorem g_X2_makeOffers {l : Nat} {so : Int} (wL : PL P l) (hLo : isL n l) (hF : WF T) (h0 : I l 0 = T 0 3) (h1 : I l 1 = T 0 4) (hso : so = T 0 2) : Cv G mX2_makeOffers (d + 1) 0 0 [.inr (.inl l), .inl so] n I P (qV (fun n' I' P' => n' = n ∧ P' = P ∧ Fc (sL l) I I' ∧ I' l = u1 (I l) 3 (OFN T) ∧ ∀ o, 0 ≤ o → o < OFN T → CLo I' l T o)) := by
  have hl1 := hLo.1
  have f3 := hF.2.2.1
  have f2 := hF.2.1
  have hON := OFN_bd hF
  subst hso
  refine x_enter mfX2_makeOffers rfl (Nat.le_of_ble_eq_true rfl) (fun _ => ?_)
  have hY : ∀ (K : Mem) (x yl y : Int), K l 0 = T 0 3 → (0 ≤ y ∧ y ≤ yl ∧ yl ≤ 8) → V G mX2_makeOffers (d + 1) 0 0 59 [some (.inr (.inl l)), some (.inl (T 0 2)), some (.inl (x)), some (.inl (yl)), some (.inl (y)), some (.inl (ofZL (T 0 3) (T 0 2) y)), some (.inl (y))] [] n K P (qV (fun n' I' P' => n' = n ∧ P' = P ∧ Fc (sL l) I I' ∧ I' l = u1 (I l) 3 (OFN T) ∧ ∀ o, 0 ≤ o → o < OFN T → CLo I' l T o)) → V G mX2_makeOffers (d + 1) 0 0 31 [some (.inr (.inl l)), some (.inl (T 0 2)), some (.inl (x)), some (.inl (yl)), some (.inl (y)), none, none] [] n K P (qV (fun n' I' P' => n' = n ∧ P' = P ∧ Fc (sL l) I I' ∧ I' l = u1 (I l) 3 (OFN T) ∧ ∀ o, 0 ≤ o → o < OFN T → CLo I' l T o)) := fun K x yl y k0 hy kk => by
    refine x_iload (i := 4) dX2_makeOffers_31 rfl ?_
    refine x_iload_n (i := 3) dX2_makeOffers_33 rfl rfl ?_
    refine x_icmp_gt (tgt := 87) dX2_makeOffers_34 rfl (fun h34 => ?_) (fun h34 => ?_)
    · omega
    · refine y_aln (i := 0) dX2_makeOffers_37 hLo.at.ne0 rfl rfl ?_
      refine y_geti (z := 0) dX2_makeOffers_38 frX2_9 cfX2 hLo.at rfl rfl ?_
      rw [k0]
      refine y_ic dX2_makeOffers_41 ⟨by decide, by decide⟩ ?_
      refine x_icmp_le (tgt := 51) dX2_makeOffers_42 rfl (fun h42 => ?_) (fun h42 => ?_)
      · have e42 : ofZL (T 0 3) (T 0 2) y = y := if_neg (by omega)
        refine x_iload (i := 4) dX2_makeOffers_51 rfl ?_
        refine x_istore (i := 5) dX2_makeOffers_53 rfl (Nat.le_of_ble_eq_true rfl) ?_
        refine x_iload (i := 4) dX2_makeOffers_55 rfl ?_
        refine x_istore (i := 6) dX2_makeOffers_57 rfl (Nat.le_of_ble_eq_true rfl) ?_
        refine x_keep [1, 1, 1, 1, 1, 1, 1] ?_
        rw [e42] at kk
        exact kk
      · have e42 : ofZL (T 0 3) (T 0 2) y = T 0 2 - 1 := if_pos (by omega)
        refine x_iload_n (i := 1) dX2_makeOffers_45 rfl rfl ?_
        refine y_ic dX2_makeOffers_46 ⟨by decide, by decide⟩ ?_
        refine x_isub dX2_makeOffers_47 ⟨by omega, by omega⟩ ?_
        refine x_goto (tgt := 53) dX2_makeOffers_48 rfl ?_
        refine x_istore (i := 5) dX2_makeOffers_53 rfl (Nat.le_of_ble_eq_true rfl) ?_
        refine x_iload (i := 4) dX2_makeOffers_55 rfl ?_
        refine x_istore (i := 6) dX2_makeOffers_57 rfl (Nat.le_of_ble_eq_true rfl) ?_
        refine x_keep [1, 1, 1, 1, 1, 1, 1] ?_
        rw [e42] at kk
        exact kk
  have hX : ∀ (K : Mem) (x : Int), K l 0 = T 0 3 → (0 ≤ x ∧ x < T 0 2) → V G mX2_makeOffers (d + 1) 0 0 59 [some (.inr (.inl l)), some (.inl (T 0 2)), some (.inl (x)), some (.inl (ofYL (T 0 3) (T 0 2) x)), some (.inl (x)), some (.inl (ofZL (T 0 3) (T 0 2) x)), some (.inl (x))] [] n K P (qV (fun n' I' P' => n' = n ∧ P' = P ∧ Fc (sL l) I I' ∧ I' l = u1 (I l) 3 (OFN T) ∧ ∀ o, 0 ≤ o → o < OFN T → CLo I' l T o)) → V G mX2_makeOffers (d + 1) 0 0 7 [some (.inr (.inl l)), some (.inl (T 0 2)), some (.inl (x)), none, none, none, none] [] n K P (qV (fun n' I' P' => n' = n ∧ P' = P ∧ Fc (sL l) I I' ∧ I' l = u1 (I l) 3 (OFN T) ∧ ∀ o, 0 ≤ o → o < OFN T → CLo I' l T o)) := fun K x k0 hx kk => by
    refine x_iload_n (i := 2) dX2_makeOffers_7 rfl rfl ?_
    refine x_iload_n (i := 1) dX2_makeOffers_8 rfl rfl ?_
    refine x_icmp_ge (tgt := 93) dX2_makeOffers_9 rfl (fun h9 => ?_) (fun h9 => ?_)
    · omega
    · refine y_aln (i := 0) dX2_makeOffers_12 hLo.at.ne0 rfl rfl ?_
      refine y_geti (z := 0) dX2_makeOffers_13 frX2_9 cfX2 hLo.at rfl rfl ?_
      rw [k0]
      refine y_ic dX2_makeOffers_16 ⟨by decide, by decide⟩ ?_
      refine x_icmp_le (tgt := 26) dX2_makeOffers_17 rfl (fun h17 => ?_) (fun h17 => ?_)
      · have e17 : ofYL (T 0 3) (T 0 2) x = x := if_neg (by omega)
        refine x_iload_n (i := 2) dX2_makeOffers_26 rfl rfl ?_
        refine x_istore_n (i := 3) dX2_makeOffers_27 rfl rfl (Nat.le_of_ble_eq_true rfl) ?_
        refine x_iload_n (i := 2) dX2_makeOffers_28 rfl rfl ?_
        refine x_istore (i := 4) dX2_makeOffers_29 rfl (Nat.le_of_ble_eq_true rfl) ?_
        refine x_keep [1, 1, 1, 1, 1, 0, 0] ?_
        rw [e17] at kk
        exact hY K _ _ _ k0 (by omega) kk
      · have e17 : ofYL (T 0 3) (T 0 2) x = T 0 2 - 1 := if_pos (by omega)
        refine x_iload_n (i := 1) dX2_makeOffers_20 rfl rfl ?_
        refine y_ic dX2_makeOffers_21 ⟨by decide, by decide⟩ ?_
        refine x_isub dX2_makeOffers_22 ⟨by omega, by omega⟩ ?_
        refine x_goto (tgt := 27) dX2_makeOffers_23 rfl ?_
        refine x_istore_n (i := 3) dX2_makeOffers_27 rfl rfl (Nat.le_of_ble_eq_true rfl) ?_
        refine x_iload_n (i := 2) dX2_makeOffers_28 rfl rfl ?_
        refine x_istore (i := 4) dX2_makeOffers_29 rfl (Nat.le_of_ble_eq_true rfl) ?_
        refine x_keep [1, 1, 1, 1, 1, 0, 0] ?_
        rw [e17] at kk
        exact hY K _ _ _ k0 (by omega) kk
  have hZ : ∀ (m : Nat) (o : Int) (K : Mem), (OFN T - o).toNat < m → 0 ≤ o → o < OFN T → Fc (sL l) I K → K l = u1 (I l) 3 o → (∀ o', 0 ≤ o' → o' < o → CLo K l T o') → V G mX2_makeOffers (d + 1) 0 0 59 [some (.inr (.inl l)), some (.inl (T 0 2)), some (.inl (OF T o 0)), some (.inl (ofYL (T 0 3) (T 0 2) (OF T o 0))), some (.inl (OF T o 1)), some (.inl (ofZL (T 0 3) (T 0 2) (OF T o 1))), some (.inl (OF T o 2))] [] n K P (qV (fun n' I' P' => n' = n ∧ P' = P ∧ Fc (sL l) I I' ∧ I' l = u1 (I l) 3 (OFN T) ∧ ∀ o, 0 ≤ o → o < OFN T → CLo I' l T o)) := by
    intro m
    induction m with
    | zero => intro o K hm; omega
    | succ m ih =>
      intro o K hm ho ho2 hFr hl hc
      obtain ⟨s0, s1, s2, s3, s4⟩ := OF_st hF ⟨ho, ho2⟩
      have b0 := OF_bd hF ho ho2 (j := 0) (by decide) (by decide)
      have b1 := OF_bd hF ho ho2 (j := 1) (by decide) (by decide)
      have b2 := OF_bd hF ho ho2 (j := 2) (by decide) (by decide)
      have k0 : K l 0 = T 0 3 := by rw [hl, u1_ne (by decide)]; exact h0
      have k1 : K l 1 = T 0 4 := by rw [hl, u1_ne (by decide)]; exact h1
      have k3 : K l 3 = o := by rw [hl, u1_eq]
      have hnext : ∀ K' : Mem, Fc (sL l) I K' → K' l = u1 (I l) 3 (o + 1) → (∀ o', 0 ≤ o' → o' < o + 1 → CLo K' l T o') → V G mX2_makeOffers (d + 1) 0 0 75 [some (.inr (.inl l)), some (.inl (T 0 2)), some (.inl (OF T o 0)), some (.inl (ofYL (T 0 3) (T 0 2) (OF T o 0))), some (.inl (OF T o 1)), some (.inl (ofZL (T 0 3) (T 0 2) (OF T o 1))), some (.inl (OF T o 2))] [] n K' P (qV (fun n' I' P' => n' = n ∧ P' = P ∧ Fc (sL l) I I' ∧ I' l = u1 (I l) 3 (OFN T) ∧ ∀ o, 0 ≤ o → o < OFN T → CLo I' l T o)) := fun K' fr' l' c' => by
        have g0 : K' l 0 = T 0 3 := by rw [l', u1_ne (by decide)]; exact h0
        have gz : ∀ y, y < T 0 2 → ofZL (T 0 3) (T 0 2) y ≤ T 0 2 := fun y hy => by unfold ofZL; split <;> omega
        have gy : ∀ y, y < T 0 2 → ofYL (T 0 3) (T 0 2) y ≤ T 0 2 := fun y hy => by unfold ofYL; split <;> omega
        have gz1 := gz _ b1.2
        have gy1 := gy _ b0.2
        by_cases q1 : OF T o 2 < ofZL (T 0 3) (T 0 2) (OF T o 1)
        · obtain ⟨n1, n2, n3, n4⟩ := s1 q1
          have hh := ih (o + 1) K' (by omega) (by omega) n1 fr' l' c'
          rw [n2, n3, n4] at hh
          refine x_iinc dX2_makeOffers_75 rfl ⟨by omega, by omega⟩ rfl (Nat.le_of_ble_eq_true rfl) ?_
          refine x_goto (tgt := 59) dX2_makeOffers_78 rfl ?_
          refine x_keep [1, 1, 1, 1, 1, 1, 1] ?_
          exact hh
        · by_cases q2 : OF T o 1 < ofYL (T 0 3) (T 0 2) (OF T o 0)
          · obtain ⟨n1, n2, n3, n4⟩ := s2 (by omega) q2
            have hh := ih (o + 1) K' (by omega) (by omega) n1 fr' l' c'
            rw [n2, n3, n4] at hh
            refine x_iinc dX2_makeOffers_75 rfl ⟨by omega, by omega⟩ rfl (Nat.le_of_ble_eq_true rfl) ?_
            refine x_goto (tgt := 59) dX2_makeOffers_78 rfl ?_
            refine x_iload (i := 6) dX2_makeOffers_59 rfl ?_
            refine x_iload (i := 5) dX2_makeOffers_61 rfl ?_
            refine x_icmp_gt (tgt := 81) dX2_makeOffers_63 rfl (fun h63 => ?_) (fun h63 => ?_)
            · refine x_iinc dX2_makeOffers_81 rfl ⟨by omega, by omega⟩ rfl (Nat.le_of_ble_eq_true rfl) ?_
              refine x_goto (tgt := 31) dX2_makeOffers_84 rfl ?_
              refine x_keep [1, 1, 1, 1, 1, 0, 0] ?_
              exact hY K' _ _ _ g0 (by omega) hh
            · omega
          · by_cases q3 : OF T o 0 < T 0 2 - 1
            · obtain ⟨n1, n2, n3, n4⟩ := s3 (by omega) (by omega) q3
              have hh := ih (o + 1) K' (by omega) (by omega) n1 fr' l' c'
              rw [n2, n3, n4] at hh
              refine x_iinc dX2_makeOffers_75 rfl ⟨by omega, by omega⟩ rfl (Nat.le_of_ble_eq_true rfl) ?_
              refine x_goto (tgt := 59) dX2_makeOffers_78 rfl ?_
              refine x_iload (i := 6) dX2_makeOffers_59 rfl ?_
              refine x_iload (i := 5) dX2_makeOffers_61 rfl ?_
              refine x_icmp_gt (tgt := 81) dX2_makeOffers_63 rfl (fun h63 => ?_) (fun h63 => ?_)
              · refine x_iinc dX2_makeOffers_81 rfl ⟨by omega, by omega⟩ rfl (Nat.le_of_ble_eq_true rfl) ?_
                refine x_goto (tgt := 31) dX2_makeOffers_84 rfl ?_
                refine x_iload (i := 4) dX2_makeOffers_31 rfl ?_
                refine x_iload_n (i := 3) dX2_makeOffers_33 rfl rfl ?_
                refine x_icmp_gt (tgt := 87) dX2_makeOffers_34 rfl (fun h34 => ?_) (fun h34 => ?_)
                · refine x_iinc dX2_makeOffers_87 rfl ⟨by omega, by omega⟩ rfl (Nat.le_of_ble_eq_true rfl) ?_
                  refine x_goto (tgt := 7) dX2_makeOffers_90 rfl ?_
                  refine x_keep [1, 1, 1, 0, 0, 0, 0] ?_
                  exact hX K' _ g0 (by omega) hh
                · omega
              · omega
            · have n1 := s4 (by omega) (by omega) (by omega)
              refine x_iinc dX2_makeOffers_75 rfl ⟨by omega, by omega⟩ rfl (Nat.le_of_ble_eq_true rfl) ?_
              refine x_goto (tgt := 59) dX2_makeOffers_78 rfl ?_
              refine x_iload (i := 6) dX2_makeOffers_59 rfl ?_
              refine x_iload (i := 5) dX2_makeOffers_61 rfl ?_
              refine x_icmp_gt (tgt := 81) dX2_makeOffers_63 rfl (fun h63 => ?_) (fun h63 => ?_)
              · refine x_iinc dX2_makeOffers_81 rfl ⟨by omega, by omega⟩ rfl (Nat.le_of_ble_eq_true rfl) ?_
                refine x_goto (tgt := 31) dX2_makeOffers_84 rfl ?_
                refine x_iload (i := 4) dX2_makeOffers_31 rfl ?_
                refine x_iload_n (i := 3) dX2_makeOffers_33 rfl rfl ?_
                refine x_icmp_gt (tgt := 87) dX2_makeOffers_34 rfl (fun h34 => ?_) (fun h34 => ?_)
                · refine x_iinc dX2_makeOffers_87 rfl ⟨by omega, by omega⟩ rfl (Nat.le_of_ble_eq_true rfl) ?_
                  refine x_goto (tgt := 7) dX2_makeOffers_90 rfl ?_
                  refine x_iload_n (i := 2) dX2_makeOffers_7 rfl rfl ?_
                  refine x_iload_n (i := 1) dX2_makeOffers_8 rfl rfl ?_
                  refine x_icmp_ge (tgt := 93) dX2_makeOffers_9 rfl (fun h9 => ?_) (fun h9 => ?_)
                  · refine x_vret dX2_makeOffers_93 rfl ?_
                    exact ⟨rfl, rfl, fr', by rw [l', n1], fun o' o0 o1 => c' o' o0 (by omega)⟩
                  · omega
                · omega
              · omega
      refine x_iload (i := 6) dX2_makeOffers_59 rfl ?_
      refine x_iload (i := 5) dX2_makeOffers_61 rfl ?_
      refine x_icmp_gt (tgt := 81) dX2_makeOffers_63 rfl (fun h63 => ?_) (fun h63 => ?_)
      · omega
      · refine y_aln (i := 0) dX2_makeOffers_66 hLo.at.ne0 rfl rfl ?_
        refine x_iload_n (i := 2) dX2_makeOffers_67 rfl rfl ?_
        refine x_iload (i := 4) dX2_makeOffers_68 rfl ?_
        refine x_iload (i := 6) dX2_makeOffers_70 rfl ?_
        refine x_callVV (g_X2_addOffer wL hLo hF k0 k1 k3 ⟨ho, ho2⟩) dX2_makeOffers_72 lkX2_38 mfX2_addOffer cfX2 hLo.at rfl rfl rfl rfl (Nat.le_of_ble_eq_true rfl) (fun n72 I72 P72 hf72 => ?_)
        obtain ⟨rfl, rfl, fr72, l72, c72, cc72⟩ := hf72
        refine x_keep [1, 1, 1, 1, 1, 1, 1] ?_
        refine hnext I72 (hFr.tr fr72) (by rw [l72, hl]; funext k; unfold u1; split <;> rfl) (fun o' o0 o1 => ?_)
        by_cases e : o' = o
        · rw [e]; exact c72
        · exact cc72 o' o0 e (hc o' o0 (by omega))
  obtain ⟨z0, z1, z2⟩ := OF_00 hF
  have f0 : Fc (sL l) I (uI I l 3 0) := Fc.rf.ui ⟨Nat.le_refl _, by omega⟩
  have hh := hZ _ 0 (uI I l 3 0) (Nat.lt_succ_self _) (by decide) hON.1 f0 uI_eq (fun o' o0 o1 => by omega)
  rw [z0, z1, z2] at hh
  refine y_aln (i := 0) dX2_makeOffers_0 hLo.at.ne0 rfl rfl ?_
  refine y_ic dX2_makeOffers_1 ⟨by decide, by decide⟩ ?_
  refine y_puti (z := 3) dX2_makeOffers_2 frX2_35 cfX2 hLo.at rfl rfl rfl ?_
  refine y_ic dX2_makeOffers_5 ⟨by decide, by decide⟩ ?_
  refine x_istore_n (i := 2) dX2_makeOffers_6 rfl rfl (Nat.le_of_ble_eq_true rfl) ?_
  refine x_keep [1, 1, 1, 0, 0, 0, 0] ?_
  exact hX _ 0 (by rw [uI_eq, u1_ne (by decide)]; exact h0) (by omega) hh
end

