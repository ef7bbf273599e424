/-! ===== the reference: days, ends, ties ===== -/
section
variable {G : HX} {d : Nat} {I : Mem} {P : Ptr} {T : Tn}
theorem Cv.impI {G : HX} {Y : MI} {d kc ks : Nat} {args : List AV} {n n' : Nat} {I : Mem} {P : Ptr} {f f' : Int → Mem → Ptr → Prop} (h : Cv G Y d kc ks args n I P (qI n' f)) (hf : ∀ r I' P', f r I' P' → f' r I' P') : Cv G Y d kc ks args n I P (qI n' f') := Cv.imp h (fun o m J P' ⟨h1, r, h2, h3⟩ => ⟨h1, r, h2, hf r J P' h3⟩)
theorem c_X12_right2 {b w : Int} (hW : WP P) (h0 : I 91 0 = 0) (hb : b = 0 ∨ b = 1) (hw : w ≠ 0) : Cv G mX12_right d 0 0 [.inr (.inl 91), .inl b, .inl w] NO I P (qI NO (fun r I' P' => P' = P ∧ r = b ∧ I' = ifn b I w)) := by
  refine Cv.impI (c_X12_right hW h0 hb hw) (fun r J P' q => ⟨q.1, ?_⟩)
  unfold ifn
  rcases q.2 with ⟨h1, h2, h3⟩ | ⟨h1, h2, h3⟩
  · exact ⟨by omega, by rw [if_neg (by omega)]; exact h3⟩
  · exact ⟨by omega, by rw [if_pos h1]; exact h3⟩
theorem c_X12_day {of : Nat} {w : Int} (hW : WP P) (hT : MT I T) (hF : WF T) (hA : AR NO of 20 48) (n112 : of ≠ 112) (h9 : of < 92 ∨ 97 < of) (hr : RW T (I of)) : Cv G mX12_day (d + 4) 0 0 [.inr (.inl 91), .inr (.inl of), .inl w] NO I P (qI NO (fun r I' P' => P' = P ∧ r = (dayS T w (I of)).1 ∧ I' of = (dayS T w (I of)).2 ∧ Fr (of :: frS) frF I I')) := by
  have f1 := hF.1
  have f6 := hF.2.2.2.2.2.1
  have n91 : of ≠ 91 := hA.na at91 (by decide)
  have hS : (of :: frS).all (fun a => decide (a < 92 ∨ 97 < a)) = true := by simp [h9]
  refine x_enter mfX12_day rfl (Nat.le_of_ble_eq_true rfl) (fun _ => ?_)
  have hL : ∀ (j : Nat) (m : Int) (K : Mem), (T 0 6 - m).toNat < j → 0 ≤ m → m ≤ T 0 6 → K of = (itN (fun m x => dayB T w m x) m (0, I of)).2 → Fr (of :: frS) frF I K → V G mX12_day (d + 4) 0 0 5 [some (.inr (.inl 91)), some (.inr (.inl of)), some (.inl (w)), some (.inl ((itN (fun m x => dayB T w m x) m (0, I of)).1)), some (.inl (m)), none, none] [] NO K P (qI NO (fun r I' P' => P' = P ∧ r = (dayS T w (I of)).1 ∧ I' of = (dayS T w (I of)).2 ∧ Fr (of :: frS) frF I I')) := by
    intro j
    induction j with
    | zero => intro m K hj; omega
    | succ j ih =>
      intro m K hj hm hm2 hK hFr
      have hTK := hT.fr hFr hS
      have e6 : K 91 6 = T 0 6 := hTK.1 6 (by decide) (by decide)
      have e97 : K 97 = T 6 := hTK.2.2.2.2.2.2
      have ho := dayN_ok (w := w) hF hr hm hm2
      have es := itN_s (fun m x => dayB T w m x) ((0 : Int), I of) hm
      obtain ⟨x, hx⟩ : ∃ x, x = itN (fun m x => dayB T w m x) m ((0 : Int), I of) := ⟨_, rfl⟩
      rw [← hx] at ho hK es ⊢
      have next : ∀ (y : Int × Rw) (K' : Mem), y = dayB T w m x → m < T 0 6 → K' of = y.2 → Fr (of :: frS) frF I K' → V G mX12_day (d + 4) 0 0 5 [some (.inr (.inl 91)), some (.inr (.inl of)), some (.inl (w)), some (.inl (y.1)), some (.inl (m + 1)), none, none] [] NO K' P (qI NO (fun r I' P' => P' = P ∧ r = (dayS T w (I of)).1 ∧ I' of = (dayS T w (I of)).2 ∧ Fr (of :: frS) frF I I')) := fun y K' hy hm3 h1 h2 => by
        rw [hy, ← es]
        exact ih (m + 1) K' (by omega) (by omega) (by omega) (by rw [es, ← hy]; exact h1) h2
      have hm01 : m < T 0 6 → (0 ≤ T 6 (2 * m) ∧ T 6 (2 * m) < T 0 1) ∧ (0 ≤ T 6 (2 * m + 1) ∧ T 6 (2 * m + 1) < T 0 1) ∧ T 6 (2 * m) ≠ T 6 (2 * m + 1) := fun hm3 => by
        have hm0 := hF.2.2.2.2.2.2.2.2.2.2.2.2.2.1 m 0 hm hm3 (by decide) (by decide)
        have hm1 := hF.2.2.2.2.2.2.2.2.2.2.2.2.2.1 m 1 hm hm3 (by decide) (by decide)
        rw [Int.add_zero] at hm0
        exact ⟨hm0, hm1, hF.2.2.2.2.2.2.2.2.2.2.2.2.2.2 m hm hm3⟩
      refine x_iload (i := 4) dX12_day_5 rfl ?_
      refine y_aln (i := 0) dX12_day_7 at91.ne0 rfl rfl ?_
      refine y_geti (z := 6) dX12_day_8 frX12_322 cfX12 at91 rfl rfl ?_
      refine x_icmp_ge (tgt := 76) dX12_day_11 rfl (fun h11 => ?_) (fun h11 => ?_)
      · refine x_iload_n (i := 3) dX12_day_76 rfl rfl ?_
        refine x_iret dX12_day_77 rfl ?_
        refine ⟨rfl, ?_, ?_, hFr⟩
        · rw [hx, show m = T 0 6 by omega]; rfl
        · rw [hK, hx, show m = T 0 6 by omega]; rfl
      · have hm3 := hm01 (by omega)
        refine y_aln (i := 0) dX12_day_14 at91.ne0 rfl rfl ?_
        refine y_getp (z := 13) (v := 97) dX12_day_15 frX12_35 cfX12 at91 rfl rfl (wp (v := 97) hW rfl rfl (by decide)) ?_
        refine y_ic dX12_day_18 ⟨by decide, by decide⟩ ?_
        refine x_iload (i := 4) dX12_day_19 rfl ?_
        refine x_imul dX12_day_21 ⟨by omega, by omega⟩ ?_
        refine x_iald dX12_day_22 ar97 ⟨by omega, by omega⟩ ?_
        refine x_istore (i := 5) dX12_day_23 rfl (Nat.le_of_ble_eq_true rfl) ?_
        refine y_aln (i := 0) dX12_day_25 at91.ne0 rfl rfl ?_
        refine y_getp (z := 13) (v := 97) dX12_day_26 frX12_35 cfX12 at91 rfl rfl (wp (v := 97) hW rfl rfl (by decide)) ?_
        refine y_ic dX12_day_29 ⟨by decide, by decide⟩ ?_
        refine x_iload (i := 4) dX12_day_30 rfl ?_
        refine x_imul dX12_day_32 ⟨by omega, by omega⟩ ?_
        refine y_ic dX12_day_33 ⟨by decide, by decide⟩ ?_
        refine x_iadd dX12_day_34 ⟨by omega, by omega⟩ ?_
        refine x_iald dX12_day_35 ar97 ⟨by omega, by omega⟩ ?_
        refine x_istore (i := 6) dX12_day_36 rfl (Nat.le_of_ble_eq_true rfl) ?_
        refine x_iload (i := 5) dX12_day_38 rfl ?_
        refine x_iload_n (i := 2) dX12_day_40 rfl rfl ?_
        refine x_icmp_eq (tgt := 70) dX12_day_41 rfl (fun h41 => ?_) (fun h41 => ?_)
        · refine x_iinc dX12_day_70 rfl ⟨by omega, by omega⟩ rfl (Nat.le_of_ble_eq_true rfl) ?_
          refine x_goto (tgt := 5) dX12_day_73 rfl ?_
          refine x_keep [1, 1, 1, 1, 1, 0, 0] ?_
          first | (rw [e97] at h41; exact next x K (by unfold dayB; rw [if_neg (fun q => q.1 (by omega))]) (by omega) hK hFr) | (rw [e97] at h41 h47; exact next x K (by unfold dayB; rw [if_neg (fun q => q.2 (by omega))]) (by omega) hK hFr) | exact next (x.1 + 1, _) I57 (by unfold dayB; rw [if_pos ⟨h41, h47⟩, if_pos (by omega)]) (by omega) o57 (hFr.tr fr57) | exact next (x.1 + 0, _) I57 (by unfold dayB; rw [if_pos ⟨h41, h47⟩, if_neg (by omega)]) (by omega) o57 (hFr.tr fr57)
        · refine x_iload (i := 6) dX12_day_44 rfl ?_
          refine x_iload_n (i := 2) dX12_day_46 rfl rfl ?_
          refine x_icmp_eq (tgt := 70) dX12_day_47 rfl (fun h47 => ?_) (fun h47 => ?_)
          · refine x_iinc dX12_day_70 rfl ⟨by omega, by omega⟩ rfl (Nat.le_of_ble_eq_true rfl) ?_
            refine x_goto (tgt := 5) dX12_day_73 rfl ?_
            refine x_keep [1, 1, 1, 1, 1, 0, 0] ?_
            first | (rw [e97] at h41; exact next x K (by unfold dayB; rw [if_neg (fun q => q.1 (by omega))]) (by omega) hK hFr) | (rw [e97] at h41 h47; exact next x K (by unfold dayB; rw [if_neg (fun q => q.2 (by omega))]) (by omega) hK hFr) | exact next (x.1 + 1, _) I57 (by unfold dayB; rw [if_pos ⟨h41, h47⟩, if_pos (by omega)]) (by omega) o57 (hFr.tr fr57) | exact next (x.1 + 0, _) I57 (by unfold dayB; rw [if_pos ⟨h41, h47⟩, if_neg (by omega)]) (by omega) o57 (hFr.tr fr57)
          · refine x_iload_n (i := 3) dX12_day_50 rfl rfl ?_
            refine y_aln (i := 0) dX12_day_51 at91.ne0 rfl rfl ?_
            refine y_aln (i := 1) dX12_day_52 hA.ne0 rfl rfl ?_
            refine x_iload (i := 5) dX12_day_53 rfl ?_
            refine x_iload (i := 6) dX12_day_55 rfl ?_
            rw [e97] at h41 h47 ⊢
            refine x_callVI (c_X12_meet0 hW hTK hF hA n112 (by rw [hK]; exact ho.1) hm3.1 hm3.2.1 hm3.2.2) dX12_day_57 lkX12_478 mfX12_meet0 cfX12 at91 rfl rfl rfl rfl (Nat.le_of_ble_eq_true rfl) (fun r57 I57 P57 hr57 hf57 => ?_)
            obtain ⟨rfl, p57, o57, fr57⟩ := hf57
            rw [hK] at p57 o57
            refine x_if_le (tgt := 67) dX12_day_60 rfl (fun h60 => ?_) (fun h60 => ?_)
            · refine y_ic dX12_day_67 ⟨by decide, by decide⟩ ?_
              refine x_iadd dX12_day_68 ⟨by omega, by omega⟩ ?_
              refine x_istore_n (i := 3) dX12_day_69 rfl rfl (Nat.le_of_ble_eq_true rfl) ?_
              refine x_iinc dX12_day_70 rfl ⟨by omega, by omega⟩ rfl (Nat.le_of_ble_eq_true rfl) ?_
              refine x_goto (tgt := 5) dX12_day_73 rfl ?_
              refine x_keep [1, 1, 1, 1, 1, 0, 0] ?_
              first | (rw [e97] at h41; exact next x K (by unfold dayB; rw [if_neg (fun q => q.1 (by omega))]) (by omega) hK hFr) | (rw [e97] at h41 h47; exact next x K (by unfold dayB; rw [if_neg (fun q => q.2 (by omega))]) (by omega) hK hFr) | exact next (x.1 + 1, _) I57 (by unfold dayB; rw [if_pos ⟨h41, h47⟩, if_pos (by omega)]) (by omega) o57 (hFr.tr fr57) | exact next (x.1 + 0, _) I57 (by unfold dayB; rw [if_pos ⟨h41, h47⟩, if_neg (by omega)]) (by omega) o57 (hFr.tr fr57)
            · refine y_ic dX12_day_63 ⟨by decide, by decide⟩ ?_
              refine x_goto (tgt := 68) dX12_day_64 rfl ?_
              refine x_iadd dX12_day_68 ⟨by omega, by omega⟩ ?_
              refine x_istore_n (i := 3) dX12_day_69 rfl rfl (Nat.le_of_ble_eq_true rfl) ?_
              refine x_iinc dX12_day_70 rfl ⟨by omega, by omega⟩ rfl (Nat.le_of_ble_eq_true rfl) ?_
              refine x_goto (tgt := 5) dX12_day_73 rfl ?_
              refine x_keep [1, 1, 1, 1, 1, 0, 0] ?_
              first | (rw [e97] at h41; exact next x K (by unfold dayB; rw [if_neg (fun q => q.1 (by omega))]) (by omega) hK hFr) | (rw [e97] at h41 h47; exact next x K (by unfold dayB; rw [if_neg (fun q => q.2 (by omega))]) (by omega) hK hFr) | exact next (x.1 + 1, _) I57 (by unfold dayB; rw [if_pos ⟨h41, h47⟩, if_pos (by omega)]) (by omega) o57 (hFr.tr fr57) | exact next (x.1 + 0, _) I57 (by unfold dayB; rw [if_pos ⟨h41, h47⟩, if_neg (by omega)]) (by omega) o57 (hFr.tr fr57)
  refine y_ic dX12_day_0 ⟨by decide, by decide⟩ ?_
  refine x_istore_n (i := 3) dX12_day_1 rfl rfl (Nat.le_of_ble_eq_true rfl) ?_
  refine y_ic dX12_day_2 ⟨by decide, by decide⟩ ?_
  refine x_istore (i := 4) dX12_day_3 rfl (Nat.le_of_ble_eq_true rfl) ?_
  refine x_keep [1, 1, 1, 1, 1, 0, 0] ?_
  exact hL _ 0 _ (Nat.lt_succ_self _) (by omega) (by omega) rfl Fr.rf
theorem c_X12_days {n : Int} (hW : WP P) (hT : MT I T) (hF : WF T) (hr : RW T (I 98)) : Cv G mX12_days (d + 5) 0 0 [.inr (.inl 91), .inl n] NO I P (qI NO (fun r I' P' => P' = P ∧ ((¬ (0 ≤ n ∧ n ≤ 60) ∧ r = 0 ∧ I' = uI I 91 0 1) ∨ ((0 ≤ n ∧ n ≤ 60) ∧ r = (daysS T n (I 98)).1 ∧ I' 98 = (daysS T n (I 98)).2 ∧ I' 91 0 = 0 ∧ Fr (98 :: frS) (0 :: frF) I I')))) := by
  refine x_enter mfX12_days rfl (Nat.le_of_ble_eq_true rfl) (fun _ => ?_)
  have hL : ∀ (j : Nat) (k : Int) (K : Mem), (n - k).toNat < j → 0 ≤ k → k ≤ n → n ≤ 60 → K 98 = (daysS T k (I 98)).2 → K 91 0 = 0 → Fr (98 :: frS) (0 :: frF) I K → V G mX12_days (d + 5) 0 0 26 [some (.inr (.inl 91)), some (.inl (n)), some (.inl ((daysS T k (I 98)).1)), some (.inl (k))] [] NO K P (qI NO (fun r I' P' => P' = P ∧ ((¬ (0 ≤ n ∧ n ≤ 60) ∧ r = 0 ∧ I' = uI I 91 0 1) ∨ ((0 ≤ n ∧ n ≤ 60) ∧ r = (daysS T n (I 98)).1 ∧ I' 98 = (daysS T n (I 98)).2 ∧ I' 91 0 = 0 ∧ Fr (98 :: frS) (0 :: frF) I I')))) := by
    intro j
    induction j with
    | zero => intro k K hj; omega
    | succ j ih =>
      intro k K hj hk hk2 hn hK h0 hFr
      have hTK := hT.fr hFr
      have ho := daysS_ok hF hr hk
      have es := daysS_s (T := T) (r := I 98) hk
      have hd := dayS_ok (w := -1) hF ho.1
      refine x_iload_n (i := 3) dX12_days_26 rfl rfl ?_
      refine x_iload_n (i := 1) dX12_days_27 rfl rfl ?_
      refine x_icmp_ge (tgt := 49) dX12_days_28 rfl (fun h28 => ?_) (fun h28 => ?_)
      · refine x_iload_n (i := 2) dX12_days_49 rfl rfl ?_
        refine x_iret dX12_days_50 rfl ?_
        exact ⟨rfl, Or.inr ⟨by omega, by rw [show n = k by omega], by rw [show n = k by omega]; exact hK, h0, hFr⟩⟩
      · refine x_iload_n (i := 2) dX12_days_31 rfl rfl ?_
        refine y_aln (i := 0) dX12_days_32 at91.ne0 rfl rfl ?_
        refine y_aln (i := 0) dX12_days_33 at91.ne0 rfl rfl ?_
        refine y_getp (z := 14) (v := 98) dX12_days_34 frX12_38 cfX12 at91 rfl rfl (wp (v := 98) hW rfl rfl (by decide)) ?_
        refine y_ic dX12_days_37 ⟨by decide, by decide⟩ ?_
        refine x_callVI (c_X12_day hW hTK hF ar98 (by decide) (by decide) (by rw [hK]; exact ho.1)) dX12_days_38 lkX12_482 mfX12_day cfX12 at91 rfl rfl rfl rfl (Nat.le_of_ble_eq_true rfl) (fun r38 I38 P38 hr38 hf38 => ?_)
        obtain ⟨rfl, p38, o38, fr38⟩ := hf38
        rw [hK] at p38 o38
        rw [p38]
        have e0 : I38 91 0 = 0 := (fr38.2 0 (by decide)).trans h0
        refine x_iadd dX12_days_41 ⟨by omega, by omega⟩ ?_
        refine x_istore_n (i := 2) dX12_days_42 rfl rfl (Nat.le_of_ble_eq_true rfl) ?_
        refine x_iinc dX12_days_43 rfl ⟨by omega, by omega⟩ rfl (Nat.le_of_ble_eq_true rfl) ?_
        refine x_goto (tgt := 26) dX12_days_46 rfl ?_
        refine x_keep [1, 1, 1, 1] ?_
        have := ih (k + 1) I38 (by omega) (by omega) (by omega) hn (by rw [es]; exact o38) e0 (hFr.tr (fr38.mo (by decide) (by decide)))
        rw [es] at this
        exact this
  refine y_aln (i := 0) dX12_days_0 at91.ne0 rfl rfl ?_
  refine y_ic dX12_days_1 ⟨by decide, by decide⟩ ?_
  refine y_puti (z := 0) dX12_days_2 frX12_184 cfX12 at91 rfl rfl rfl ?_
  refine y_aln (i := 0) dX12_days_5 at91.ne0 rfl rfl ?_
  refine x_iload_n (i := 1) dX12_days_6 rfl rfl ?_
  refine y_ic dX12_days_7 ⟨by decide, by decide⟩ ?_
  refine y_bi dX12_days_8 ⟨by decide, by decide⟩ ?_
  refine x_callSI (c_X12_within) dX12_days_10 lkX12_354 mfX12_within rfl rfl rfl (Nat.le_of_ble_eq_true rfl) (fun r10 I10 P10 hr10 hf10 => ?_)
  obtain ⟨i10, p10, q10⟩ := hf10
  rw [i10, p10]
  refine y_ic dX12_days_13 ⟨by decide, by decide⟩ ?_
  refine x_callVI (c_X12_right2 hW (by first | rw [uI_eq, u1_eq] | assumption) (by omega) (by decide)) dX12_days_14 lkX12_309 mfX12_right cfX12 at91 rfl rfl rfl rfl (Nat.le_of_ble_eq_true rfl) (fun r14 I14 P14 hr14 hf14 => ?_)
  obtain ⟨rfl, e14, i14⟩ := hf14
  rw [i14]
  refine x_if_ne (tgt := 22) dX12_days_17 rfl (fun h17 => ?_) (fun h17 => ?_)
  · rw [ifn_1 (by omega)]
    refine y_ic dX12_days_22 ⟨by decide, by decide⟩ ?_
    refine x_istore_n (i := 2) dX12_days_23 rfl rfl (Nat.le_of_ble_eq_true rfl) ?_
    refine y_ic dX12_days_24 ⟨by decide, by decide⟩ ?_
    refine x_istore_n (i := 3) dX12_days_25 rfl rfl (Nat.le_of_ble_eq_true rfl) ?_
    refine x_keep [1, 1, 1, 1] ?_
    exact hL _ 0 _ (Nat.lt_succ_self _) (by omega) (by omega) (by omega) (by rw [uI_ne (by decide)]; rfl) (by rw [uI_eq, u1_eq]) (Fr.rf.uf (by decide))
  · rw [ifn_0 (by omega)]
    refine y_ic dX12_days_20 ⟨by decide, by decide⟩ ?_
    refine x_iret dX12_days_21 rfl ?_
    exact ⟨rfl, Or.inl ⟨by omega, rfl, uI_uI⟩⟩
theorem c_X12_ends (hW : WP P) (hT : MT I T) (hF : WF T) (hr : RW T (I 129)) : Cv G mX12_ends (d + 5) 0 0 [.inr (.inl 91)] NO I P (qI NO (fun r I' P' => P' = P ∧ r = (endN T 60 (I 129)).1 ∧ I' 129 = (endN T 60 (I 129)).2 ∧ Fr (129 :: frS) frF I I')) := by
  refine x_enter mfX12_ends rfl (Nat.le_of_ble_eq_true rfl) (fun _ => ?_)
  have hL : ∀ (f : Nat) (k : Int) (K : Mem), k + f = 60 → 0 ≤ k → RW T (K 129) → (endN T 60 (I 129)).1 = k + (endN T f (K 129)).1 → (endN T 60 (I 129)).2 = (endN T f (K 129)).2 → Fr (129 :: frS) frF I K → V G mX12_ends (d + 5) 0 0 2 [some (.inr (.inl 91)), some (.inl (k))] [] NO K P (qI NO (fun r I' P' => P' = P ∧ r = (endN T 60 (I 129)).1 ∧ I' 129 = (endN T 60 (I 129)).2 ∧ Fr (129 :: frS) frF I I')) := by
    intro f
    induction f with
    | zero =>
      intro k K hk hk0 hR h1 h2 hFr
      refine x_iload_n (i := 1) dX12_ends_2 rfl rfl ?_
      refine y_bi dX12_ends_3 ⟨by decide, by decide⟩ ?_
      refine x_icmp_ge (tgt := 26) dX12_ends_5 rfl (fun h5 => ?_) (fun h5 => ?_)
      · refine x_iload_n (i := 1) dX12_ends_26 rfl rfl ?_
        refine x_iret dX12_ends_27 rfl ?_
        exact ⟨rfl, by rw [h1]; show k = k + 0; omega, by rw [h2]; rfl, hFr⟩
      · omega
    | succ f ih =>
      intro k K hk hk0 hR h1 h2 hFr
      have hTK := hT.fr hFr
      have hd := dayS_ok (w := -1) hF hR
      refine x_iload_n (i := 1) dX12_ends_2 rfl rfl ?_
      refine y_bi dX12_ends_3 ⟨by decide, by decide⟩ ?_
      refine x_icmp_ge (tgt := 26) dX12_ends_5 rfl (fun h5 => ?_) (fun h5 => ?_)
      · omega
      · refine y_aln (i := 0) dX12_ends_8 at91.ne0 rfl rfl ?_
        refine y_aln (i := 0) dX12_ends_9 at91.ne0 rfl rfl ?_
        refine y_getp (z := 75) (v := 129) dX12_ends_10 frX12_136 cfX12 at91 rfl rfl (wp (v := 129) hW rfl rfl (by decide)) ?_
        refine y_ic dX12_ends_13 ⟨by decide, by decide⟩ ?_
        refine x_callVI (c_X12_day hW hTK hF ar129 (by decide) (by decide) hR) dX12_ends_14 lkX12_482 mfX12_day cfX12 at91 rfl rfl rfl rfl (Nat.le_of_ble_eq_true rfl) (fun r14 I14 P14 hr14 hf14 => ?_)
        obtain ⟨rfl, p14, o14, fr14⟩ := hf14
        refine x_if_le (tgt := 26) dX12_ends_17 rfl (fun h17 => ?_) (fun h17 => ?_)
        · refine x_iload_n (i := 1) dX12_ends_26 rfl rfl ?_
          refine x_iret dX12_ends_27 rfl ?_
          rw [endN_q (f := f) (r := K 129) (by omega)] at h1 h2
          exact ⟨rfl, by rw [h1]; show k = k + 0; omega, by rw [h2, o14], hFr.tr fr14⟩
        · refine x_iinc dX12_ends_20 rfl ⟨by omega, by omega⟩ rfl (Nat.le_of_ble_eq_true rfl) ?_
          refine x_goto (tgt := 2) dX12_ends_23 rfl ?_
          refine x_keep [1, 1] ?_
          rw [endN_p (f := f) (r := K 129) (by omega)] at h1 h2
          exact ih (k + 1) I14 (by omega) (by omega) (by rw [o14]; exact hd.1) (by rw [h1, o14]; show k + (_ + 1) = _; omega) (by rw [h2, o14]) (hFr.tr fr14)
  refine y_ic dX12_ends_0 ⟨by decide, by decide⟩ ?_
  refine x_istore_n (i := 1) dX12_ends_1 rfl rfl (Nat.le_of_ble_eq_true rfl) ?_
  refine x_keep [1, 1] ?_
  exact hL 60 0 _ rfl (by omega) hr (by omega) rfl Fr.rf
theorem c_X12_end {w : Int} (hW : WP P) (hT : MT I T) (hF : WF T) (hr : RW T (I 98)) : Cv G mX12_end (d + 6) 0 0 [.inr (.inl 91), .inl w] NO I P (qI NO (fun r I' P' => P' = P ∧ ((¬ (w = 0 ∨ w = 1 ∨ w = 2 ∨ (3 ≤ w ∧ w - 3 < T 0 1)) ∧ r = 0 ∧ I' = uI I 91 0 1) ∨ ((w = 0 ∨ w = 1 ∨ w = 2 ∨ (3 ≤ w ∧ w - 3 < T 0 1)) ∧ r = endA T (I 98) w ∧ I' 91 0 = 0 ∧ Fr (129 :: frS) (0 :: frF) I I')))) := by
  have f1 := hF.1
  have e1 : I 91 1 = T 0 1 := hT.1 1 (by decide) (by decide)
  have hT0 : MT (uI I 91 0 0) T := hT.uf (by decide)
  have e10 : uI I 91 0 0 91 1 = T 0 1 := hT0.1 1 (by decide) (by decide)
  refine x_enter mfX12_end rfl (Nat.le_of_ble_eq_true rfl) (fun _ => ?_)
  refine x_rng 1 rfl (fun hw => ?_)
  obtain ⟨w1, w2⟩ := hw
  refine y_aln (i := 0) dX12_end_0 at91.ne0 rfl rfl ?_
  refine y_ic dX12_end_1 ⟨by decide, by decide⟩ ?_
  refine y_puti (z := 0) dX12_end_2 frX12_184 cfX12 at91 rfl rfl rfl ?_
  refine y_aln (i := 0) dX12_end_5 at91.ne0 rfl rfl ?_
  refine x_iload_n (i := 1) dX12_end_6 rfl rfl ?_
  refine y_ic dX12_end_7 ⟨by decide, by decide⟩ ?_
  refine y_ic dX12_end_8 ⟨by decide, by decide⟩ ?_
  refine x_callSI (c_X12_within) dX12_end_9 lkX12_354 mfX12_within rfl rfl rfl (Nat.le_of_ble_eq_true rfl) (fun r9 I9 P9 hr9 hf9 => ?_)
  obtain ⟨i9, p9, q9⟩ := hf9
  rw [i9, p9]
  refine x_if_ne (tgt := 30) dX12_end_12 rfl (fun h12 => ?_) (fun h12 => ?_)
  · refine y_ic dX12_end_30 ⟨by decide, by decide⟩ ?_
    refine x_goto (tgt := 35) dX12_end_31 rfl ?_
    refine y_ic dX12_end_35 ⟨by decide, by decide⟩ ?_
    refine x_callVI (c_X12_right2 hW (by first | rw [uI_eq, u1_eq] | assumption) (by omega) (by decide)) dX12_end_36 lkX12_309 mfX12_right cfX12 at91 rfl rfl rfl rfl (Nat.le_of_ble_eq_true rfl) (fun r36 I36 P36 hr36 hf36 => ?_)
    obtain ⟨rfl, e36, i36⟩ := hf36
    rw [i36]
    refine x_if_ne (tgt := 44) dX12_end_39 rfl (fun h39 => ?_) (fun h39 => ?_)
    · rw [ifn_1 (by omega)]
      refine y_aln (i := 0) dX12_end_44 at91.ne0 rfl rfl ?_
      refine y_aln (i := 0) dX12_end_45 at91.ne0 rfl rfl ?_
      refine y_getp (z := 14) (v := 98) dX12_end_46 frX12_38 cfX12 at91 rfl rfl (wp (v := 98) hW rfl rfl (by decide)) ?_
      refine y_aln (i := 0) dX12_end_49 at91.ne0 rfl rfl ?_
      refine y_getp (z := 75) (v := 129) dX12_end_50 frX12_136 cfX12 at91 rfl rfl (wp (v := 129) hW rfl rfl (by decide)) ?_
      refine x_callVV (c_X12_copies ar98 ar129 (by decide) (by decide) (by decide)) dX12_end_53 lkX12_328 mfX12_copies cfX12 at91 rfl rfl rfl rfl (Nat.le_of_ble_eq_true rfl) (fun n53 I53 P53 hf53 => ?_)
      obtain ⟨rfl, hI53, rfl⟩ := hf53
      have hw3 : w = 0 ∨ w = 1 ∨ w = 2 ∨ (3 ≤ w ∧ w - 3 < T 0 1) := by omega
      have hre : RE (I 98) (I53 129) := fun c h0 h1 => by rw [hI53, uA_eq, if_pos (by omega), uI_ne (by decide)]
      have hFr53 : Fr (129 :: frS) (0 :: frF) I I53 := by rw [hI53]; exact (Fr.rf.uf (by decide)).ua (by decide) (by decide)
      have hT53 := hT.fr hFr53
      have z53 : I53 91 0 = 0 := by rw [hI53, uA_ne (by decide), uI_eq, u1_eq]
      refine y_aln (i := 0) dX12_end_56 at91.ne0 rfl rfl ?_
      refine x_callVI (c_X12_ends hW hT53 hF (hre.rw hr)) dX12_end_57 lkX12_485 mfX12_ends cfX12 at91 rfl rfl rfl rfl (Nat.le_of_ble_eq_true rfl) (fun r57 I57 P57 hr57 hf57 => ?_)
      obtain ⟨rfl, r57e, hI57, fr57⟩ := hf57
      have hFr57 : Fr (129 :: frS) (0 :: frF) I I57 := hFr53.tr (fr57.mo (by decide) (by decide))
      have hT57 := hT.fr hFr57
      have z57 : I57 91 0 = 0 := (fr57.2 0 (by decide)).trans z53
      have ho := endN_ok hF 60 _ (hre.rw hr)
      have hrc : RC (I57 129) := by rw [hI57]; exact ho.1.rc
      have eA := RE.enda (w := w) hre hF hw3
      unfold endA at eA
      refine x_istore_n (i := 2) dX12_end_60 rfl rfl (Nat.le_of_ble_eq_true rfl) ?_
      refine x_iload_n (i := 1) dX12_end_61 rfl rfl ?_
      refine x_if_ne (tgt := 69) dX12_end_62 rfl (fun h62 => ?_) (fun h62 => ?_)
      · refine x_iload_n (i := 1) dX12_end_69 rfl rfl ?_
        refine y_ic dX12_end_70 ⟨by decide, by decide⟩ ?_
        refine x_icmp_ne (tgt := 85) dX12_end_71 rfl (fun h71 => ?_) (fun h71 => ?_)
        · refine x_iload_n (i := 1) dX12_end_85 rfl rfl ?_
          refine y_ic dX12_end_86 ⟨by decide, by decide⟩ ?_
          refine x_icmp_ne (tgt := 101) dX12_end_87 rfl (fun h87 => ?_) (fun h87 => ?_)
          · refine y_aln (i := 0) dX12_end_101 at91.ne0 rfl rfl ?_
            refine y_aln (i := 0) dX12_end_102 at91.ne0 rfl rfl ?_
            refine y_getp (z := 75) (v := 129) dX12_end_103 frX12_136 cfX12 at91 rfl rfl (wp (v := 129) hW rfl rfl (by decide)) ?_
            refine x_iload_n (i := 1) dX12_end_106 rfl rfl ?_
            refine y_ic dX12_end_107 ⟨by decide, by decide⟩ ?_
            refine x_isub dX12_end_108 ⟨by omega, by omega⟩ ?_
            refine x_callVI (c_X12_bagOf hW hT57 hF ar129 hrc (by omega)) dX12_end_109 lkX12_351 mfX12_bagOf cfX12 at91 rfl rfl rfl rfl (Nat.le_of_ble_eq_true rfl) (fun r109 I109 P109 hr109 hf109 => ?_)
            obtain ⟨i109, p109, q109⟩ := hf109
            rw [i109, p109, q109]
            refine x_iret dX12_end_112 rfl ?_
            refine ⟨rfl, Or.inr ⟨hw3, ?_, z57, hFr57⟩⟩
            unfold endA
            rw [eA, ← hI57]
            first | (rw [if_pos (by omega)]; exact r57e) | (rw [if_neg (by omega), if_pos (by omega)]; done) | (rw [if_neg (by omega), if_neg (by omega), if_pos (by omega)]; done) | (rw [if_neg (by omega), if_neg (by omega), if_neg (by omega)]; done)
          · refine y_aln (i := 0) dX12_end_90 at91.ne0 rfl rfl ?_
            refine y_aln (i := 0) dX12_end_91 at91.ne0 rfl rfl ?_
            refine y_getp (z := 75) (v := 129) dX12_end_92 frX12_136 cfX12 at91 rfl rfl (wp (v := 129) hW rfl rfl (by decide)) ?_
            refine x_callVI (c_X12_allWorth hW hT57 hF ar129 hrc) dX12_end_95 lkX12_368 mfX12_allWorth cfX12 at91 rfl rfl rfl rfl (Nat.le_of_ble_eq_true rfl) (fun r95 I95 P95 hr95 hf95 => ?_)
            obtain ⟨i95, p95, q95⟩ := hf95
            rw [i95, p95, q95]
            refine x_goto (tgt := 112) dX12_end_98 rfl ?_
            refine x_iret dX12_end_112 rfl ?_
            refine ⟨rfl, Or.inr ⟨hw3, ?_, z57, hFr57⟩⟩
            unfold endA
            rw [eA, ← hI57]
            first | (rw [if_pos (by omega)]; exact r57e) | (rw [if_neg (by omega), if_pos (by omega)]; done) | (rw [if_neg (by omega), if_neg (by omega), if_pos (by omega)]; done) | (rw [if_neg (by omega), if_neg (by omega), if_neg (by omega)]; done)
        · refine y_aln (i := 0) dX12_end_74 at91.ne0 rfl rfl ?_
          refine y_aln (i := 0) dX12_end_75 at91.ne0 rfl rfl ?_
          refine y_getp (z := 75) (v := 129) dX12_end_76 frX12_136 cfX12 at91 rfl rfl (wp (v := 129) hW rfl rfl (by decide)) ?_
          refine x_callVI (c_X12_allThings hW hT57 hF ar129 hrc) dX12_end_79 lkX12_358 mfX12_allThings cfX12 at91 rfl rfl rfl rfl (Nat.le_of_ble_eq_true rfl) (fun r79 I79 P79 hr79 hf79 => ?_)
          obtain ⟨i79, p79, q79⟩ := hf79
          rw [i79, p79, q79]
          refine x_goto (tgt := 112) dX12_end_82 rfl ?_
          refine x_iret dX12_end_112 rfl ?_
          refine ⟨rfl, Or.inr ⟨hw3, ?_, z57, hFr57⟩⟩
          unfold endA
          rw [eA, ← hI57]
          first | (rw [if_pos (by omega)]; exact r57e) | (rw [if_neg (by omega), if_pos (by omega)]; done) | (rw [if_neg (by omega), if_neg (by omega), if_pos (by omega)]; done) | (rw [if_neg (by omega), if_neg (by omega), if_neg (by omega)]; done)
      · refine x_iload_n (i := 2) dX12_end_65 rfl rfl ?_
        refine x_goto (tgt := 112) dX12_end_66 rfl ?_
        refine x_iret dX12_end_112 rfl ?_
        refine ⟨rfl, Or.inr ⟨hw3, ?_, z57, hFr57⟩⟩
        unfold endA
        rw [eA, ← hI57]
        first | (rw [if_pos (by omega)]; exact r57e) | (rw [if_neg (by omega), if_pos (by omega)]; done) | (rw [if_neg (by omega), if_neg (by omega), if_pos (by omega)]; done) | (rw [if_neg (by omega), if_neg (by omega), if_neg (by omega)]; done)
    · rw [ifn_0 (by omega)]
      refine y_ic dX12_end_42 ⟨by decide, by decide⟩ ?_
      refine x_iret dX12_end_43 rfl ?_
      exact ⟨rfl, Or.inl ⟨by omega, rfl, uI_uI⟩⟩
  · refine x_iload_n (i := 1) dX12_end_15 rfl rfl ?_
    refine y_ic dX12_end_16 ⟨by decide, by decide⟩ ?_
    refine x_icmp_lt (tgt := 34) dX12_end_17 rfl (fun h17 => ?_) (fun h17 => ?_)
    · refine y_ic dX12_end_34 ⟨by decide, by decide⟩ ?_
      refine y_ic dX12_end_35 ⟨by decide, by decide⟩ ?_
      refine x_callVI (c_X12_right2 hW (by first | rw [uI_eq, u1_eq] | assumption) (by omega) (by decide)) dX12_end_36 lkX12_309 mfX12_right cfX12 at91 rfl rfl rfl rfl (Nat.le_of_ble_eq_true rfl) (fun r36 I36 P36 hr36 hf36 => ?_)
      obtain ⟨rfl, e36, i36⟩ := hf36
      rw [i36]
      refine x_if_ne (tgt := 44) dX12_end_39 rfl (fun h39 => ?_) (fun h39 => ?_)
      · rw [ifn_1 (by omega)]
        refine y_aln (i := 0) dX12_end_44 at91.ne0 rfl rfl ?_
        refine y_aln (i := 0) dX12_end_45 at91.ne0 rfl rfl ?_
        refine y_getp (z := 14) (v := 98) dX12_end_46 frX12_38 cfX12 at91 rfl rfl (wp (v := 98) hW rfl rfl (by decide)) ?_
        refine y_aln (i := 0) dX12_end_49 at91.ne0 rfl rfl ?_
        refine y_getp (z := 75) (v := 129) dX12_end_50 frX12_136 cfX12 at91 rfl rfl (wp (v := 129) hW rfl rfl (by decide)) ?_
        refine x_callVV (c_X12_copies ar98 ar129 (by decide) (by decide) (by decide)) dX12_end_53 lkX12_328 mfX12_copies cfX12 at91 rfl rfl rfl rfl (Nat.le_of_ble_eq_true rfl) (fun n53 I53 P53 hf53 => ?_)
        obtain ⟨rfl, hI53, rfl⟩ := hf53
        have hw3 : w = 0 ∨ w = 1 ∨ w = 2 ∨ (3 ≤ w ∧ w - 3 < T 0 1) := by omega
        have hre : RE (I 98) (I53 129) := fun c h0 h1 => by rw [hI53, uA_eq, if_pos (by omega), uI_ne (by decide)]
        have hFr53 : Fr (129 :: frS) (0 :: frF) I I53 := by rw [hI53]; exact (Fr.rf.uf (by decide)).ua (by decide) (by decide)
        have hT53 := hT.fr hFr53
        have z53 : I53 91 0 = 0 := by rw [hI53, uA_ne (by decide), uI_eq, u1_eq]
        refine y_aln (i := 0) dX12_end_56 at91.ne0 rfl rfl ?_
        refine x_callVI (c_X12_ends hW hT53 hF (hre.rw hr)) dX12_end_57 lkX12_485 mfX12_ends cfX12 at91 rfl rfl rfl rfl (Nat.le_of_ble_eq_true rfl) (fun r57 I57 P57 hr57 hf57 => ?_)
        obtain ⟨rfl, r57e, hI57, fr57⟩ := hf57
        have hFr57 : Fr (129 :: frS) (0 :: frF) I I57 := hFr53.tr (fr57.mo (by decide) (by decide))
        have hT57 := hT.fr hFr57
        have z57 : I57 91 0 = 0 := (fr57.2 0 (by decide)).trans z53
        have ho := endN_ok hF 60 _ (hre.rw hr)
        have hrc : RC (I57 129) := by rw [hI57]; exact ho.1.rc
        have eA := RE.enda (w := w) hre hF hw3
        unfold endA at eA
        refine x_istore_n (i := 2) dX12_end_60 rfl rfl (Nat.le_of_ble_eq_true rfl) ?_
        refine x_iload_n (i := 1) dX12_end_61 rfl rfl ?_
        refine x_if_ne (tgt := 69) dX12_end_62 rfl (fun h62 => ?_) (fun h62 => ?_)
        · refine x_iload_n (i := 1) dX12_end_69 rfl rfl ?_
          refine y_ic dX12_end_70 ⟨by decide, by decide⟩ ?_
          refine x_icmp_ne (tgt := 85) dX12_end_71 rfl (fun h71 => ?_) (fun h71 => ?_)
          · refine x_iload_n (i := 1) dX12_end_85 rfl rfl ?_
            refine y_ic dX12_end_86 ⟨by decide, by decide⟩ ?_
            refine x_icmp_ne (tgt := 101) dX12_end_87 rfl (fun h87 => ?_) (fun h87 => ?_)
            · refine y_aln (i := 0) dX12_end_101 at91.ne0 rfl rfl ?_
              refine y_aln (i := 0) dX12_end_102 at91.ne0 rfl rfl ?_
              refine y_getp (z := 75) (v := 129) dX12_end_103 frX12_136 cfX12 at91 rfl rfl (wp (v := 129) hW rfl rfl (by decide)) ?_
              refine x_iload_n (i := 1) dX12_end_106 rfl rfl ?_
              refine y_ic dX12_end_107 ⟨by decide, by decide⟩ ?_
              refine x_isub dX12_end_108 ⟨by omega, by omega⟩ ?_
              refine x_callVI (c_X12_bagOf hW hT57 hF ar129 hrc (by omega)) dX12_end_109 lkX12_351 mfX12_bagOf cfX12 at91 rfl rfl rfl rfl (Nat.le_of_ble_eq_true rfl) (fun r109 I109 P109 hr109 hf109 => ?_)
              obtain ⟨i109, p109, q109⟩ := hf109
              rw [i109, p109, q109]
              refine x_iret dX12_end_112 rfl ?_
              refine ⟨rfl, Or.inr ⟨hw3, ?_, z57, hFr57⟩⟩
              unfold endA
              rw [eA, ← hI57]
              first | (rw [if_pos (by omega)]; exact r57e) | (rw [if_neg (by omega), if_pos (by omega)]; done) | (rw [if_neg (by omega), if_neg (by omega), if_pos (by omega)]; done) | (rw [if_neg (by omega), if_neg (by omega), if_neg (by omega)]; done)
            · refine y_aln (i := 0) dX12_end_90 at91.ne0 rfl rfl ?_
              refine y_aln (i := 0) dX12_end_91 at91.ne0 rfl rfl ?_
              refine y_getp (z := 75) (v := 129) dX12_end_92 frX12_136 cfX12 at91 rfl rfl (wp (v := 129) hW rfl rfl (by decide)) ?_
              refine x_callVI (c_X12_allWorth hW hT57 hF ar129 hrc) dX12_end_95 lkX12_368 mfX12_allWorth cfX12 at91 rfl rfl rfl rfl (Nat.le_of_ble_eq_true rfl) (fun r95 I95 P95 hr95 hf95 => ?_)
              obtain ⟨i95, p95, q95⟩ := hf95
              rw [i95, p95, q95]
              refine x_goto (tgt := 112) dX12_end_98 rfl ?_
              refine x_iret dX12_end_112 rfl ?_
              refine ⟨rfl, Or.inr ⟨hw3, ?_, z57, hFr57⟩⟩
              unfold endA
              rw [eA, ← hI57]
              first | (rw [if_pos (by omega)]; exact r57e) | (rw [if_neg (by omega), if_pos (by omega)]; done) | (rw [if_neg (by omega), if_neg (by omega), if_pos (by omega)]; done) | (rw [if_neg (by omega), if_neg (by omega), if_neg (by omega)]; done)
          · refine y_aln (i := 0) dX12_end_74 at91.ne0 rfl rfl ?_
            refine y_aln (i := 0) dX12_end_75 at91.ne0 rfl rfl ?_
            refine y_getp (z := 75) (v := 129) dX12_end_76 frX12_136 cfX12 at91 rfl rfl (wp (v := 129) hW rfl rfl (by decide)) ?_
            refine x_callVI (c_X12_allThings hW hT57 hF ar129 hrc) dX12_end_79 lkX12_358 mfX12_allThings cfX12 at91 rfl rfl rfl rfl (Nat.le_of_ble_eq_true rfl) (fun r79 I79 P79 hr79 hf79 => ?_)
            obtain ⟨i79, p79, q79⟩ := hf79
            rw [i79, p79, q79]
            refine x_goto (tgt := 112) dX12_end_82 rfl ?_
            refine x_iret dX12_end_112 rfl ?_
            refine ⟨rfl, Or.inr ⟨hw3, ?_, z57, hFr57⟩⟩
            unfold endA
            rw [eA, ← hI57]
            first | (rw [if_pos (by omega)]; exact r57e) | (rw [if_neg (by omega), if_pos (by omega)]; done) | (rw [if_neg (by omega), if_neg (by omega), if_pos (by omega)]; done) | (rw [if_neg (by omega), if_neg (by omega), if_neg (by omega)]; done)
        · refine x_iload_n (i := 2) dX12_end_65 rfl rfl ?_
          refine x_goto (tgt := 112) dX12_end_66 rfl ?_
          refine x_iret dX12_end_112 rfl ?_
          refine ⟨rfl, Or.inr ⟨hw3, ?_, z57, hFr57⟩⟩
          unfold endA
          rw [eA, ← hI57]
          first | (rw [if_pos (by omega)]; exact r57e) | (rw [if_neg (by omega), if_pos (by omega)]; done) | (rw [if_neg (by omega), if_neg (by omega), if_pos (by omega)]; done) | (rw [if_neg (by omega), if_neg (by omega), if_neg (by omega)]; done)
      · rw [ifn_0 (by omega)]
        refine y_ic dX12_end_42 ⟨by decide, by decide⟩ ?_
        refine x_iret dX12_end_43 rfl ?_
        exact ⟨rfl, Or.inl ⟨by omega, rfl, uI_uI⟩⟩
    · refine x_iload_n (i := 1) dX12_end_20 rfl rfl ?_
      refine y_ic dX12_end_21 ⟨by decide, by decide⟩ ?_
      refine x_isub dX12_end_22 ⟨by omega, by omega⟩ ?_
      refine y_aln (i := 0) dX12_end_23 at91.ne0 rfl rfl ?_
      refine y_geti (z := 1) dX12_end_24 frX12_316 cfX12 at91 rfl rfl ?_
      refine x_icmp_ge (tgt := 34) dX12_end_27 rfl (fun h27 => ?_) (fun h27 => ?_)
      · refine y_ic dX12_end_34 ⟨by decide, by decide⟩ ?_
        refine y_ic dX12_end_35 ⟨by decide, by decide⟩ ?_
        refine x_callVI (c_X12_right2 hW (by first | rw [uI_eq, u1_eq] | assumption) (by omega) (by decide)) dX12_end_36 lkX12_309 mfX12_right cfX12 at91 rfl rfl rfl rfl (Nat.le_of_ble_eq_true rfl) (fun r36 I36 P36 hr36 hf36 => ?_)
        obtain ⟨rfl, e36, i36⟩ := hf36
        rw [i36]
        refine x_if_ne (tgt := 44) dX12_end_39 rfl (fun h39 => ?_) (fun h39 => ?_)
        · rw [ifn_1 (by omega)]
          refine y_aln (i := 0) dX12_end_44 at91.ne0 rfl rfl ?_
          refine y_aln (i := 0) dX12_end_45 at91.ne0 rfl rfl ?_
          refine y_getp (z := 14) (v := 98) dX12_end_46 frX12_38 cfX12 at91 rfl rfl (wp (v := 98) hW rfl rfl (by decide)) ?_
          refine y_aln (i := 0) dX12_end_49 at91.ne0 rfl rfl ?_
          refine y_getp (z := 75) (v := 129) dX12_end_50 frX12_136 cfX12 at91 rfl rfl (wp (v := 129) hW rfl rfl (by decide)) ?_
          refine x_callVV (c_X12_copies ar98 ar129 (by decide) (by decide) (by decide)) dX12_end_53 lkX12_328 mfX12_copies cfX12 at91 rfl rfl rfl rfl (Nat.le_of_ble_eq_true rfl) (fun n53 I53 P53 hf53 => ?_)
          obtain ⟨rfl, hI53, rfl⟩ := hf53
          have hw3 : w = 0 ∨ w = 1 ∨ w = 2 ∨ (3 ≤ w ∧ w - 3 < T 0 1) := by omega
          have hre : RE (I 98) (I53 129) := fun c h0 h1 => by rw [hI53, uA_eq, if_pos (by omega), uI_ne (by decide)]
          have hFr53 : Fr (129 :: frS) (0 :: frF) I I53 := by rw [hI53]; exact (Fr.rf.uf (by decide)).ua (by decide) (by decide)
          have hT53 := hT.fr hFr53
          have z53 : I53 91 0 = 0 := by rw [hI53, uA_ne (by decide), uI_eq, u1_eq]
          refine y_aln (i := 0) dX12_end_56 at91.ne0 rfl rfl ?_
          refine x_callVI (c_X12_ends hW hT53 hF (hre.rw hr)) dX12_end_57 lkX12_485 mfX12_ends cfX12 at91 rfl rfl rfl rfl (Nat.le_of_ble_eq_true rfl) (fun r57 I57 P57 hr57 hf57 => ?_)
          obtain ⟨rfl, r57e, hI57, fr57⟩ := hf57
          have hFr57 : Fr (129 :: frS) (0 :: frF) I I57 := hFr53.tr (fr57.mo (by decide) (by decide))
          have hT57 := hT.fr hFr57
          have z57 : I57 91 0 = 0 := (fr57.2 0 (by decide)).trans z53
          have ho := endN_ok hF 60 _ (hre.rw hr)
          have hrc : RC (I57 129) := by rw [hI57]; exact ho.1.rc
          have eA := RE.enda (w := w) hre hF hw3
          unfold endA at eA
          refine x_istore_n (i := 2) dX12_end_60 rfl rfl (Nat.le_of_ble_eq_true rfl) ?_
          refine x_iload_n (i := 1) dX12_end_61 rfl rfl ?_
          refine x_if_ne (tgt := 69) dX12_end_62 rfl (fun h62 => ?_) (fun h62 => ?_)
          · refine x_iload_n (i := 1) dX12_end_69 rfl rfl ?_
            refine y_ic dX12_end_70 ⟨by decide, by decide⟩ ?_
            refine x_icmp_ne (tgt := 85) dX12_end_71 rfl (fun h71 => ?_) (fun h71 => ?_)
            · refine x_iload_n (i := 1) dX12_end_85 rfl rfl ?_
              refine y_ic dX12_end_86 ⟨by decide, by decide⟩ ?_
              refine x_icmp_ne (tgt := 101) dX12_end_87 rfl (fun h87 => ?_) (fun h87 => ?_)
              · refine y_aln (i := 0) dX12_end_101 at91.ne0 rfl rfl ?_
                refine y_aln (i := 0) dX12_end_102 at91.ne0 rfl rfl ?_
                refine y_getp (z := 75) (v := 129) dX12_end_103 frX12_136 cfX12 at91 rfl rfl (wp (v := 129) hW rfl rfl (by decide)) ?_
                refine x_iload_n (i := 1) dX12_end_106 rfl rfl ?_
                refine y_ic dX12_end_107 ⟨by decide, by decide⟩ ?_
                refine x_isub dX12_end_108 ⟨by omega, by omega⟩ ?_
                refine x_callVI (c_X12_bagOf hW hT57 hF ar129 hrc (by omega)) dX12_end_109 lkX12_351 mfX12_bagOf cfX12 at91 rfl rfl rfl rfl (Nat.le_of_ble_eq_true rfl) (fun r109 I109 P109 hr109 hf109 => ?_)
                obtain ⟨i109, p109, q109⟩ := hf109
                rw [i109, p109, q109]
                refine x_iret dX12_end_112 rfl ?_
                refine ⟨rfl, Or.inr ⟨hw3, ?_, z57, hFr57⟩⟩
                unfold endA
                rw [eA, ← hI57]
                first | (rw [if_pos (by omega)]; exact r57e) | (rw [if_neg (by omega), if_pos (by omega)]; done) | (rw [if_neg (by omega), if_neg (by omega), if_pos (by omega)]; done) | (rw [if_neg (by omega), if_neg (by omega), if_neg (by omega)]; done)
              · refine y_aln (i := 0) dX12_end_90 at91.ne0 rfl rfl ?_
                refine y_aln (i := 0) dX12_end_91 at91.ne0 rfl rfl ?_
                refine y_getp (z := 75) (v := 129) dX12_end_92 frX12_136 cfX12 at91 rfl rfl (wp (v := 129) hW rfl rfl (by decide)) ?_
                refine x_callVI (c_X12_allWorth hW hT57 hF ar129 hrc) dX12_end_95 lkX12_368 mfX12_allWorth cfX12 at91 rfl rfl rfl rfl (Nat.le_of_ble_eq_true rfl) (fun r95 I95 P95 hr95 hf95 => ?_)
                obtain ⟨i95, p95, q95⟩ := hf95
                rw [i95, p95, q95]
                refine x_goto (tgt := 112) dX12_end_98 rfl ?_
                refine x_iret dX12_end_112 rfl ?_
                refine ⟨rfl, Or.inr ⟨hw3, ?_, z57, hFr57⟩⟩
                unfold endA
                rw [eA, ← hI57]
                first | (rw [if_pos (by omega)]; exact r57e) | (rw [if_neg (by omega), if_pos (by omega)]; done) | (rw [if_neg (by omega), if_neg (by omega), if_pos (by omega)]; done) | (rw [if_neg (by omega), if_neg (by omega), if_neg (by omega)]; done)
            · refine y_aln (i := 0) dX12_end_74 at91.ne0 rfl rfl ?_
              refine y_aln (i := 0) dX12_end_75 at91.ne0 rfl rfl ?_
              refine y_getp (z := 75) (v := 129) dX12_end_76 frX12_136 cfX12 at91 rfl rfl (wp (v := 129) hW rfl rfl (by decide)) ?_
              refine x_callVI (c_X12_allThings hW hT57 hF ar129 hrc) dX12_end_79 lkX12_358 mfX12_allThings cfX12 at91 rfl rfl rfl rfl (Nat.le_of_ble_eq_true rfl) (fun r79 I79 P79 hr79 hf79 => ?_)
              obtain ⟨i79, p79, q79⟩ := hf79
              rw [i79, p79, q79]
              refine x_goto (tgt := 112) dX12_end_82 rfl ?_
              refine x_iret dX12_end_112 rfl ?_
              refine ⟨rfl, Or.inr ⟨hw3, ?_, z57, hFr57⟩⟩
              unfold endA
              rw [eA, ← hI57]
              first | (rw [if_pos (by omega)]; exact r57e) | (rw [if_neg (by omega), if_pos (by omega)]; done) | (rw [if_neg (by omega), if_neg (by omega), if_pos (by omega)]; done) | (rw [if_neg (by omega), if_neg (by omega), if_neg (by omega)]; done)
          · refine x_iload_n (i := 2) dX12_end_65 rfl rfl ?_
            refine x_goto (tgt := 112) dX12_end_66 rfl ?_
            refine x_iret dX12_end_112 rfl ?_
            refine ⟨rfl, Or.inr ⟨hw3, ?_, z57, hFr57⟩⟩
            unfold endA
            rw [eA, ← hI57]
            first | (rw [if_pos (by omega)]; exact r57e) | (rw [if_neg (by omega), if_pos (by omega)]; done) | (rw [if_neg (by omega), if_neg (by omega), if_pos (by omega)]; done) | (rw [if_neg (by omega), if_neg (by omega), if_neg (by omega)]; done)
        · rw [ifn_0 (by omega)]
          refine y_ic dX12_end_42 ⟨by decide, by decide⟩ ?_
          refine x_iret dX12_end_43 rfl ?_
          exact ⟨rfl, Or.inl ⟨by omega, rfl, uI_uI⟩⟩
      · refine y_ic dX12_end_30 ⟨by decide, by decide⟩ ?_
        refine x_goto (tgt := 35) dX12_end_31 rfl ?_
        refine y_ic dX12_end_35 ⟨by decide, by decide⟩ ?_
        refine x_callVI (c_X12_right2 hW (by first | rw [uI_eq, u1_eq] | assumption) (by omega) (by decide)) dX12_end_36 lkX12_309 mfX12_right cfX12 at91 rfl rfl rfl rfl (Nat.le_of_ble_eq_true rfl) (fun r36 I36 P36 hr36 hf36 => ?_)
        obtain ⟨rfl, e36, i36⟩ := hf36
        rw [i36]
        refine x_if_ne (tgt := 44) dX12_end_39 rfl (fun h39 => ?_) (fun h39 => ?_)
        · rw [ifn_1 (by omega)]
          refine y_aln (i := 0) dX12_end_44 at91.ne0 rfl rfl ?_
          refine y_aln (i := 0) dX12_end_45 at91.ne0 rfl rfl ?_
          refine y_getp (z := 14) (v := 98) dX12_end_46 frX12_38 cfX12 at91 rfl rfl (wp (v := 98) hW rfl rfl (by decide)) ?_
          refine y_aln (i := 0) dX12_end_49 at91.ne0 rfl rfl ?_
          refine y_getp (z := 75) (v := 129) dX12_end_50 frX12_136 cfX12 at91 rfl rfl (wp (v := 129) hW rfl rfl (by decide)) ?_
          refine x_callVV (c_X12_copies ar98 ar129 (by decide) (by decide) (by decide)) dX12_end_53 lkX12_328 mfX12_copies cfX12 at91 rfl rfl rfl rfl (Nat.le_of_ble_eq_true rfl) (fun n53 I53 P53 hf53 => ?_)
          obtain ⟨rfl, hI53, rfl⟩ := hf53
          have hw3 : w = 0 ∨ w = 1 ∨ w = 2 ∨ (3 ≤ w ∧ w - 3 < T 0 1) := by omega
          have hre : RE (I 98) (I53 129) := fun c h0 h1 => by rw [hI53, uA_eq, if_pos (by omega), uI_ne (by decide)]
          have hFr53 : Fr (129 :: frS) (0 :: frF) I I53 := by rw [hI53]; exact (Fr.rf.uf (by decide)).ua (by decide) (by decide)
          have hT53 := hT.fr hFr53
          have z53 : I53 91 0 = 0 := by rw [hI53, uA_ne (by decide), uI_eq, u1_eq]
          refine y_aln (i := 0) dX12_end_56 at91.ne0 rfl rfl ?_
          refine x_callVI (c_X12_ends hW hT53 hF (hre.rw hr)) dX12_end_57 lkX12_485 mfX12_ends cfX12 at91 rfl rfl rfl rfl (Nat.le_of_ble_eq_true rfl) (fun r57 I57 P57 hr57 hf57 => ?_)
          obtain ⟨rfl, r57e, hI57, fr57⟩ := hf57
          have hFr57 : Fr (129 :: frS) (0 :: frF) I I57 := hFr53.tr (fr57.mo (by decide) (by decide))
          have hT57 := hT.fr hFr57
          have z57 : I57 91 0 = 0 := (fr57.2 0 (by decide)).trans z53
          have ho := endN_ok hF 60 _ (hre.rw hr)
          have hrc : RC (I57 129) := by rw [hI57]; exact ho.1.rc
          have eA := RE.enda (w := w) hre hF hw3
          unfold endA at eA
          refine x_istore_n (i := 2) dX12_end_60 rfl rfl (Nat.le_of_ble_eq_true rfl) ?_
          refine x_iload_n (i := 1) dX12_end_61 rfl rfl ?_
          refine x_if_ne (tgt := 69) dX12_end_62 rfl (fun h62 => ?_) (fun h62 => ?_)
          · refine x_iload_n (i := 1) dX12_end_69 rfl rfl ?_
            refine y_ic dX12_end_70 ⟨by decide, by decide⟩ ?_
            refine x_icmp_ne (tgt := 85) dX12_end_71 rfl (fun h71 => ?_) (fun h71 => ?_)
            · refine x_iload_n (i := 1) dX12_end_85 rfl rfl ?_
              refine y_ic dX12_end_86 ⟨by decide, by decide⟩ ?_
              refine x_icmp_ne (tgt := 101) dX12_end_87 rfl (fun h87 => ?_) (fun h87 => ?_)
              · refine y_aln (i := 0) dX12_end_101 at91.ne0 rfl rfl ?_
                refine y_aln (i := 0) dX12_end_102 at91.ne0 rfl rfl ?_
                refine y_getp (z := 75) (v := 129) dX12_end_103 frX12_136 cfX12 at91 rfl rfl (wp (v := 129) hW rfl rfl (by decide)) ?_
                refine x_iload_n (i := 1) dX12_end_106 rfl rfl ?_
                refine y_ic dX12_end_107 ⟨by decide, by decide⟩ ?_
                refine x_isub dX12_end_108 ⟨by omega, by omega⟩ ?_
                refine x_callVI (c_X12_bagOf hW hT57 hF ar129 hrc (by omega)) dX12_end_109 lkX12_351 mfX12_bagOf cfX12 at91 rfl rfl rfl rfl (Nat.le_of_ble_eq_true rfl) (fun r109 I109 P109 hr109 hf109 => ?_)
                obtain ⟨i109, p109, q109⟩ := hf109
                rw [i109, p109, q109]
                refine x_iret dX12_end_112 rfl ?_
                refine ⟨rfl, Or.inr ⟨hw3, ?_, z57, hFr57⟩⟩
                unfold endA
                rw [eA, ← hI57]
                first | (rw [if_pos (by omega)]; exact r57e) | (rw [if_neg (by omega), if_pos (by omega)]; done) | (rw [if_neg (by omega), if_neg (by omega), if_pos (by omega)]; done) | (rw [if_neg (by omega), if_neg (by omega), if_neg (by omega)]; done)
              · refine y_aln (i := 0) dX12_end_90 at91.ne0 rfl rfl ?_
                refine y_aln (i := 0) dX12_end_91 at91.ne0 rfl rfl ?_
                refine y_getp (z := 75) (v := 129) dX12_end_92 frX12_136 cfX12 at91 rfl rfl (wp (v := 129) hW rfl rfl (by decide)) ?_
                refine x_callVI (c_X12_allWorth hW hT57 hF ar129 hrc) dX12_end_95 lkX12_368 mfX12_allWorth cfX12 at91 rfl rfl rfl rfl (Nat.le_of_ble_eq_true rfl) (fun r95 I95 P95 hr95 hf95 => ?_)
                obtain ⟨i95, p95, q95⟩ := hf95
                rw [i95, p95, q95]
                refine x_goto (tgt := 112) dX12_end_98 rfl ?_
                refine x_iret dX12_end_112 rfl ?_
                refine ⟨rfl, Or.inr ⟨hw3, ?_, z57, hFr57⟩⟩
                unfold endA
                rw [eA, ← hI57]
                first | (rw [if_pos (by omega)]; exact r57e) | (rw [if_neg (by omega), if_pos (by omega)]; done) | (rw [if_neg (by omega), if_neg (by omega), if_pos (by omega)]; done) | (rw [if_neg (by omega), if_neg (by omega), if_neg (by omega)]; done)
            · refine y_aln (i := 0) dX12_end_74 at91.ne0 rfl rfl ?_
              refine y_aln (i := 0) dX12_end_75 at91.ne0 rfl rfl ?_
              refine y_getp (z := 75) (v := 129) dX12_end_76 frX12_136 cfX12 at91 rfl rfl (wp (v := 129) hW rfl rfl (by decide)) ?_
              refine x_callVI (c_X12_allThings hW hT57 hF ar129 hrc) dX12_end_79 lkX12_358 mfX12_allThings cfX12 at91 rfl rfl rfl rfl (Nat.le_of_ble_eq_true rfl) (fun r79 I79 P79 hr79 hf79 => ?_)
              obtain ⟨i79, p79, q79⟩ := hf79
              rw [i79, p79, q79]
              refine x_goto (tgt := 112) dX12_end_82 rfl ?_
              refine x_iret dX12_end_112 rfl ?_
              refine ⟨rfl, Or.inr ⟨hw3, ?_, z57, hFr57⟩⟩
              unfold endA
              rw [eA, ← hI57]
              first | (rw [if_pos (by omega)]; exact r57e) | (rw [if_neg (by omega), if_pos (by omega)]; done) | (rw [if_neg (by omega), if_neg (by omega), if_pos (by omega)]; done) | (rw [if_neg (by omega), if_neg (by omega), if_neg (by omega)]; done)
          · refine x_iload_n (i := 2) dX12_end_65 rfl rfl ?_
            refine x_goto (tgt := 112) dX12_end_66 rfl ?_
            refine x_iret dX12_end_112 rfl ?_
            refine ⟨rfl, Or.inr ⟨hw3, ?_, z57, hFr57⟩⟩
            unfold endA
            rw [eA, ← hI57]
            first | (rw [if_pos (by omega)]; exact r57e) | (rw [if_neg (by omega), if_pos (by omega)]; done) | (rw [if_neg (by omega), if_neg (by omega), if_pos (by omega)]; done) | (rw [if_neg (by omega), if_neg (by omega), if_neg (by omega)]; done)
        · rw [ifn_0 (by omega)]
          refine y_ic dX12_end_42 ⟨by decide, by decide⟩ ?_
          refine x_iret dX12_end_43 rfl ?_
          exact ⟨rfl, Or.inl ⟨by omega, rfl, uI_uI⟩⟩
theorem c_X12_meet {a b : Int} (hW : WP P) (hT : MT I T) (hF : WF T) (hr : RW T (I 98)) : Cv G mX12_meet (d + 4) 0 0 [.inr (.inl 91), .inl a, .inl b] NO I P (qI NO (fun r I' P' => P' = P ∧ ((¬ ((0 ≤ a ∧ a < T 0 1) ∧ (0 ≤ b ∧ b < T 0 1) ∧ a ≠ b) ∧ r = 0 ∧ I' = uI I 91 0 1) ∨ (((0 ≤ a ∧ a < T 0 1) ∧ (0 ≤ b ∧ b < T 0 1) ∧ a ≠ b) ∧ r = (meetS T (I 98) a b).1 ∧ I' 98 = (meetS T (I 98) a b).2 ∧ I' 91 0 = 0 ∧ Fr (98 :: frS) (0 :: frF) I I')))) := by
  have hT0 : MT (uI I 91 0 0) T := hT.uf (by decide)
  have e10 : uI I 91 0 0 91 1 = T 0 1 := hT0.1 1 (by decide) (by decide)
  have e98 : uI I 91 0 0 98 = I 98 := uI_ne (by decide)
  refine x_enter mfX12_meet rfl (Nat.le_of_ble_eq_true rfl) (fun _ => ?_)
  refine y_aln (i := 0) dX12_meet_0 at91.ne0 rfl rfl ?_
  refine y_ic dX12_meet_1 ⟨by decide, by decide⟩ ?_
  refine y_puti (z := 0) dX12_meet_2 frX12_184 cfX12 at91 rfl rfl rfl ?_
  refine y_aln (i := 0) dX12_meet_5 at91.ne0 rfl rfl ?_
  refine x_iload_n (i := 1) dX12_meet_6 rfl rfl ?_
  refine x_if_lt (tgt := 39) dX12_meet_7 rfl (fun h7 => ?_) (fun h7 => ?_)
  · refine y_ic dX12_meet_39 ⟨by decide, by decide⟩ ?_
    refine y_ic dX12_meet_40 ⟨by decide, by decide⟩ ?_
    refine x_callVI (c_X12_right2 hW (by first | rw [uI_eq, u1_eq] | assumption) (by omega) (by decide)) dX12_meet_41 lkX12_309 mfX12_right cfX12 at91 rfl rfl rfl rfl (Nat.le_of_ble_eq_true rfl) (fun r41 I41 P41 hr41 hf41 => ?_)
    obtain ⟨rfl, e41, i41⟩ := hf41
    rw [i41]
    refine x_if_eq (tgt := 60) dX12_meet_44 rfl (fun h44 => ?_) (fun h44 => ?_)
    · rw [ifn_0 (by omega)]
      refine y_ic dX12_meet_60 ⟨by decide, by decide⟩ ?_
      refine x_iret dX12_meet_61 rfl ?_
      first | exact ⟨rfl, Or.inl ⟨by omega, rfl, uI_uI⟩⟩ | exact ⟨rfl, Or.inr ⟨by omega, p54, o54, (fr54.2 0 (by decide)).trans (by rw [uI_eq, u1_eq]), (Fr.rf.uf (by decide)).tr (fr54.mo (by decide) (by decide))⟩⟩
    · rw [ifn_1 (by omega)]
      refine y_aln (i := 0) dX12_meet_47 at91.ne0 rfl rfl ?_
      refine y_aln (i := 0) dX12_meet_48 at91.ne0 rfl rfl ?_
      refine y_getp (z := 14) (v := 98) dX12_meet_49 frX12_38 cfX12 at91 rfl rfl (wp (v := 98) hW rfl rfl (by decide)) ?_
      refine x_iload_n (i := 1) dX12_meet_52 rfl rfl ?_
      refine x_iload_n (i := 2) dX12_meet_53 rfl rfl ?_
      refine x_callVI (c_X12_meet0 hW hT0 hF ar98 (by decide) (by rw [e98]; exact hr) (by omega) (by omega) (by omega)) dX12_meet_54 lkX12_478 mfX12_meet0 cfX12 at91 rfl rfl rfl rfl (Nat.le_of_ble_eq_true rfl) (fun r54 I54 P54 hr54 hf54 => ?_)
      obtain ⟨rfl, p54, o54, fr54⟩ := hf54
      rw [e98] at p54 o54
      refine x_goto (tgt := 61) dX12_meet_57 rfl ?_
      refine x_iret dX12_meet_61 rfl ?_
      first | exact ⟨rfl, Or.inl ⟨by omega, rfl, uI_uI⟩⟩ | exact ⟨rfl, Or.inr ⟨by omega, p54, o54, (fr54.2 0 (by decide)).trans (by rw [uI_eq, u1_eq]), (Fr.rf.uf (by decide)).tr (fr54.mo (by decide) (by decide))⟩⟩
  · refine x_iload_n (i := 1) dX12_meet_10 rfl rfl ?_
    refine y_aln (i := 0) dX12_meet_11 at91.ne0 rfl rfl ?_
    refine y_geti (z := 1) dX12_meet_12 frX12_316 cfX12 at91 rfl rfl ?_
    refine x_icmp_ge (tgt := 39) dX12_meet_15 rfl (fun h15 => ?_) (fun h15 => ?_)
    · refine y_ic dX12_meet_39 ⟨by decide, by decide⟩ ?_
      refine y_ic dX12_meet_40 ⟨by decide, by decide⟩ ?_
      refine x_callVI (c_X12_right2 hW (by first | rw [uI_eq, u1_eq] | assumption) (by omega) (by decide)) dX12_meet_41 lkX12_309 mfX12_right cfX12 at91 rfl rfl rfl rfl (Nat.le_of_ble_eq_true rfl) (fun r41 I41 P41 hr41 hf41 => ?_)
      obtain ⟨rfl, e41, i41⟩ := hf41
      rw [i41]
      refine x_if_eq (tgt := 60) dX12_meet_44 rfl (fun h44 => ?_) (fun h44 => ?_)
      · rw [ifn_0 (by omega)]
        refine y_ic dX12_meet_60 ⟨by decide, by decide⟩ ?_
        refine x_iret dX12_meet_61 rfl ?_
        first | exact ⟨rfl, Or.inl ⟨by omega, rfl, uI_uI⟩⟩ | exact ⟨rfl, Or.inr ⟨by omega, p54, o54, (fr54.2 0 (by decide)).trans (by rw [uI_eq, u1_eq]), (Fr.rf.uf (by decide)).tr (fr54.mo (by decide) (by decide))⟩⟩
      · rw [ifn_1 (by omega)]
        refine y_aln (i := 0) dX12_meet_47 at91.ne0 rfl rfl ?_
        refine y_aln (i := 0) dX12_meet_48 at91.ne0 rfl rfl ?_
        refine y_getp (z := 14) (v := 98) dX12_meet_49 frX12_38 cfX12 at91 rfl rfl (wp (v := 98) hW rfl rfl (by decide)) ?_
        refine x_iload_n (i := 1) dX12_meet_52 rfl rfl ?_
        refine x_iload_n (i := 2) dX12_meet_53 rfl rfl ?_
        refine x_callVI (c_X12_meet0 hW hT0 hF ar98 (by decide) (by rw [e98]; exact hr) (by omega) (by omega) (by omega)) dX12_meet_54 lkX12_478 mfX12_meet0 cfX12 at91 rfl rfl rfl rfl (Nat.le_of_ble_eq_true rfl) (fun r54 I54 P54 hr54 hf54 => ?_)
        obtain ⟨rfl, p54, o54, fr54⟩ := hf54
        rw [e98] at p54 o54
        refine x_goto (tgt := 61) dX12_meet_57 rfl ?_
        refine x_iret dX12_meet_61 rfl ?_
        first | exact ⟨rfl, Or.inl ⟨by omega, rfl, uI_uI⟩⟩ | exact ⟨rfl, Or.inr ⟨by omega, p54, o54, (fr54.2 0 (by decide)).trans (by rw [uI_eq, u1_eq]), (Fr.rf.uf (by decide)).tr (fr54.mo (by decide) (by decide))⟩⟩
    · refine x_iload_n (i := 2) dX12_meet_18 rfl rfl ?_
      refine x_if_lt (tgt := 39) dX12_meet_19 rfl (fun h19 => ?_) (fun h19 => ?_)
      · refine y_ic dX12_meet_39 ⟨by decide, by decide⟩ ?_
        refine y_ic dX12_meet_40 ⟨by decide, by decide⟩ ?_
        refine x_callVI (c_X12_right2 hW (by first | rw [uI_eq, u1_eq] | assumption) (by omega) (by decide)) dX12_meet_41 lkX12_309 mfX12_right cfX12 at91 rfl rfl rfl rfl (Nat.le_of_ble_eq_true rfl) (fun r41 I41 P41 hr41 hf41 => ?_)
        obtain ⟨rfl, e41, i41⟩ := hf41
        rw [i41]
        refine x_if_eq (tgt := 60) dX12_meet_44 rfl (fun h44 => ?_) (fun h44 => ?_)
        · rw [ifn_0 (by omega)]
          refine y_ic dX12_meet_60 ⟨by decide, by decide⟩ ?_
          refine x_iret dX12_meet_61 rfl ?_
          first | exact ⟨rfl, Or.inl ⟨by omega, rfl, uI_uI⟩⟩ | exact ⟨rfl, Or.inr ⟨by omega, p54, o54, (fr54.2 0 (by decide)).trans (by rw [uI_eq, u1_eq]), (Fr.rf.uf (by decide)).tr (fr54.mo (by decide) (by decide))⟩⟩
        · rw [ifn_1 (by omega)]
          refine y_aln (i := 0) dX12_meet_47 at91.ne0 rfl rfl ?_
          refine y_aln (i := 0) dX12_meet_48 at91.ne0 rfl rfl ?_
          refine y_getp (z := 14) (v := 98) dX12_meet_49 frX12_38 cfX12 at91 rfl rfl (wp (v := 98) hW rfl rfl (by decide)) ?_
          refine x_iload_n (i := 1) dX12_meet_52 rfl rfl ?_
          refine x_iload_n (i := 2) dX12_meet_53 rfl rfl ?_
          refine x_callVI (c_X12_meet0 hW hT0 hF ar98 (by decide) (by rw [e98]; exact hr) (by omega) (by omega) (by omega)) dX12_meet_54 lkX12_478 mfX12_meet0 cfX12 at91 rfl rfl rfl rfl (Nat.le_of_ble_eq_true rfl) (fun r54 I54 P54 hr54 hf54 => ?_)
          obtain ⟨rfl, p54, o54, fr54⟩ := hf54
          rw [e98] at p54 o54
          refine x_goto (tgt := 61) dX12_meet_57 rfl ?_
          refine x_iret dX12_meet_61 rfl ?_
          first | exact ⟨rfl, Or.inl ⟨by omega, rfl, uI_uI⟩⟩ | exact ⟨rfl, Or.inr ⟨by omega, p54, o54, (fr54.2 0 (by decide)).trans (by rw [uI_eq, u1_eq]), (Fr.rf.uf (by decide)).tr (fr54.mo (by decide) (by decide))⟩⟩
      · refine x_iload_n (i := 2) dX12_meet_22 rfl rfl ?_
        refine y_aln (i := 0) dX12_meet_23 at91.ne0 rfl rfl ?_
        refine y_geti (z := 1) dX12_meet_24 frX12_316 cfX12 at91 rfl rfl ?_
        refine x_icmp_ge (tgt := 39) dX12_meet_27 rfl (fun h27 => ?_) (fun h27 => ?_)
        · refine y_ic dX12_meet_39 ⟨by decide, by decide⟩ ?_
          refine y_ic dX12_meet_40 ⟨by decide, by decide⟩ ?_
          refine x_callVI (c_X12_right2 hW (by first | rw [uI_eq, u1_eq] | assumption) (by omega) (by decide)) dX12_meet_41 lkX12_309 mfX12_right cfX12 at91 rfl rfl rfl rfl (Nat.le_of_ble_eq_true rfl) (fun r41 I41 P41 hr41 hf41 => ?_)
          obtain ⟨rfl, e41, i41⟩ := hf41
          rw [i41]
          refine x_if_eq (tgt := 60) dX12_meet_44 rfl (fun h44 => ?_) (fun h44 => ?_)
          · rw [ifn_0 (by omega)]
            refine y_ic dX12_meet_60 ⟨by decide, by decide⟩ ?_
            refine x_iret dX12_meet_61 rfl ?_
            first | exact ⟨rfl, Or.inl ⟨by omega, rfl, uI_uI⟩⟩ | exact ⟨rfl, Or.inr ⟨by omega, p54, o54, (fr54.2 0 (by decide)).trans (by rw [uI_eq, u1_eq]), (Fr.rf.uf (by decide)).tr (fr54.mo (by decide) (by decide))⟩⟩
          · rw [ifn_1 (by omega)]
            refine y_aln (i := 0) dX12_meet_47 at91.ne0 rfl rfl ?_
            refine y_aln (i := 0) dX12_meet_48 at91.ne0 rfl rfl ?_
            refine y_getp (z := 14) (v := 98) dX12_meet_49 frX12_38 cfX12 at91 rfl rfl (wp (v := 98) hW rfl rfl (by decide)) ?_
            refine x_iload_n (i := 1) dX12_meet_52 rfl rfl ?_
            refine x_iload_n (i := 2) dX12_meet_53 rfl rfl ?_
            refine x_callVI (c_X12_meet0 hW hT0 hF ar98 (by decide) (by rw [e98]; exact hr) (by omega) (by omega) (by omega)) dX12_meet_54 lkX12_478 mfX12_meet0 cfX12 at91 rfl rfl rfl rfl (Nat.le_of_ble_eq_true rfl) (fun r54 I54 P54 hr54 hf54 => ?_)
            obtain ⟨rfl, p54, o54, fr54⟩ := hf54
            rw [e98] at p54 o54
            refine x_goto (tgt := 61) dX12_meet_57 rfl ?_
            refine x_iret dX12_meet_61 rfl ?_
            first | exact ⟨rfl, Or.inl ⟨by omega, rfl, uI_uI⟩⟩ | exact ⟨rfl, Or.inr ⟨by omega, p54, o54, (fr54.2 0 (by decide)).trans (by rw [uI_eq, u1_eq]), (Fr.rf.uf (by decide)).tr (fr54.mo (by decide) (by decide))⟩⟩
        · refine x_iload_n (i := 1) dX12_meet_30 rfl rfl ?_
          refine x_iload_n (i := 2) dX12_meet_31 rfl rfl ?_
          refine x_icmp_eq (tgt := 39) dX12_meet_32 rfl (fun h32 => ?_) (fun h32 => ?_)
          · refine y_ic dX12_meet_39 ⟨by decide, by decide⟩ ?_
            refine y_ic dX12_meet_40 ⟨by decide, by decide⟩ ?_
            refine x_callVI (c_X12_right2 hW (by first | rw [uI_eq, u1_eq] | assumption) (by omega) (by decide)) dX12_meet_41 lkX12_309 mfX12_right cfX12 at91 rfl rfl rfl rfl (Nat.le_of_ble_eq_true rfl) (fun r41 I41 P41 hr41 hf41 => ?_)
            obtain ⟨rfl, e41, i41⟩ := hf41
            rw [i41]
            refine x_if_eq (tgt := 60) dX12_meet_44 rfl (fun h44 => ?_) (fun h44 => ?_)
            · rw [ifn_0 (by omega)]
              refine y_ic dX12_meet_60 ⟨by decide, by decide⟩ ?_
              refine x_iret dX12_meet_61 rfl ?_
              first | exact ⟨rfl, Or.inl ⟨by omega, rfl, uI_uI⟩⟩ | exact ⟨rfl, Or.inr ⟨by omega, p54, o54, (fr54.2 0 (by decide)).trans (by rw [uI_eq, u1_eq]), (Fr.rf.uf (by decide)).tr (fr54.mo (by decide) (by decide))⟩⟩
            · rw [ifn_1 (by omega)]
              refine y_aln (i := 0) dX12_meet_47 at91.ne0 rfl rfl ?_
              refine y_aln (i := 0) dX12_meet_48 at91.ne0 rfl rfl ?_
              refine y_getp (z := 14) (v := 98) dX12_meet_49 frX12_38 cfX12 at91 rfl rfl (wp (v := 98) hW rfl rfl (by decide)) ?_
              refine x_iload_n (i := 1) dX12_meet_52 rfl rfl ?_
              refine x_iload_n (i := 2) dX12_meet_53 rfl rfl ?_
              refine x_callVI (c_X12_meet0 hW hT0 hF ar98 (by decide) (by rw [e98]; exact hr) (by omega) (by omega) (by omega)) dX12_meet_54 lkX12_478 mfX12_meet0 cfX12 at91 rfl rfl rfl rfl (Nat.le_of_ble_eq_true rfl) (fun r54 I54 P54 hr54 hf54 => ?_)
              obtain ⟨rfl, p54, o54, fr54⟩ := hf54
              rw [e98] at p54 o54
              refine x_goto (tgt := 61) dX12_meet_57 rfl ?_
              refine x_iret dX12_meet_61 rfl ?_
              first | exact ⟨rfl, Or.inl ⟨by omega, rfl, uI_uI⟩⟩ | exact ⟨rfl, Or.inr ⟨by omega, p54, o54, (fr54.2 0 (by decide)).trans (by rw [uI_eq, u1_eq]), (Fr.rf.uf (by decide)).tr (fr54.mo (by decide) (by decide))⟩⟩
          · refine y_ic dX12_meet_35 ⟨by decide, by decide⟩ ?_
            refine x_goto (tgt := 40) dX12_meet_36 rfl ?_
            refine y_ic dX12_meet_40 ⟨by decide, by decide⟩ ?_
            refine x_callVI (c_X12_right2 hW (by first | rw [uI_eq, u1_eq] | assumption) (by omega) (by decide)) dX12_meet_41 lkX12_309 mfX12_right cfX12 at91 rfl rfl rfl rfl (Nat.le_of_ble_eq_true rfl) (fun r41 I41 P41 hr41 hf41 => ?_)
            obtain ⟨rfl, e41, i41⟩ := hf41
            rw [i41]
            refine x_if_eq (tgt := 60) dX12_meet_44 rfl (fun h44 => ?_) (fun h44 => ?_)
            · rw [ifn_0 (by omega)]
              refine y_ic dX12_meet_60 ⟨by decide, by decide⟩ ?_
              refine x_iret dX12_meet_61 rfl ?_
              first | exact ⟨rfl, Or.inl ⟨by omega, rfl, uI_uI⟩⟩ | exact ⟨rfl, Or.inr ⟨by omega, p54, o54, (fr54.2 0 (by decide)).trans (by rw [uI_eq, u1_eq]), (Fr.rf.uf (by decide)).tr (fr54.mo (by decide) (by decide))⟩⟩
            · rw [ifn_1 (by omega)]
              refine y_aln (i := 0) dX12_meet_47 at91.ne0 rfl rfl ?_
              refine y_aln (i := 0) dX12_meet_48 at91.ne0 rfl rfl ?_
              refine y_getp (z := 14) (v := 98) dX12_meet_49 frX12_38 cfX12 at91 rfl rfl (wp (v := 98) hW rfl rfl (by decide)) ?_
              refine x_iload_n (i := 1) dX12_meet_52 rfl rfl ?_
              refine x_iload_n (i := 2) dX12_meet_53 rfl rfl ?_
              refine x_callVI (c_X12_meet0 hW hT0 hF ar98 (by decide) (by rw [e98]; exact hr) (by omega) (by omega) (by omega)) dX12_meet_54 lkX12_478 mfX12_meet0 cfX12 at91 rfl rfl rfl rfl (Nat.le_of_ble_eq_true rfl) (fun r54 I54 P54 hr54 hf54 => ?_)
              obtain ⟨rfl, p54, o54, fr54⟩ := hf54
              rw [e98] at p54 o54
              refine x_goto (tgt := 61) dX12_meet_57 rfl ?_
              refine x_iret dX12_meet_61 rfl ?_
              first | exact ⟨rfl, Or.inl ⟨by omega, rfl, uI_uI⟩⟩ | exact ⟨rfl, Or.inr ⟨by omega, p54, o54, (fr54.2 0 (by decide)).trans (by rw [uI_eq, u1_eq]), (Fr.rf.uf (by decide)).tr (fr54.mo (by decide) (by decide))⟩⟩
theorem c_X12_image (hW : WP P) : Cv G mX12_image (d + 1) 0 0 [.inr (.inl 91)] NO I P (qV (fun n I' P' => n = NO ∧ P' = P ∧ I' 91 0 = 0 ∧ I' 91 92 = 1 ∧ RE (I 98) (I' 144) ∧ Fr [144] [0, 92] I I')) := by
  refine x_enter mfX12_image rfl (Nat.le_of_ble_eq_true rfl) (fun _ => ?_)
  refine y_aln (i := 0) dX12_image_0 at91.ne0 rfl rfl ?_
  refine y_ic dX12_image_1 ⟨by decide, by decide⟩ ?_
  refine y_puti (z := 0) dX12_image_2 frX12_184 cfX12 at91 rfl rfl rfl ?_
  refine y_aln (i := 0) dX12_image_5 at91.ne0 rfl rfl ?_
  refine y_ic dX12_image_6 ⟨by decide, by decide⟩ ?_
  refine y_putz (z := 92) dX12_image_7 frX12_344 cfX12 at91 rfl rfl rfl (by omega) ?_
  refine y_aln (i := 0) dX12_image_10 at91.ne0 rfl rfl ?_
  refine y_aln (i := 0) dX12_image_11 at91.ne0 rfl rfl ?_
  refine y_getp (z := 14) (v := 98) dX12_image_12 frX12_38 cfX12 at91 rfl rfl (wp (v := 98) hW rfl rfl (by decide)) ?_
  refine y_aln (i := 0) dX12_image_15 at91.ne0 rfl rfl ?_
  refine y_getp (z := 93) (v := 144) dX12_image_16 frX12_181 cfX12 at91 rfl rfl (wp (v := 144) hW rfl rfl (by decide)) ?_
  refine x_callVV (c_X12_copies ar98 ar144 (by decide) (by decide) (by decide)) dX12_image_19 lkX12_328 mfX12_copies cfX12 at91 rfl rfl rfl rfl (Nat.le_of_ble_eq_true rfl) (fun n19 I19 P19 hf19 => ?_)
  obtain ⟨rfl, hI19, rfl⟩ := hf19
  refine x_vret dX12_image_22 rfl ?_
  refine ⟨rfl, rfl, ?_, ?_, fun c h0 h1 => ?_, ?_⟩
  · rw [hI19, uA_ne (by decide), uI_eq, u1_ne (by decide), uI_eq, u1_eq]
  · rw [hI19, uA_ne (by decide), uI_eq, u1_eq]
  · rw [hI19, uA_eq, if_pos (by omega), uI_ne (by decide), uI_ne (by decide)]
  · rw [hI19]; exact ((Fr.rf.uf (by decide)).uf (by decide)).ua (by decide) (by decide)
theorem c_X12_restore (hW : WP P) : Cv G mX12_restore (d + 1) 0 0 [.inr (.inl 91)] NO I P (qI NO (fun r I' P' => P' = P ∧ ((I 91 92 = 0 ∧ r = 0 ∧ I' = uI I 91 0 0) ∨ (I 91 92 ≠ 0 ∧ r = 1 ∧ I' 91 0 = 0 ∧ RE (I 144) (I' 98) ∧ Fr [98] [0] I I')))) := by
  have e0 : uI I 91 0 0 91 92 = I 91 92 := by rw [uI_eq, u1_ne (by decide)]
  refine x_enter mfX12_restore rfl (Nat.le_of_ble_eq_true rfl) (fun _ => ?_)
  refine y_aln (i := 0) dX12_restore_0 at91.ne0 rfl rfl ?_
  refine y_ic dX12_restore_1 ⟨by decide, by decide⟩ ?_
  refine y_puti (z := 0) dX12_restore_2 frX12_184 cfX12 at91 rfl rfl rfl ?_
  refine y_aln (i := 0) dX12_restore_5 at91.ne0 rfl rfl ?_
  refine y_geti (z := 92) dX12_restore_6 frX12_344 cfX12 at91 rfl rfl ?_
  refine x_if_ne (tgt := 14) dX12_restore_9 rfl (fun h9 => ?_) (fun h9 => ?_)
  · refine y_aln (i := 0) dX12_restore_14 at91.ne0 rfl rfl ?_
    refine y_aln (i := 0) dX12_restore_15 at91.ne0 rfl rfl ?_
    refine y_getp (z := 93) (v := 144) dX12_restore_16 frX12_181 cfX12 at91 rfl rfl (wp (v := 144) hW rfl rfl (by decide)) ?_
    refine y_aln (i := 0) dX12_restore_19 at91.ne0 rfl rfl ?_
    refine y_getp (z := 14) (v := 98) dX12_restore_20 frX12_38 cfX12 at91 rfl rfl (wp (v := 98) hW rfl rfl (by decide)) ?_
    refine x_callVV (c_X12_copies ar144 ar98 (by decide) (by decide) (by decide)) dX12_restore_23 lkX12_328 mfX12_copies cfX12 at91 rfl rfl rfl rfl (Nat.le_of_ble_eq_true rfl) (fun n23 I23 P23 hf23 => ?_)
    obtain ⟨rfl, hI23, rfl⟩ := hf23
    refine y_ic dX12_restore_26 ⟨by decide, by decide⟩ ?_
    refine x_zret dX12_restore_27 (by omega) rfl ?_
    refine ⟨rfl, Or.inr ⟨by omega, rfl, ?_, fun c h0 h1 => ?_, ?_⟩⟩
    · rw [hI23, uA_ne (by decide), uI_eq, u1_eq]
    · rw [hI23, uA_eq, if_pos (by omega), uI_ne (by decide)]
    · rw [hI23]; exact (Fr.rf.uf (by decide)).ua (by decide) (by decide)
  · refine y_ic dX12_restore_12 ⟨by decide, by decide⟩ ?_
    refine x_zret dX12_restore_13 (by omega) rfl ?_
    exact ⟨rfl, Or.inl ⟨by omega, rfl, rfl⟩⟩
end

