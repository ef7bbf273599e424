/-! ===== the class: foresight, whole ===== -/
section
variable {G : HX} {d : Nat} {I : Mem} {P : Ptr} {T : Tn}
theorem c_X0_thinkN (hW : WP P) (hF : WF T) : ∀ (n : Nat) (l : Int) (y : Nat), (n : Int) = T 0 6 - l → 0 ≤ l → THK G P T n l (y + 2 * n)
  | 0, l, y, hn, hl => fun J t lw hM hr h1 h2 => c_X0_think0 hW hM hF hr (by omega) h1 h2
  | n + 1, l, y, hn, hl => fun J t lw hM hr h1 h2 => by
    have i1 := c_X0_thinkN hW hF n (l + 1) y (by omega) (by omega)
    have i2 := c_X0_thinkN hW hF n (l + 1) (y + 1) (by omega) (by omega)
    rw [show y + 1 + 2 * n = y + 2 * n + 1 by omega] at i2
    exact c_X0_thinkS (y := y + 2 * n) hW hM hF hr hl (by omega) h1 h2 i1 i2
theorem c_X0_foresee {q t lw N z : Nat} (hW : WP P) (hM : MK I P q t lw T) (hF : WF T) (hr : RW T (fun j => if 0 ≤ j ∧ j < 48 then I (q + 1) j else I 66 j)) (hne : 65 ≠ q) (HT : ∀ P', WP P' → THK G P' T N 0 z) : Cv G mX0_foresee (z + 5) 0 0 [.inr (.inl 64), .inr (.inl q)] NO I P (qI NO (fun r I' P' => P' = uP (uP P 65 0 t) 65 1 lw ∧ ∃ R, R = (fun j => if 0 ≤ j ∧ j < 48 then I (q + 1) j else I 66 j) ∧ I' (65 + 1) = R ∧ Fc (sF 0) I I' ∧ ((r = 1 ∧ (ahS T N 0 R).2 ≤ 3000 ∧ ∀ p, 0 ≤ p → p < T 0 1 → I' (eR 0) p = (ahS T N 0 R).1 p) ∨ (r = 0 ∧ 3000 < (ahS T N 0 R).2)))) := by
  obtain ⟨hq, hTo, hLo, hpt, hpl, hca, hcl⟩ := id hM
  have hM65 : isM 65 := Or.inr (Or.inr (Or.inr rfl))
  refine x_enter mfX0_foresee rfl (Nat.le_of_ble_eq_true rfl) (fun _ => ?_)
  refine y_aln (i := 0) dX0_foresee_0 at64.ne0 rfl rfl ?_
  refine y_getp (z := 0) (v := 65) dX0_foresee_1 frX0_16 cfX0 at64 rfl rfl (wp (v := 65) hW rfl rfl (by decide)) ?_
  refine y_aln (i := 1) dX0_foresee_4 hq.at.ne0 rfl rfl ?_
  refine x_callVV (c_X3_take hW hM65 hM hne) dX0_foresee_5 lkX0_20 mfX3_take cfX3 at65 rfl rfl rfl rfl (Nat.le_of_ble_eq_true rfl) (fun n5 I5 P5 hf5 => ?_)
  obtain ⟨rfl, rfl, h5⟩ := hf5
  obtain ⟨R, hR⟩ : ∃ R, R = (fun j => if 0 ≤ j ∧ j < 48 then I (q + 1) j else I 66 j) := ⟨_, rfl⟩
  rw [← hR] at hr
  have h5' : I5 = uA I 66 R := by rw [h5, hR]
  have hWn : WP (uP (uP P 65 0 t) 65 1 lw) := hW.mk hM65
  have f5 : Fc (sF 0) I I5 := by rw [h5']; exact Fc.rf.ua (Or.inr (Or.inl rfl))
  have hMK : ∀ J : Mem, Fc (sF 0) I J → MK J (uP (uP P 65 0 t) 65 1 lw) 65 t lw T := fun J hJ => ⟨hM65, hTo, hLo, mk_P.1, mk_P.2, hca.fr hTo hJ sF_tl, hcl.fr hLo hJ sF_tl⟩
  have fA : Fc (sF 0) I (uI (uI I5 64 1 0) 64 2 1) := (f5.ui (Or.inl rfl)).ui (Or.inl rfl)
  have rA : uI (uI I5 64 1 0) 64 2 1 (65 + 1) = R := by rw [uI_ne (by decide), uI_ne (by decide), h5', uA_eq]
  have xA : uI (uI I5 64 1 0) 64 2 1 64 1 = 0 := by rw [uI_eq, u1_ne (by decide), uI_eq, u1_eq]
  refine y_aln (i := 0) dX0_foresee_8 at64.ne0 rfl rfl ?_
  refine y_ic dX0_foresee_9 ⟨by decide, by decide⟩ ?_
  refine y_puti (z := 1) dX0_foresee_10 frX0_26 cfX0 at64 rfl rfl rfl ?_
  refine y_aln (i := 0) dX0_foresee_13 at64.ne0 rfl rfl ?_
  refine y_ic dX0_foresee_14 ⟨by decide, by decide⟩ ?_
  refine y_putz (z := 2) dX0_foresee_15 frX0_30 cfX0 at64 rfl rfl rfl (by omega) ?_
  refine y_aln (i := 0) dX0_foresee_18 at64.ne0 rfl rfl ?_
  refine y_ic dX0_foresee_19 ⟨by decide, by decide⟩ ?_
  refine x_callSI (HT _ hWn _ t lw (hMK _ fA) (by rw [rA]; exact hr) (by rw [xA]; decide) (by rw [xA]; decide)) dX0_foresee_20 lkX0_34 mfX0_think rfl rfl rfl (Nat.le_of_ble_eq_true rfl) (fun r20 I20 P20 hr20 hf20 => ?_)
  rw [rA, xA] at hf20
  obtain ⟨rfl, s66, sc, sF20, hs⟩ := hf20
  have fB : Fc (sF 0) I (uI (uI I20 64 1 0) 64 2 0) := ((fA.tr sF20).ui (Or.inl rfl)).ui (Or.inl rfl)
  have rB : uI (uI I20 64 1 0) 64 2 0 (65 + 1) = R := by rw [uI_ne (by decide), uI_ne (by decide)]; exact s66
  have xB : uI (uI I20 64 1 0) 64 2 0 64 1 = 0 := by rw [uI_eq, u1_ne (by decide), uI_eq, u1_eq]
  have xC : uI (uI I20 64 1 0) 64 2 0 64 2 = 0 := by rw [uI_eq, u1_eq]
  refine x_istore_n (i := 2) dX0_foresee_23 rfl rfl (Nat.le_of_ble_eq_true rfl) ?_
  refine y_aln (i := 0) dX0_foresee_24 at64.ne0 rfl rfl ?_
  refine y_ic dX0_foresee_25 ⟨by decide, by decide⟩ ?_
  refine y_puti (z := 1) dX0_foresee_26 frX0_26 cfX0 at64 rfl rfl rfl ?_
  refine y_aln (i := 0) dX0_foresee_29 at64.ne0 rfl rfl ?_
  refine y_ic dX0_foresee_30 ⟨by decide, by decide⟩ ?_
  refine y_putz (z := 2) dX0_foresee_31 frX0_30 cfX0 at64 rfl rfl rfl (by omega) ?_
  refine x_iload_n (i := 2) dX0_foresee_34 rfl rfl ?_
  refine x_if_eq (tgt := 50) dX0_foresee_35 rfl (fun h35 => ?_) (fun h35 => ?_)
  · have s0 := hs.resolve_right (fun q => by have := q.1; omega)
    refine y_ic dX0_foresee_50 ⟨by decide, by decide⟩ ?_
    refine x_zret dX0_foresee_51 (by omega) rfl ?_
    first | (have z1 := s0; exact ⟨rfl, R, hR, rB, fB, Or.inr ⟨rfl, by have := s0.2; omega⟩⟩) | (have z1 := u0; omega) | (have z1 := u1'; exact ⟨rfl, R, hR, u66, fB.tr uF, Or.inl ⟨rfl, by have := u1'.2; omega, u1'.2.2.2 rfl⟩⟩)
  · have s1' := hs.resolve_left (fun q => h35 q.1)
    refine y_aln (i := 0) dX0_foresee_38 at64.ne0 rfl rfl ?_
    refine y_ic dX0_foresee_39 ⟨by decide, by decide⟩ ?_
    refine x_callSI (HT _ hWn _ t lw (hMK _ fB) (by rw [rB]; exact hr) (by rw [xB]; decide) (by rw [xB]; decide)) dX0_foresee_40 lkX0_34 mfX0_think rfl rfl rfl (Nat.le_of_ble_eq_true rfl) (fun r40 I40 P40 hr40 hf40 => ?_)
    rw [rB, xB, xC] at hf40
    obtain ⟨rfl, u66, uc, uF, hu⟩ := hf40
    refine x_if_eq (tgt := 50) dX0_foresee_43 rfl (fun h43 => ?_) (fun h43 => ?_)
    · have u0 := hu.resolve_right (fun q => by have := q.1; omega)
      have u1' := s1'.2.2.1
      have u2' := s1'.2.1
      have u3' := u0.2
      refine y_ic dX0_foresee_50 ⟨by decide, by decide⟩ ?_
      refine x_zret dX0_foresee_51 (by omega) rfl ?_
      first | (have z1 := s0; exact ⟨rfl, R, hR, rB, fB, Or.inr ⟨rfl, by have := s0.2; omega⟩⟩) | (have z1 := u0; omega) | (have z1 := u1'; exact ⟨rfl, R, hR, u66, fB.tr uF, Or.inl ⟨rfl, by have := u1'.2; omega, u1'.2.2.2 rfl⟩⟩)
    · have u1' := hu.resolve_left (fun q => h43 q.1)
      refine y_ic dX0_foresee_46 ⟨by decide, by decide⟩ ?_
      refine x_goto (tgt := 51) dX0_foresee_47 rfl ?_
      refine x_zret dX0_foresee_51 (by omega) rfl ?_
      first | (have z1 := s0; exact ⟨rfl, R, hR, rB, fB, Or.inr ⟨rfl, by have := s0.2; omega⟩⟩) | (have z1 := u0; omega) | (have z1 := u1'; exact ⟨rfl, R, hR, u66, fB.tr uF, Or.inl ⟨rfl, by have := u1'.2; omega, u1'.2.2.2 rfl⟩⟩)
end

