/-! ===== the class: foresight, leaves ===== -/
section
variable {G : HX} {Y : MI} {d kc ks pc : Nat} {lv : LV} {st : List AV} {n : Nat} {I : Mem} {P : Ptr} {Q : QT}
theorem x_alen4 {a N : Nat} (hd : decode Y.2.1 pc = .ok (.arraylength, 1)) (hA : AR n a 24 N) (hN : (N : Int) < 2147483648) (kk : V G Y d kc ks (pc + 1) lv (.inl (N : Int) :: st) n I P Q) : V G Y d kc ks pc lv (.inr (.inl a) :: st) n I P Q := by
  intro p e R s m args below meth c H locs cells slots mc ms ls h
  have hk := h.1
  have hR := h.2.2.2.2.1
  have e2 : conc G.1 (.inr (.inl a)) = .ref (adr G.1 a) := rvl_pos hA.ne0
  rw [List.map_cons, e2]
  have h1 := rp_at hR hA.2.1 hA.2.2
  rw [ent_q hA.1] at h1
  have hty : (tys G.1)[4]? = some (G.1.ac 4, .array .int) := rfl
  refine va_alen hk.1 hk.2.1 hk.2.2.2.2.2.2.2.2.2.2.2.2.1 hR.1 (a - 1) 4 h1 hty (v := oI (N : Int)) (oI_nat N).symm hd ?_
  exact kk p e R s m args below meth c H locs cells slots mc ms ls (h.st1 (ok_c (v := .inl (N : Int)) ⟨by omega, hN⟩ (ok_t h.2.2.2.1)))
end
def eR (l : Int) : Nat := 68 + l.toNat
theorem eR_n {l : Int} (h : 0 ≤ l ∧ l ≤ 8) : 68 ≤ eR l ∧ eR l ≤ 76 ∧ (eR l : Int) = 68 + l := by unfold eR; omega
theorem eR_ar {l : Int} (h : 0 ≤ l ∧ l ≤ 8) : AR NO (eR l) 20 6 := by
  have : l = 0 ∨ l = 1 ∨ l = 2 ∨ l = 3 ∨ l = 4 ∨ l = 5 ∨ l = 6 ∨ l = 7 ∨ l = 8 := by omega
  rcases this with rfl | rfl | rfl | rfl | rfl | rfl | rfl | rfl | rfl <;> exact ⟨rfl, by decide, by decide⟩
theorem eR_p {P : Ptr} (hW : WP P) {l : Int} (h : 0 ≤ l ∧ l ≤ 8) : P 67 l = eR l := by
  have : l = 0 ∨ l = 1 ∨ l = 2 ∨ l = 3 ∨ l = 4 ∨ l = 5 ∨ l = 6 ∨ l = 7 ∨ l = 8 := by omega
  rcases this with rfl | rfl | rfl | rfl | rfl | rfl | rfl | rfl | rfl
  · exact hW 67 0 (by decide)
  · exact hW 67 1 (by decide)
  · exact hW 67 2 (by decide)
  · exact hW 67 3 (by decide)
  · exact hW 67 4 (by decide)
  · exact hW 67 5 (by decide)
  · exact hW 67 6 (by decide)
  · exact hW 67 7 (by decide)
  · exact hW 67 8 (by decide)
def cpE (I : Mem) (l : Int) : Mem := uA I (eR l) (fun j => if 0 ≤ j ∧ j < 6 then I (eR (l + 1)) j else I (eR l) j)
section
variable {G : HX} {d : Nat} {I : Mem} {P : Ptr} {T : Tn}
theorem c_X0_seeEndOfTwo {t lw : Nat} {l a b : Int} (hW : WP P) (hM : MK I P 65 t lw T) (hF : WF T) (hr : RC (I 66)) (hl : 0 ≤ l ∧ l ≤ 8) (ha : 0 ≤ a ∧ a < T 0 1) (hb : 0 ≤ b ∧ b < T 0 1) : Cv G mX0_seeEndOfTwo (d + 1) 0 0 [.inr (.inl 64), .inl l, .inl a, .inl b] NO I P (qI NO (fun r I' P' => P' = P ∧ r = 1 ∧ I' = uI (uI I (eR l) a (bagS T (I 66) a)) (eR l) b (bagS T (I 66) b))) := by
  have f1 := hF.1
  have hel := eR_n hl
  have e66 : ∀ v, uI I (eR l) a v 66 = I 66 := fun v => uI_ne (by omega)
  refine x_enter mfX0_seeEndOfTwo rfl (Nat.le_of_ble_eq_true rfl) (fun _ => ?_)
  refine y_aln (i := 0) dX0_seeEndOfTwo_0 at64.ne0 rfl rfl ?_
  refine y_getp (z := 3) (v := 67) dX0_seeEndOfTwo_1 frX0_11 cfX0 at64 rfl rfl (wp (v := 67) hW rfl rfl (by decide)) ?_
  refine x_iload_n (i := 1) dX0_seeEndOfTwo_4 rfl rfl ?_
  refine x_aald dX0_seeEndOfTwo_5 ar67 ⟨by omega, by omega⟩ (eR_p hW hl) (by omega) ?_
  refine x_iload_n (i := 2) dX0_seeEndOfTwo_6 rfl rfl ?_
  refine y_aln (i := 0) dX0_seeEndOfTwo_7 at64.ne0 rfl rfl ?_
  refine y_getp (z := 0) (v := 65) dX0_seeEndOfTwo_8 frX0_16 cfX0 at64 rfl rfl (wp (v := 65) hW rfl rfl (by decide)) ?_
  refine x_iload_n (i := 2) dX0_seeEndOfTwo_11 rfl rfl ?_
  refine x_callVI (c_X3_bagWorth hW hM hF hr ha) dX0_seeEndOfTwo_12 lkX0_105 mfX3_bagWorth cfX3 at65 rfl rfl rfl rfl (Nat.le_of_ble_eq_true rfl) (fun r12 I12 P12 hr12 hf12 => ?_)
  obtain ⟨i12, p12, q12⟩ := hf12
  rw [i12, p12, q12]
  refine x_iast dX0_seeEndOfTwo_15 (eR_ar hl) ⟨by omega, by omega⟩ ?_
  refine y_aln (i := 0) dX0_seeEndOfTwo_16 at64.ne0 rfl rfl ?_
  refine y_getp (z := 3) (v := 67) dX0_seeEndOfTwo_17 frX0_11 cfX0 at64 rfl rfl (wp (v := 67) hW rfl rfl (by decide)) ?_
  refine x_iload_n (i := 1) dX0_seeEndOfTwo_20 rfl rfl ?_
  refine x_aald dX0_seeEndOfTwo_21 ar67 ⟨by omega, by omega⟩ (eR_p hW hl) (by omega) ?_
  refine x_iload_n (i := 3) dX0_seeEndOfTwo_22 rfl rfl ?_
  refine y_aln (i := 0) dX0_seeEndOfTwo_23 at64.ne0 rfl rfl ?_
  refine y_getp (z := 0) (v := 65) dX0_seeEndOfTwo_24 frX0_16 cfX0 at64 rfl rfl (wp (v := 65) hW rfl rfl (by decide)) ?_
  refine x_iload_n (i := 3) dX0_seeEndOfTwo_27 rfl rfl ?_
  refine x_callVI (c_X3_bagWorth hW (hM.fr (S := s1 (eR l)) (Fc.rf.ui rfl) (fun x hx => by rw [show x = eR l from hx]; unfold inTL; omega)) hF (by rw [e66]; exact hr) hb) dX0_seeEndOfTwo_28 lkX0_105 mfX3_bagWorth cfX3 at65 rfl rfl rfl rfl (Nat.le_of_ble_eq_true rfl) (fun r28 I28 P28 hr28 hf28 => ?_)
  obtain ⟨i28, p28, q28⟩ := hf28
  rw [i28, p28, q28]
  rw [e66]
  refine x_iast dX0_seeEndOfTwo_31 (eR_ar hl) ⟨by omega, by omega⟩ ?_
  refine y_ic dX0_seeEndOfTwo_32 ⟨by decide, by decide⟩ ?_
  refine x_zret dX0_seeEndOfTwo_33 (by omega) rfl ?_
  exact ⟨rfl, rfl, rfl⟩
theorem c_X0_seeEnd {t lw : Nat} {l : Int} (hW : WP P) (hM : MK I P 65 t lw T) (hF : WF T) (hr : RC (I 66)) (hl : 0 ≤ l ∧ l ≤ 8) : Cv G mX0_seeEnd (d + 1) 0 0 [.inr (.inl 64), .inl l] NO I P (qV (fun n' I' P' => n' = NO ∧ P' = P ∧ Fc (s1 (eR l)) I I' ∧ ∀ p, 0 ≤ p → p < T 0 1 → I' (eR l) p = bagS T (I 66) p)) := by
  obtain ⟨hq, hTo, hLo, hpt, hpl, hca, hcl⟩ := id hM
  have f1 := hF.1
  have hel := eR_n hl
  refine x_enter mfX0_seeEnd rfl (Nat.le_of_ble_eq_true rfl) (fun _ => ?_)
  have hL : ∀ (j : Nat) (p : Int) (J : Mem), (T 0 1 - p).toNat < j → 0 ≤ p → p ≤ T 0 1 → Fc (s1 (eR l)) I J → (∀ x, 0 ≤ x → x < p → J (eR l) x = bagS T (I 66) x) → V G mX0_seeEnd (d + 1) 0 0 16 [some (.inr (.inl 64)), some (.inl (l)), some (.inl (p))] [] NO J P (qV (fun n' I' P' => n' = NO ∧ P' = P ∧ Fc (s1 (eR l)) I I' ∧ ∀ p, 0 ≤ p → p < T 0 1 → I' (eR l) p = bagS T (I 66) p)) := by
    intro j
    induction j with
    | zero => intro p J hj; omega
    | succ j ih =>
      intro p J hj hp hp2 hFr hJ
      have hMJ : MK J P 65 t lw T := hM.fr hFr (fun x hx => by rw [show x = eR l from hx]; unfold inTL; omega)
      have j66 : J 66 = I 66 := hFr 66 (by show ¬ 66 = eR l; omega)
      have j0 : J t 0 = T 0 1 := hMJ.2.2.2.2.2.1.1
      refine x_iload_n (i := 2) dX0_seeEnd_16 rfl rfl ?_
      refine y_aln (i := 0) dX0_seeEnd_17 at64.ne0 rfl rfl ?_
      refine y_getp (z := 0) (v := 65) dX0_seeEnd_18 frX0_16 cfX0 at64 rfl rfl (wp (v := 65) hW rfl rfl (by decide)) ?_
      refine y_getp (z := 0) (v := t) dX0_seeEnd_21 frX0_38 cfX3 at65 rfl rfl hpt ?_
      refine y_geti (z := 0) dX0_seeEnd_24 frX0_109 cfX10 hTo.at rfl rfl ?_
      rw [j0]
      refine x_icmp_ge (tgt := 52) dX0_seeEnd_27 rfl (fun h27 => ?_) (fun h27 => ?_)
      · refine x_vret dX0_seeEnd_52 rfl ?_
        exact ⟨rfl, rfl, hFr, fun x x0 x1 => hJ x x0 (by omega)⟩
      · refine y_aln (i := 0) dX0_seeEnd_30 at64.ne0 rfl rfl ?_
        refine y_getp (z := 3) (v := 67) dX0_seeEnd_31 frX0_11 cfX0 at64 rfl rfl (wp (v := 67) hW rfl rfl (by decide)) ?_
        refine x_iload_n (i := 1) dX0_seeEnd_34 rfl rfl ?_
        refine x_aald dX0_seeEnd_35 ar67 ⟨by omega, by omega⟩ (eR_p hW hl) (by omega) ?_
        refine x_iload_n (i := 2) dX0_seeEnd_36 rfl rfl ?_
        refine y_aln (i := 0) dX0_seeEnd_37 at64.ne0 rfl rfl ?_
        refine y_getp (z := 0) (v := 65) dX0_seeEnd_38 frX0_16 cfX0 at64 rfl rfl (wp (v := 65) hW rfl rfl (by decide)) ?_
        refine x_iload_n (i := 2) dX0_seeEnd_41 rfl rfl ?_
        refine x_callVI (c_X3_bagWorth hW hMJ hF (by rw [j66]; exact hr) ⟨hp, by omega⟩) dX0_seeEnd_42 lkX0_105 mfX3_bagWorth cfX3 at65 rfl rfl rfl rfl (Nat.le_of_ble_eq_true rfl) (fun r42 I42 P42 hr42 hf42 => ?_)
        obtain ⟨i42, p42, q42⟩ := hf42
        rw [i42, p42, q42]
        rw [j66]
        refine x_iast dX0_seeEnd_45 (eR_ar hl) ⟨by omega, by omega⟩ ?_
        refine x_iinc dX0_seeEnd_46 rfl ⟨by omega, by omega⟩ rfl (Nat.le_of_ble_eq_true rfl) ?_
        refine x_goto (tgt := 16) dX0_seeEnd_49 rfl ?_
        refine x_keep [1, 1, 1] ?_
        refine ih (p + 1) _ (by omega) (by omega) (by omega) (hFr.ui rfl) (fun x x0 x1 => ?_)
        rw [uI_eq]
        by_cases e : x = p
        · rw [e, u1_eq]
        · rw [u1_ne e]; exact hJ x x0 (by omega)
  refine x_iload_n (i := 1) dX0_seeEnd_0 rfl rfl ?_
  refine x_if_lt (tgt := 13) dX0_seeEnd_1 rfl (fun h1 => ?_) (fun h1 => ?_)
  · omega
  · refine x_iload_n (i := 1) dX0_seeEnd_4 rfl rfl ?_
    refine y_aln (i := 0) dX0_seeEnd_5 at64.ne0 rfl rfl ?_
    refine y_getp (z := 3) (v := 67) dX0_seeEnd_6 frX0_11 cfX0 at64 rfl rfl (wp (v := 67) hW rfl rfl (by decide)) ?_
    refine x_alen4 dX0_seeEnd_9 ar67 (by decide) ?_
    refine x_icmp_lt (tgt := 14) dX0_seeEnd_10 rfl (fun h10 => ?_) (fun h10 => ?_)
    · refine y_ic dX0_seeEnd_14 ⟨by decide, by decide⟩ ?_
      refine x_istore_n (i := 2) dX0_seeEnd_15 rfl rfl (Nat.le_of_ble_eq_true rfl) ?_
      refine x_keep [1, 1, 1] ?_
      exact hL _ 0 I (Nat.lt_succ_self _) (by decide) (by omega) Fc.rf (fun x x0 x1 => by omega)
    · exact absurd hl.2 (by omega)
theorem c_X0_takeOver {l : Int} (hW : WP P) (hl : 0 ≤ l ∧ l < 8) : Cv G mX0_takeOver (d + 2) 0 0 [.inr (.inl 64), .inl l] NO I P (qV (fun n' I' P' => n' = NO ∧ P' = P ∧ I' = cpE I l)) := by
  have hl0 : 0 ≤ l ∧ l ≤ 8 := by omega
  have hl1 : 0 ≤ l + 1 ∧ l + 1 ≤ 8 := by omega
  have e0 := eR_n hl0
  have e1 := eR_n hl1
  refine x_enter mfX0_takeOver rfl (Nat.le_of_ble_eq_true rfl) (fun _ => ?_)
  refine y_aln (i := 0) dX0_takeOver_0 at64.ne0 rfl rfl ?_
  refine y_getp (z := 3) (v := 67) dX0_takeOver_1 frX0_11 cfX0 at64 rfl rfl (wp (v := 67) hW rfl rfl (by decide)) ?_
  refine x_iload_n (i := 1) dX0_takeOver_4 rfl rfl ?_
  refine y_ic dX0_takeOver_5 ⟨by decide, by decide⟩ ?_
  refine x_iadd dX0_takeOver_6 ⟨by omega, by omega⟩ ?_
  refine x_aald dX0_takeOver_7 ar67 ⟨by omega, by omega⟩ (eR_p hW hl1) (by omega) ?_
  refine y_ic dX0_takeOver_8 ⟨by decide, by decide⟩ ?_
  refine y_aln (i := 0) dX0_takeOver_9 at64.ne0 rfl rfl ?_
  refine y_getp (z := 3) (v := 67) dX0_takeOver_10 frX0_11 cfX0 at64 rfl rfl (wp (v := 67) hW rfl rfl (by decide)) ?_
  refine x_iload_n (i := 1) dX0_takeOver_13 rfl rfl ?_
  refine x_aald dX0_takeOver_14 ar67 ⟨by omega, by omega⟩ (eR_p hW hl0) (by omega) ?_
  refine y_ic dX0_takeOver_15 ⟨by decide, by decide⟩ ?_
  refine y_bi dX0_takeOver_16 ⟨by decide, by decide⟩ ?_
  refine x_copy (own := "") dX0_takeOver_18 jkX0_112 rfl (eR_ar hl1) (eR_ar hl0) (by omega) (by omega) (by omega) (by omega) (by omega) rfl (by omega) ?_
  refine x_vret dX0_takeOver_21 rfl ?_
  exact ⟨rfl, rfl, by unfold cpE; congr 1; funext j; rw [Int.sub_zero, Int.zero_add, Int.zero_add]⟩
theorem c_X0_weigh {t lw : Nat} {l v : Int} (hW : WP P) (hM : MK I P 65 t lw T) (hF : WF T) (hl : 0 ≤ l ∧ l < T 0 6) : Cv G mX0_weigh (d + 3) 0 0 [.inr (.inl 64), .inl l, .inl v] NO I P (qV (fun n' I' P' => n' = NO ∧ P' = P ∧ (((I (eR l) (T 6 (2 * l)) < I (eR (l + 1)) (T 6 (2 * l)) ∧ v < I (eR (l + 1)) (T 6 (2 * l + 1))) ∧ I' = cpE I l) ∨ (¬ (I (eR l) (T 6 (2 * l)) < I (eR (l + 1)) (T 6 (2 * l)) ∧ v < I (eR (l + 1)) (T 6 (2 * l + 1))) ∧ I' = I)))) := by
  obtain ⟨hq, hTo, hLo, hpt, hpl, hca, hcl⟩ := id hM
  have wT := wp_T hW hTo
  have f1 := hF.1
  have f6 := hF.2.2.2.2.2.1
  have hl0 : 0 ≤ l ∧ l ≤ 8 := by omega
  have hl1 : 0 ≤ l + 1 ∧ l + 1 ≤ 8 := by omega
  have e0 := eR_n hl0
  have e1 := eR_n hl1
  have m6 := meet6 hF hl.1 hl.2
  have mf := hca.2.2.2.2.2.2.2.2 l hl.1 hl.2
  refine x_enter mfX0_weigh rfl (Nat.le_of_ble_eq_true rfl) (fun _ => ?_)
  refine y_aln (i := 0) dX0_weigh_0 at64.ne0 rfl rfl ?_
  refine y_getp (z := 0) (v := 65) dX0_weigh_1 frX0_16 cfX0 at64 rfl rfl (wp (v := 65) hW rfl rfl (by decide)) ?_
  refine y_getp (z := 0) (v := t) dX0_weigh_4 frX0_38 cfX3 at65 rfl rfl hpt ?_
  refine y_getp (z := 14) (v := (t + 11)) dX0_weigh_7 frX0_54 cfX10 hTo.at rfl rfl (p10_14 wT hTo) ?_
  refine x_iload_n (i := 1) dX0_weigh_10 rfl rfl ?_
  refine x_iald dX0_weigh_11 (a10_14 hTo) ⟨by omega, by omega⟩ ?_
  rw [mf.1]
  refine x_istore_n (i := 3) dX0_weigh_12 rfl rfl (Nat.le_of_ble_eq_true rfl) ?_
  refine y_aln (i := 0) dX0_weigh_13 at64.ne0 rfl rfl ?_
  refine y_getp (z := 0) (v := 65) dX0_weigh_14 frX0_16 cfX0 at64 rfl rfl (wp (v := 65) hW rfl rfl (by decide)) ?_
  refine y_getp (z := 0) (v := t) dX0_weigh_17 frX0_38 cfX3 at65 rfl rfl hpt ?_
  refine y_getp (z := 15) (v := (t + 12)) dX0_weigh_20 frX0_58 cfX10 hTo.at rfl rfl (p10_15 wT hTo) ?_
  refine x_iload_n (i := 1) dX0_weigh_23 rfl rfl ?_
  refine x_iald dX0_weigh_24 (a10_15 hTo) ⟨by omega, by omega⟩ ?_
  rw [mf.2]
  refine x_istore (i := 4) dX0_weigh_25 rfl (Nat.le_of_ble_eq_true rfl) ?_
  refine y_aln (i := 0) dX0_weigh_27 at64.ne0 rfl rfl ?_
  refine y_getp (z := 3) (v := 67) dX0_weigh_28 frX0_11 cfX0 at64 rfl rfl (wp (v := 67) hW rfl rfl (by decide)) ?_
  refine x_iload_n (i := 1) dX0_weigh_31 rfl rfl ?_
  refine y_ic dX0_weigh_32 ⟨by decide, by decide⟩ ?_
  refine x_iadd dX0_weigh_33 ⟨by omega, by omega⟩ ?_
  refine x_aald dX0_weigh_34 ar67 ⟨by omega, by omega⟩ (eR_p hW hl1) (by omega) ?_
  refine x_iload_n (i := 3) dX0_weigh_35 rfl rfl ?_
  refine x_iald dX0_weigh_36 (eR_ar hl1) ⟨by omega, by omega⟩ ?_
  refine y_aln (i := 0) dX0_weigh_37 at64.ne0 rfl rfl ?_
  refine y_getp (z := 3) (v := 67) dX0_weigh_38 frX0_11 cfX0 at64 rfl rfl (wp (v := 67) hW rfl rfl (by decide)) ?_
  refine x_iload_n (i := 1) dX0_weigh_41 rfl rfl ?_
  refine x_aald dX0_weigh_42 ar67 ⟨by omega, by omega⟩ (eR_p hW hl0) (by omega) ?_
  refine x_iload_n (i := 3) dX0_weigh_43 rfl rfl ?_
  refine x_iald dX0_weigh_44 (eR_ar hl0) ⟨by omega, by omega⟩ ?_
  refine x_icmp_le (tgt := 52) dX0_weigh_45 rfl (fun h45 => ?_) (fun h45 => ?_)
  · refine y_ic dX0_weigh_52 ⟨by decide, by decide⟩ ?_
    refine x_istore (i := 5) dX0_weigh_53 rfl (Nat.le_of_ble_eq_true rfl) ?_
    refine x_iload (i := 5) dX0_weigh_55 rfl ?_
    refine x_if_eq (tgt := 80) dX0_weigh_57 rfl (fun h57 => ?_) (fun h57 => ?_)
    · refine x_vret dX0_weigh_80 rfl ?_
      first | exact absurd h57 (by decide) | exact (h57 rfl).elim | exact ⟨rfl, rfl, Or.inr ⟨fun q => h45 (by have := q.1; omega), rfl⟩⟩ | exact ⟨rfl, rfl, Or.inr ⟨fun q => by have := q.1; omega, rfl⟩⟩ | exact ⟨rfl, rfl, Or.inr ⟨fun q => by have := q.2; omega, rfl⟩⟩ | exact ⟨rfl, rfl, Or.inl ⟨⟨by omega, by omega⟩, h77⟩⟩
    · refine y_aln (i := 0) dX0_weigh_60 at64.ne0 rfl rfl ?_
      refine y_getp (z := 3) (v := 67) dX0_weigh_61 frX0_11 cfX0 at64 rfl rfl (wp (v := 67) hW rfl rfl (by decide)) ?_
      refine x_iload_n (i := 1) dX0_weigh_64 rfl rfl ?_
      refine y_ic dX0_weigh_65 ⟨by decide, by decide⟩ ?_
      refine x_iadd dX0_weigh_66 ⟨by omega, by omega⟩ ?_
      refine x_aald dX0_weigh_67 ar67 ⟨by omega, by omega⟩ (eR_p hW hl1) (by omega) ?_
      refine x_iload (i := 4) dX0_weigh_68 rfl ?_
      refine x_iald dX0_weigh_70 (eR_ar hl1) ⟨by omega, by omega⟩ ?_
      refine x_iload_n (i := 2) dX0_weigh_71 rfl rfl ?_
      refine x_icmp_le (tgt := 80) dX0_weigh_72 rfl (fun h72 => ?_) (fun h72 => ?_)
      · refine x_vret dX0_weigh_80 rfl ?_
        first | exact absurd h57 (by decide) | exact (h57 rfl).elim | exact ⟨rfl, rfl, Or.inr ⟨fun q => h45 (by have := q.1; omega), rfl⟩⟩ | exact ⟨rfl, rfl, Or.inr ⟨fun q => by have := q.1; omega, rfl⟩⟩ | exact ⟨rfl, rfl, Or.inr ⟨fun q => by have := q.2; omega, rfl⟩⟩ | exact ⟨rfl, rfl, Or.inl ⟨⟨by omega, by omega⟩, h77⟩⟩
      · refine y_aln (i := 0) dX0_weigh_75 at64.ne0 rfl rfl ?_
        refine x_iload_n (i := 1) dX0_weigh_76 rfl rfl ?_
        refine x_callVV (c_X0_takeOver hW (by omega)) dX0_weigh_77 lkX0_51 mfX0_takeOver cfX0 at64 rfl rfl rfl rfl (Nat.le_of_ble_eq_true rfl) (fun n77 I77 P77 hf77 => ?_)
        obtain ⟨rfl, rfl, h77⟩ := hf77
        refine x_vret dX0_weigh_80 rfl ?_
        first | exact absurd h57 (by decide) | exact (h57 rfl).elim | exact ⟨rfl, rfl, Or.inr ⟨fun q => h45 (by have := q.1; omega), rfl⟩⟩ | exact ⟨rfl, rfl, Or.inr ⟨fun q => by have := q.1; omega, rfl⟩⟩ | exact ⟨rfl, rfl, Or.inr ⟨fun q => by have := q.2; omega, rfl⟩⟩ | exact ⟨rfl, rfl, Or.inl ⟨⟨by omega, by omega⟩, h77⟩⟩
  · refine y_ic dX0_weigh_48 ⟨by decide, by decide⟩ ?_
    refine x_goto (tgt := 53) dX0_weigh_49 rfl ?_
    refine x_istore (i := 5) dX0_weigh_53 rfl (Nat.le_of_ble_eq_true rfl) ?_
    refine x_iload (i := 5) dX0_weigh_55 rfl ?_
    refine x_if_eq (tgt := 80) dX0_weigh_57 rfl (fun h57 => ?_) (fun h57 => ?_)
    · refine x_vret dX0_weigh_80 rfl ?_
      first | exact absurd h57 (by decide) | exact (h57 rfl).elim | exact ⟨rfl, rfl, Or.inr ⟨fun q => h45 (by have := q.1; omega), rfl⟩⟩ | exact ⟨rfl, rfl, Or.inr ⟨fun q => by have := q.1; omega, rfl⟩⟩ | exact ⟨rfl, rfl, Or.inr ⟨fun q => by have := q.2; omega, rfl⟩⟩ | exact ⟨rfl, rfl, Or.inl ⟨⟨by omega, by omega⟩, h77⟩⟩
    · refine y_aln (i := 0) dX0_weigh_60 at64.ne0 rfl rfl ?_
      refine y_getp (z := 3) (v := 67) dX0_weigh_61 frX0_11 cfX0 at64 rfl rfl (wp (v := 67) hW rfl rfl (by decide)) ?_
      refine x_iload_n (i := 1) dX0_weigh_64 rfl rfl ?_
      refine y_ic dX0_weigh_65 ⟨by decide, by decide⟩ ?_
      refine x_iadd dX0_weigh_66 ⟨by omega, by omega⟩ ?_
      refine x_aald dX0_weigh_67 ar67 ⟨by omega, by omega⟩ (eR_p hW hl1) (by omega) ?_
      refine x_iload (i := 4) dX0_weigh_68 rfl ?_
      refine x_iald dX0_weigh_70 (eR_ar hl1) ⟨by omega, by omega⟩ ?_
      refine x_iload_n (i := 2) dX0_weigh_71 rfl rfl ?_
      refine x_icmp_le (tgt := 80) dX0_weigh_72 rfl (fun h72 => ?_) (fun h72 => ?_)
      · refine x_vret dX0_weigh_80 rfl ?_
        first | exact absurd h57 (by decide) | exact (h57 rfl).elim | exact ⟨rfl, rfl, Or.inr ⟨fun q => h45 (by have := q.1; omega), rfl⟩⟩ | exact ⟨rfl, rfl, Or.inr ⟨fun q => by have := q.1; omega, rfl⟩⟩ | exact ⟨rfl, rfl, Or.inr ⟨fun q => by have := q.2; omega, rfl⟩⟩ | exact ⟨rfl, rfl, Or.inl ⟨⟨by omega, by omega⟩, h77⟩⟩
      · refine y_aln (i := 0) dX0_weigh_75 at64.ne0 rfl rfl ?_
        refine x_iload_n (i := 1) dX0_weigh_76 rfl rfl ?_
        refine x_callVV (c_X0_takeOver hW (by omega)) dX0_weigh_77 lkX0_51 mfX0_takeOver cfX0 at64 rfl rfl rfl rfl (Nat.le_of_ble_eq_true rfl) (fun n77 I77 P77 hf77 => ?_)
        obtain ⟨rfl, rfl, h77⟩ := hf77
        refine x_vret dX0_weigh_80 rfl ?_
        first | exact absurd h57 (by decide) | exact (h57 rfl).elim | exact ⟨rfl, rfl, Or.inr ⟨fun q => h45 (by have := q.1; omega), rfl⟩⟩ | exact ⟨rfl, rfl, Or.inr ⟨fun q => by have := q.1; omega, rfl⟩⟩ | exact ⟨rfl, rfl, Or.inr ⟨fun q => by have := q.2; omega, rfl⟩⟩ | exact ⟨rfl, rfl, Or.inl ⟨⟨by omega, by omega⟩, h77⟩⟩
end

