/-! ===== the class: its search, whole ===== -/
theorem TRY.tr {T : Tn} {I J K : Mem} {m : Int} {x y z : Sx} (h : TRY T I J m x y) (h2 : TRY T J K m y z) : TRY T I K m x z := ⟨h2.1.trans h.1, h.2.1.tr h2.2.1, h.2.2.1.tr h2.2.2.1, h2.2.2.2.1, h2.2.2.2.2.1, h.2.2.2.2.2.tr h2.2.2.2.2.2⟩
theorem not_over {T : Tn} {K : Mem} {x : Sx} (hX : NX T K x) : (K 56 11 = 0 ∧ K 56 10 = -1) ↔ ¬ overX x := by
  rw [hX.1.2.1, hX.1.2.2]
  unfold overX
  omega
section
variable {G : HX} {d : Nat} {I : Mem} {P : Ptr} {T : Tn}
theorem c_X7_goOnByTrades {t l : Nat} {w gl m s : Int} {h : Rw} {x : Sx} (hW : WP P) (hM : MK I P 57 t l T) (hF : WF T) (hr : RW T h) (hre : RE h (I (57 + 1))) (hX : NX T I x) (hP : PX T I w gl m) (hx : XOK T m x) (hs : 0 ≤ s ∧ s < x.1) : Cv G mX7_goOnByTrades (d + 4) 0 0 [.inr (.inl 56), .inl s] NO I P (qV (fun n' I' P' => n' = NO ∧ P' = P ∧ TRY T I I' m x (twosS T w gl m h s x))) := by
  obtain ⟨hq, hTo, hLo, hpt, hpl, hca, hcl⟩ := id hM
  have wT := wp_T hW hTo
  have f1 := hF.1
  have e0 : I t 0 = T 0 1 := hca.1
  refine x_enter mfX7_goOnByTrades rfl (Nat.le_of_ble_eq_true rfl) (fun _ => ?_)
  have hA : ∀ (j : Nat) (a : Int) (K : Mem), (T 0 1 - a).toNat < j → 0 ≤ a → a ≤ T 0 1 → TRY T I K m x (itN (fun a x => itN (fun b x => twoB T w gl m h s a b x) (T 0 1) x) a x) → V G mX7_goOnByTrades (d + 4) 0 0 13 [some (.inr (.inl 56)), some (.inl (s)), some (.inl (T 0 1)), some (.inl (a)), none, none] [] NO K P (qV (fun n' I' P' => n' = NO ∧ P' = P ∧ TRY T I I' m x (twosS T w gl m h s x))) := by
    intro j
    induction j with
    | zero => intro a K hj; omega
    | succ j ih =>
      intro a K hj ha0 ha1 hK
      obtain ⟨xa, exa⟩ : ∃ xa, xa = itN (fun a x => itN (fun b x => twoB T w gl m h s a b x) (T 0 1) x) a x := ⟨_, rfl⟩
      rw [← exa] at hK
      have hB : a < T 0 1 → ∀ (f : Nat) (b : Int) (K : Mem), (T 0 1 - b).toNat < f → 0 ≤ b → b ≤ T 0 1 → TRY T I K m x (itN (fun b x => twoB T w gl m h s a b x) b xa) → V G mX7_goOnByTrades (d + 4) 0 0 21 [some (.inr (.inl 56)), some (.inl (s)), some (.inl (T 0 1)), some (.inl (a)), some (.inl (b)), none] [] NO K P (qV (fun n' I' P' => n' = NO ∧ P' = P ∧ TRY T I I' m x (twosS T w gl m h s x))) := by
        intro ha2 f
        induction f with
        | zero => intro b K hf; omega
        | succ f ihb =>
          intro b K hf hb0 hb1 hK
          obtain ⟨xb, exb⟩ : ∃ xb, xb = itN (fun b x => twoB T w gl m h s a b x) b xa := ⟨_, rfl⟩
          have ebs : itN (fun b x => twoB T w gl m h s a b x) (b + 1) xa = twoB T w gl m h s a b (itN (fun b x => twoB T w gl m h s a b x) b xa) := itN_s _ _ hb0
          rw [← exb] at hK ebs
          obtain ⟨k58, kF, k56, kX, kO, kL⟩ := id hK
          have hKM : MK K P 57 t l T := hM.fX kF
          have kP := hP.fr k56
          have nov := not_over kX
          have hnx : b < T 0 1 → ∀ K' : Mem, TRY T I K' m x (twoB T w gl m h s a b xb) → V G mX7_goOnByTrades (d + 4) 0 0 85 [some (.inr (.inl 56)), some (.inl (s)), some (.inl (T 0 1)), some (.inl (a)), some (.inl (b)), none] [] NO K' P (qV (fun n' I' P' => n' = NO ∧ P' = P ∧ TRY T I I' m x (twosS T w gl m h s x))) := fun hb2 K' hK' => by
            refine x_iinc dX7_goOnByTrades_85 rfl ⟨by omega, by omega⟩ rfl (Nat.le_of_ble_eq_true rfl) ?_
            refine x_goto (tgt := 21) dX7_goOnByTrades_88 rfl ?_
            refine x_keep [1, 1, 1, 1, 1, 0] ?_
            exact ihb (b + 1) K' (by omega) (by omega) (by omega) (by rw [ebs]; exact hK')
          have h57 : b < T 0 1 → ∀ y, (y = 1 ∧ (w = -1 ∨ a = w ∨ b = w)) ∨ (y = 0 ∧ ¬ (w = -1 ∨ a = w ∨ b = w)) → V G mX7_goOnByTrades (d + 4) 0 0 57 [some (.inr (.inl 56)), some (.inl (s)), some (.inl (T 0 1)), some (.inl (a)), some (.inl (b)), none] [.inl y] NO K P (qV (fun n' I' P' => n' = NO ∧ P' = P ∧ TRY T I I' m x (twosS T w gl m h s x))) := fun hb2 y hy => by
            refine x_istore (i := 5) dX7_goOnByTrades_57 rfl (Nat.le_of_ble_eq_true rfl) ?_
            refine x_iload_n (i := 3) dX7_goOnByTrades_59 rfl rfl ?_
            refine x_iload (i := 4) dX7_goOnByTrades_60 rfl ?_
            refine x_icmp_eq (tgt := 85) dX7_goOnByTrades_62 rfl (fun h62 => ?_) (fun h62 => ?_)
            · have e62 : twoB T w gl m h s a b xb = xb := cif_neg (fun q => q.2.1 h62)
              refine x_keep [1, 1, 1, 1, 1, 0] ?_
              first | (have z1 := e62; exact hnx hb2 K (by rw [e62]; exact hK)) | (have z1 := e67; exact hnx hb2 K (by rw [e67]; exact hK)) | (have z1 := e74; exact hnx hb2 K (by rw [e74]; exact hK)) | exact hnx hb2 _ (hK.tr t82) | fail "none"
            · refine x_iload (i := 5) dX7_goOnByTrades_65 rfl ?_
              refine x_if_eq (tgt := 85) dX7_goOnByTrades_67 rfl (fun h67 => ?_) (fun h67 => ?_)
              · have e67 : twoB T w gl m h s a b xb = xb := cif_neg (fun q => by rcases hy with z | z; omega; exact z.2 q.2.2)
                refine x_keep [1, 1, 1, 1, 1, 0] ?_
                first | (have z1 := e62; exact hnx hb2 K (by rw [e62]; exact hK)) | (have z1 := e67; exact hnx hb2 K (by rw [e67]; exact hK)) | (have z1 := e74; exact hnx hb2 K (by rw [e74]; exact hK)) | exact hnx hb2 _ (hK.tr t82) | fail "none"
              · have m67 := (hy.resolve_right (fun q => h67 q.1)).2
                refine y_aln (i := 0) dX7_goOnByTrades_70 at56.ne0 rfl rfl ?_
                refine x_callVI (c_X7_isOpen hW) dX7_goOnByTrades_71 lkX7_84 mfX7_isOpen cfX7 at56 rfl rfl rfl rfl (Nat.le_of_ble_eq_true rfl) (fun r71 I71 P71 hr71 hf71 => ?_)
                obtain ⟨i71, p71, q71⟩ := hf71
                rw [i71, p71]
                refine x_if_eq (tgt := 85) dX7_goOnByTrades_74 rfl (fun h74 => ?_) (fun h74 => ?_)
                · have e74 : twoB T w gl m h s a b xb = xb := cif_neg (fun q => (q71.resolve_left (fun z => by have := z.1; omega)).2 (nov.mpr q.1))
                  refine x_keep [1, 1, 1, 1, 1, 0] ?_
                  first | (have z1 := e62; exact hnx hb2 K (by rw [e62]; exact hK)) | (have z1 := e67; exact hnx hb2 K (by rw [e67]; exact hK)) | (have z1 := e74; exact hnx hb2 K (by rw [e74]; exact hK)) | exact hnx hb2 _ (hK.tr t82) | fail "none"
                · have e82 : twoB T w gl m h s a b xb = trdS T w gl m h s a b xb := cif_pos ⟨nov.mp (q71.resolve_right (fun z => h74 z.1)).2, h62, m67⟩
                  refine y_aln (i := 0) dX7_goOnByTrades_77 at56.ne0 rfl rfl ?_
                  refine x_iload_n (i := 1) dX7_goOnByTrades_78 rfl rfl ?_
                  refine x_iload_n (i := 3) dX7_goOnByTrades_79 rfl rfl ?_
                  refine x_iload (i := 4) dX7_goOnByTrades_80 rfl ?_
                  refine x_callVV (c_X7_tryTrades hW hKM hF hr (by rw [k58]; exact hre) kX kP kO ⟨ha0, ha2⟩ ⟨hb0, hb2⟩ h62 ⟨hs.1, by have := kL.1; omega⟩) dX7_goOnByTrades_82 lkX7_112 mfX7_tryTrades cfX7 at56 rfl rfl rfl rfl (Nat.le_of_ble_eq_true rfl) (fun n82 I82 P82 hf82 => ?_)
                  obtain ⟨rfl, rfl, t82⟩ := hf82
                  rw [← e82] at t82
                  refine x_keep [1, 1, 1, 1, 1, 0] ?_
                  first | (have z1 := e62; exact hnx hb2 K (by rw [e62]; exact hK)) | (have z1 := e67; exact hnx hb2 K (by rw [e67]; exact hK)) | (have z1 := e74; exact hnx hb2 K (by rw [e74]; exact hK)) | exact hnx hb2 _ (hK.tr t82) | fail "none"
          refine x_iload (i := 4) dX7_goOnByTrades_21 rfl ?_
          refine x_iload_n (i := 2) dX7_goOnByTrades_23 rfl rfl ?_
          refine x_icmp_ge (tgt := 91) dX7_goOnByTrades_24 rfl (fun h24 => ?_) (fun h24 => ?_)
          · refine x_iinc dX7_goOnByTrades_91 rfl ⟨by omega, by omega⟩ rfl (Nat.le_of_ble_eq_true rfl) ?_
            refine x_goto (tgt := 13) dX7_goOnByTrades_94 rfl ?_
            refine x_keep [1, 1, 1, 1, 0, 0] ?_
            refine ih (a + 1) K (by omega) (by omega) (by omega) ?_
            rw [itN_s _ _ ha0, ← exa, show T 0 1 = b by omega, ← exb]
            exact hK
          · refine y_aln (i := 0) dX7_goOnByTrades_27 at56.ne0 rfl rfl ?_
            refine y_geti (z := 8) dX7_goOnByTrades_28 frX7_32 cfX7 at56 rfl rfl ?_
            refine y_ic dX7_goOnByTrades_31 ⟨by decide, by decide⟩ ?_
            rw [kP.2.1]
            refine x_icmp_eq (tgt := 52) dX7_goOnByTrades_32 rfl (fun h32 => ?_) (fun h32 => ?_)
            · refine y_ic dX7_goOnByTrades_52 ⟨by decide, by decide⟩ ?_
              refine x_goto (tgt := 57) dX7_goOnByTrades_53 rfl ?_
              refine x_keep [1, 1, 1, 1, 1, 0] ?_
              first | exact h57 (by omega) 1 (Or.inl ⟨rfl, by omega⟩) | exact h57 (by omega) 0 (Or.inr ⟨rfl, by omega⟩) | fail "none"
            · refine x_iload_n (i := 3) dX7_goOnByTrades_35 rfl rfl ?_
              refine y_aln (i := 0) dX7_goOnByTrades_36 at56.ne0 rfl rfl ?_
              refine y_geti (z := 8) dX7_goOnByTrades_37 frX7_32 cfX7 at56 rfl rfl ?_
              rw [kP.2.1]
              refine x_icmp_eq (tgt := 52) dX7_goOnByTrades_40 rfl (fun h40 => ?_) (fun h40 => ?_)
              · refine y_ic dX7_goOnByTrades_52 ⟨by decide, by decide⟩ ?_
                refine x_goto (tgt := 57) dX7_goOnByTrades_53 rfl ?_
                refine x_keep [1, 1, 1, 1, 1, 0] ?_
                first | exact h57 (by omega) 1 (Or.inl ⟨rfl, by omega⟩) | exact h57 (by omega) 0 (Or.inr ⟨rfl, by omega⟩) | fail "none"
              · refine x_iload (i := 4) dX7_goOnByTrades_43 rfl ?_
                refine y_aln (i := 0) dX7_goOnByTrades_45 at56.ne0 rfl rfl ?_
                refine y_geti (z := 8) dX7_goOnByTrades_46 frX7_32 cfX7 at56 rfl rfl ?_
                rw [kP.2.1]
                refine x_icmp_ne (tgt := 56) dX7_goOnByTrades_49 rfl (fun h49 => ?_) (fun h49 => ?_)
                · refine y_ic dX7_goOnByTrades_56 ⟨by decide, by decide⟩ ?_
                  refine x_keep [1, 1, 1, 1, 1, 0] ?_
                  first | exact h57 (by omega) 1 (Or.inl ⟨rfl, by omega⟩) | exact h57 (by omega) 0 (Or.inr ⟨rfl, by omega⟩) | fail "none"
                · refine y_ic dX7_goOnByTrades_52 ⟨by decide, by decide⟩ ?_
                  refine x_goto (tgt := 57) dX7_goOnByTrades_53 rfl ?_
                  refine x_keep [1, 1, 1, 1, 1, 0] ?_
                  first | exact h57 (by omega) 1 (Or.inl ⟨rfl, by omega⟩) | exact h57 (by omega) 0 (Or.inr ⟨rfl, by omega⟩) | fail "none"
      refine x_iload_n (i := 3) dX7_goOnByTrades_13 rfl rfl ?_
      refine x_iload_n (i := 2) dX7_goOnByTrades_14 rfl rfl ?_
      refine x_icmp_ge (tgt := 97) dX7_goOnByTrades_15 rfl (fun h15 => ?_) (fun h15 => ?_)
      · refine x_vret dX7_goOnByTrades_97 rfl ?_
        refine ⟨rfl, rfl, ?_⟩
        have ea : a = T 0 1 := by omega
        rw [ea] at exa
        unfold twosS
        rw [← exa]
        exact hK
      · refine y_ic dX7_goOnByTrades_18 ⟨by decide, by decide⟩ ?_
        refine x_istore (i := 4) dX7_goOnByTrades_19 rfl (Nat.le_of_ble_eq_true rfl) ?_
        refine x_keep [1, 1, 1, 1, 1, 0] ?_
        exact hB (by omega) _ 0 K (Nat.lt_succ_self _) (Int.le_refl 0) (by omega) hK
  refine y_aln (i := 0) dX7_goOnByTrades_0 at56.ne0 rfl rfl ?_
  refine y_getp (z := 0) (v := 57) dX7_goOnByTrades_1 frX7_28 cfX7 at56 rfl rfl (wp (v := 57) hW rfl rfl (by decide)) ?_
  refine y_getp (z := 0) (v := t) dX7_goOnByTrades_4 frX7_103 cfX3 at57 rfl rfl hpt ?_
  refine y_geti (z := 0) dX7_goOnByTrades_7 frX7_107 cfX10 hTo.at rfl rfl ?_
  rw [e0]
  refine x_istore_n (i := 2) dX7_goOnByTrades_10 rfl rfl (Nat.le_of_ble_eq_true rfl) ?_
  refine y_ic dX7_goOnByTrades_11 ⟨by decide, by decide⟩ ?_
  refine x_istore_n (i := 3) dX7_goOnByTrades_12 rfl rfl (Nat.le_of_ble_eq_true rfl) ?_
  refine x_keep [1, 1, 1, 1, 0, 0] ?_
  exact hA _ 0 I (Nat.lt_succ_self _) (Int.le_refl 0) (by omega) ⟨rfl, Fc.rf, F56.rf, hX, hx, laterX.rf⟩
theorem c_X7_goOnByTies {t l : Nat} {w gl m s : Int} {h : Rw} {x : Sx} (hW : WP P) (hM : MK I P 57 t l T) (hF : WF T) (hr : RW T h) (hre : RE h (I (57 + 1))) (hX : NX T I x) (hP : PX T I w gl m) (hx : XOK T m x) (hs : 0 ≤ s ∧ s < x.1) : Cv G mX7_goOnByTies (d + 3) 0 0 [.inr (.inl 56), .inl s] NO I P (qV (fun n' I' P' => n' = NO ∧ P' = P ∧ TRY T I I' m x (tiesS T w gl m h s x))) := by
  obtain ⟨hq, hTo, hLo, hpt, hpl, hca, hcl⟩ := id hM
  have wT := wp_T hW hTo
  have f1 := hF.1
  have f5 := hF.2.2.2.2.1
  have hr58 : RW T (I (57 + 1)) := hre.rw hr
  refine x_enter mfX7_goOnByTies rfl (Nat.le_of_ble_eq_true rfl) (fun _ => ?_)
  have hA : ∀ (j : Nat) (p : Int) (K : Mem), (T 0 1 - p).toNat < j → 0 ≤ p → p ≤ T 0 1 → TRY T I K m x (itN (fun p x => itN (fun t x => tieB T w gl m h s p t x) (T 0 5) x) p x) → V G mX7_goOnByTies (d + 3) 0 0 2 [some (.inr (.inl 56)), some (.inl (s)), some (.inl (p)), none] [] NO K P (qV (fun n' I' P' => n' = NO ∧ P' = P ∧ TRY T I I' m x (tiesS T w gl m h s x))) := by
    intro j
    induction j with
    | zero => intro p K hj; omega
    | succ j ih =>
      intro p K hj hp0 hp1 hK
      obtain ⟨xa, exa⟩ : ∃ xa, xa = itN (fun p x => itN (fun t x => tieB T w gl m h s p t x) (T 0 5) x) p x := ⟨_, rfl⟩
      rw [← exa] at hK
      have k0 : K t 0 = T 0 1 := (hM.fX hK.2.1).2.2.2.2.2.1.1
      have kP := hP.fr hK.2.2.1
      have hnA : p < T 0 1 → ∀ K' : Mem, TRY T I K' m x (itN (fun t x => tieB T w gl m h s p t x) (T 0 5) xa) → V G mX7_goOnByTies (d + 3) 0 0 109 [some (.inr (.inl 56)), some (.inl (s)), some (.inl (p)), none] [] NO K' P (qV (fun n' I' P' => n' = NO ∧ P' = P ∧ TRY T I I' m x (tiesS T w gl m h s x))) := fun hp2 K' hK' => by
        refine x_iinc dX7_goOnByTies_109 rfl ⟨by omega, by omega⟩ rfl (Nat.le_of_ble_eq_true rfl) ?_
        refine x_goto (tgt := 2) dX7_goOnByTies_112 rfl ?_
        refine x_keep [1, 1, 1, 0] ?_
        refine ih (p + 1) K' (by omega) (by omega) (by omega) ?_
        rw [itN_s _ _ hp0, ← exa]
        exact hK'
      have hB : p < T 0 1 → (w = -1 ∨ p = w) → ∀ (f : Nat) (y : Int) (K : Mem), (T 0 5 - y).toNat < f → 0 ≤ y → y ≤ T 0 5 → TRY T I K m x (itN (fun t x => tieB T w gl m h s p t x) y xa) → V G mX7_goOnByTies (d + 3) 0 0 37 [some (.inr (.inl 56)), some (.inl (s)), some (.inl (p)), some (.inl (y))] [] NO K P (qV (fun n' I' P' => n' = NO ∧ P' = P ∧ TRY T I I' m x (tiesS T w gl m h s x))) := by
        intro hp2 hwp f
        induction f with
        | zero => intro y K hf; omega
        | succ f ihb =>
          intro y K hf hy0 hy1 hK
          obtain ⟨xb, exb⟩ : ∃ xb, xb = itN (fun t x => tieB T w gl m h s p t x) y xa := ⟨_, rfl⟩
          have ebs : itN (fun t x => tieB T w gl m h s p t x) (y + 1) xa = tieB T w gl m h s p y (itN (fun t x => tieB T w gl m h s p t x) y xa) := itN_s _ _ hy0
          rw [← exb] at hK ebs
          obtain ⟨k58, kF, k56, kX, kO, kL⟩ := id hK
          have hKM : MK K P 57 t l T := hM.fX kF
          have k2 : K t 2 = T 0 5 := hKM.2.2.2.2.2.1.2.2.1
          have kP := hP.fr k56
          have nov := not_over kX
          have hnx : y < T 0 5 → ∀ K' : Mem, TRY T I K' m x (tieB T w gl m h s p y xb) → V G mX7_goOnByTies (d + 3) 0 0 103 [some (.inr (.inl 56)), some (.inl (s)), some (.inl (p)), some (.inl (y))] [] NO K' P (qV (fun n' I' P' => n' = NO ∧ P' = P ∧ TRY T I I' m x (tiesS T w gl m h s x))) := fun hy2 K' hK' => by
            refine x_iinc dX7_goOnByTies_103 rfl ⟨by omega, by omega⟩ rfl (Nat.le_of_ble_eq_true rfl) ?_
            refine x_goto (tgt := 37) dX7_goOnByTies_106 rfl ?_
            refine x_keep [1, 1, 1, 1] ?_
            exact ihb (y + 1) K' (by omega) (by omega) (by omega) (by rw [ebs]; exact hK')
          refine x_iload_n (i := 3) dX7_goOnByTies_37 rfl rfl ?_
          refine y_aln (i := 0) dX7_goOnByTies_38 at56.ne0 rfl rfl ?_
          refine y_getp (z := 0) (v := 57) dX7_goOnByTies_39 frX7_28 cfX7 at56 rfl rfl (wp (v := 57) hW rfl rfl (by decide)) ?_
          refine y_getp (z := 0) (v := t) dX7_goOnByTies_42 frX7_103 cfX3 at57 rfl rfl hpt ?_
          refine y_geti (z := 2) dX7_goOnByTies_45 frX7_143 cfX10 hTo.at rfl rfl ?_
          rw [k2]
          refine x_icmp_ge (tgt := 109) dX7_goOnByTies_48 rfl (fun h48 => ?_) (fun h48 => ?_)
          · refine x_keep [1, 1, 1, 0] ?_
            first | (have z1 := ov; refine hnA hp2 K ?_; have e : itN (fun t x => tieB T w gl m h s p t x) (T 0 5) xa = xb := itN_stop ⟨hy0, hy1⟩ exb.symm (fun i _ _ => tieB_over ov); rw [e]; exact hK) | (refine hnA hp2 K ?_; rw [show T 0 5 = y by omega, ← exb]; exact hK) | fail "none"
          · refine y_aln (i := 0) dX7_goOnByTies_51 at56.ne0 rfl rfl ?_
            refine x_callVI (c_X7_isOpen hW) dX7_goOnByTies_52 lkX7_84 mfX7_isOpen cfX7 at56 rfl rfl rfl rfl (Nat.le_of_ble_eq_true rfl) (fun r52 I52 P52 hr52 hf52 => ?_)
            obtain ⟨i52, p52, q52⟩ := hf52
            rw [i52, p52]
            refine x_if_eq (tgt := 109) dX7_goOnByTies_55 rfl (fun h55 => ?_) (fun h55 => ?_)
            · have ov : overX xb := Classical.byContradiction (fun z => (q52.resolve_left (fun q => by have := q.1; omega)).2 (nov.mpr z))
              refine x_keep [1, 1, 1, 0] ?_
              first | (have z1 := ov; refine hnA hp2 K ?_; have e : itN (fun t x => tieB T w gl m h s p t x) (T 0 5) xa = xb := itN_stop ⟨hy0, hy1⟩ exb.symm (fun i _ _ => tieB_over ov); rw [e]; exact hK) | (refine hnA hp2 K ?_; rw [show T 0 5 = y by omega, ← exb]; exact hK) | fail "none"
            · have no : ¬ overX xb := nov.mp (q52.resolve_right (fun z => h55 z.1)).2
              refine y_aln (i := 0) dX7_goOnByTies_58 at56.ne0 rfl rfl ?_
              refine y_getp (z := 0) (v := 57) dX7_goOnByTies_59 frX7_28 cfX7 at56 rfl rfl (wp (v := 57) hW rfl rfl (by decide)) ?_
              refine x_iload_n (i := 2) dX7_goOnByTies_62 rfl rfl ?_
              refine x_iload_n (i := 3) dX7_goOnByTies_63 rfl rfl ?_
              refine x_callVI (c_X3_canTie hW hKM hF ⟨hp0, hp2⟩ ⟨hy0, by omega⟩) dX7_goOnByTies_64 lkX7_146 mfX3_canTie cfX3 at57 rfl rfl rfl rfl (Nat.le_of_ble_eq_true rfl) (fun r64 I64 P64 hr64 hf64 => ?_)
              obtain ⟨i64, p64, q64⟩ := hf64
              rw [i64, p64]
              rw [k58, ← hre.tie hF ⟨hp0, hp2⟩ ⟨hy0, (by omega : y < T 0 5)⟩] at q64
              refine x_if_eq (tgt := 103) dX7_goOnByTies_67 rfl (fun h67 => ?_) (fun h67 => ?_)
              · have e67 : tieB T w gl m h s p y xb = xb := cif_neg (fun q => (q64.resolve_left (fun z => by have := z.1; omega)).2 q.2.2)
                refine x_keep [1, 1, 1, 1] ?_
                first | (have z1 := e67; exact hnx (by omega) K (by rw [e67]; exact hK)) | exact hnx (by omega) _ ⟨e100, fun a q => by rw [o100 a (fun e => q (Or.inr (by omega)))]; exact F90 a q, F56.tr (F56.tr G77 g90) (F56.eq (o100 56 (by decide))), n90.fr (fun a q => o100 a (by rcases q with q | q <;> omega)), ok.1, ok.2⟩ | fail "none"
              · have hti : tieP T h p y := (q64.resolve_right (fun z => h67 z.1)).2
                have hkh := knot_RW hF hr ⟨hp0, hp2⟩ ⟨hy0, (by omega : y < T 0 5)⟩ hti
                have hde : RE (knotS T h p y) (knotS T (I (57 + 1)) p y) := hre.knot
                have hky : RW T (knotS T (I (57 + 1)) p y) := hde.rw hkh
                refine y_aln (i := 0) dX7_goOnByTies_70 at56.ne0 rfl rfl ?_
                refine y_getp (z := 0) (v := 57) dX7_goOnByTies_71 frX7_28 cfX7 at56 rfl rfl (wp (v := 57) hW rfl rfl (by decide)) ?_
                refine x_iload_n (i := 2) dX7_goOnByTies_74 rfl rfl ?_
                refine x_iload_n (i := 3) dX7_goOnByTies_75 rfl rfl ?_
                refine y_ic dX7_goOnByTies_76 ⟨by decide, by decide⟩ ?_
                refine x_callVV (c_X3_knot hW hKM hF (by rw [k58]; exact hr58.rc) ⟨hp0, hp2⟩ ⟨hy0, by omega⟩ (Or.inl rfl)) dX7_goOnByTies_77 lkX7_149 mfX3_knot cfX3 at57 rfl rfl rfl rfl (Nat.le_of_ble_eq_true rfl) (fun n77 I77 P77 hf77 => ?_)
                obtain ⟨rfl, h77, rfl⟩ := hf77
                rw [k58, knx_1] at h77
                have e77 : I77 (57 + 1) = knotS T (I (57 + 1)) p y := by rw [h77, uA_eq]
                have o77 : ∀ a, a ≠ 57 + 1 → I77 a = K a := fun a q => by rw [h77, uA_ne q]
                have F77 : Fc sY I I77 := fun a q => by rw [o77 a (fun e => q (Or.inr (by omega)))]; exact kF a q
                have G77 : F56 I I77 := F56.tr k56 (F56.eq (o77 56 (by decide)))
                have X77 : NX T I77 xb := kX.fr (fun a q => o77 a (by rcases q with q | q <;> omega))
                have M77 := hM.fX F77
                refine y_aln (i := 0) dX7_goOnByTies_80 at56.ne0 rfl rfl ?_
                refine x_iload_n (i := 1) dX7_goOnByTies_81 rfl rfl ?_
                refine y_ldc dX7_goOnByTies_82 kcX7_152 (show _ = oI (34560) from rfl) ⟨by decide, by decide⟩ ?_
                refine x_iload_n (i := 2) dX7_goOnByTies_84 rfl rfl ?_
                refine y_ic dX7_goOnByTies_85 ⟨by decide, by decide⟩ ?_
                refine x_imul dX7_goOnByTies_86 ⟨by omega, by omega⟩ ?_
                refine x_iadd dX7_goOnByTies_87 ⟨by omega, by omega⟩ ?_
                refine x_iload_n (i := 3) dX7_goOnByTies_88 rfl rfl ?_
                refine x_iadd dX7_goOnByTies_89 ⟨by omega, by omega⟩ ?_
                refine x_callVV (c_X7_arrive (r := knotS T h p y) (h := (s, p, -1, y, -1)) (x := xb) hW M77 hF hkh (by rw [e77]; exact hde) X77 (hP.fr G77) ⟨by have := kO.1; omega, kO.1.2⟩ kO.2.1 (fun _ => ⟨rfl, (if_pos rfl).symm⟩)) dX7_goOnByTies_90 lkX7_80 mfX7_arrive cfX7 at56 rfl rfl rfl rfl (Nat.le_of_ble_eq_true rfl) (fun n90 I90 P90 hf90 => ?_)
                obtain ⟨rfl, rfl, f90, g90, n90⟩ := hf90
                have y90 : tieB T w gl m h s p y xb = arrX w gl m (knotS T h p y) (s, p, -1, y, -1) xb := cif_pos ⟨no, hwp, hti⟩
                rw [← y90] at n90
                have h58 : I90 (57 + 1) = knotS T (I (57 + 1)) p y := (f90 (57 + 1) (fun q => by rcases q with q | q <;> omega)).trans e77
                have F90 : Fc sY I I90 := F77.tr (f90.mo sX_sY)
                refine y_aln (i := 0) dX7_goOnByTies_93 at56.ne0 rfl rfl ?_
                refine y_getp (z := 0) (v := 57) dX7_goOnByTies_94 frX7_28 cfX7 at56 rfl rfl (wp (v := 57) hW rfl rfl (by decide)) ?_
                refine x_iload_n (i := 2) dX7_goOnByTies_97 rfl rfl ?_
                refine x_iload_n (i := 3) dX7_goOnByTies_98 rfl rfl ?_
                refine y_ic dX7_goOnByTies_99 ⟨by decide, by decide⟩ ?_
                refine x_callVV (c_X3_knot hW (hM.fX F90) hF (by rw [h58]; exact hky.rc) ⟨hp0, hp2⟩ ⟨hy0, by omega⟩ (Or.inr rfl)) dX7_goOnByTies_100 lkX7_149 mfX3_knot cfX3 at57 rfl rfl rfl rfl (Nat.le_of_ble_eq_true rfl) (fun n100 I100 P100 hf100 => ?_)
                obtain ⟨rfl, h100, rfl⟩ := hf100
                rw [h58, knx_m] at h100
                have e100 : I100 (57 + 1) = I (57 + 1) := by rw [h100, uA_eq]
                have o100 : ∀ a, a ≠ 57 + 1 → I100 a = I90 a := fun a q => by rw [h100, uA_ne q]
                have ok := tieB_ok (w := w) (gl := gl) (y := x) hF hr ⟨hp0, hp2⟩ ⟨hy0, (by omega : y < T 0 5)⟩ hs kL kO
                refine x_keep [1, 1, 1, 1] ?_
                first | (have z1 := e67; exact hnx (by omega) K (by rw [e67]; exact hK)) | exact hnx (by omega) _ ⟨e100, fun a q => by rw [o100 a (fun e => q (Or.inr (by omega)))]; exact F90 a q, F56.tr (F56.tr G77 g90) (F56.eq (o100 56 (by decide))), n90.fr (fun a q => o100 a (by rcases q with q | q <;> omega)), ok.1, ok.2⟩ | fail "none"
      refine x_iload_n (i := 2) dX7_goOnByTies_2 rfl rfl ?_
      refine y_aln (i := 0) dX7_goOnByTies_3 at56.ne0 rfl rfl ?_
      refine y_getp (z := 0) (v := 57) dX7_goOnByTies_4 frX7_28 cfX7 at56 rfl rfl (wp (v := 57) hW rfl rfl (by decide)) ?_
      refine y_getp (z := 0) (v := t) dX7_goOnByTies_7 frX7_103 cfX3 at57 rfl rfl hpt ?_
      refine y_geti (z := 0) dX7_goOnByTies_10 frX7_107 cfX10 hTo.at rfl rfl ?_
      rw [k0]
      refine x_icmp_ge (tgt := 115) dX7_goOnByTies_13 rfl (fun h13 => ?_) (fun h13 => ?_)
      · refine x_vret dX7_goOnByTies_115 rfl ?_
        refine ⟨rfl, rfl, ?_⟩
        have ea : p = T 0 1 := by omega
        rw [ea] at exa
        unfold tiesS
        rw [← exa]
        exact hK
      · refine y_aln (i := 0) dX7_goOnByTies_16 at56.ne0 rfl rfl ?_
        refine y_geti (z := 8) dX7_goOnByTies_17 frX7_32 cfX7 at56 rfl rfl ?_
        refine y_ic dX7_goOnByTies_20 ⟨by decide, by decide⟩ ?_
        rw [kP.2.1]
        refine x_icmp_eq (tgt := 35) dX7_goOnByTies_21 rfl (fun h21 => ?_) (fun h21 => ?_)
        · have m21 : w = -1 ∨ p = w := Or.inl h21
          refine y_ic dX7_goOnByTies_35 ⟨by decide, by decide⟩ ?_
          refine x_istore_n (i := 3) dX7_goOnByTies_36 rfl rfl (Nat.le_of_ble_eq_true rfl) ?_
          refine x_keep [1, 1, 1, 1] ?_
          exact hB (by omega) m21 _ 0 K (Nat.lt_succ_self _) (Int.le_refl 0) (by omega) hK
        · refine y_aln (i := 0) dX7_goOnByTies_24 at56.ne0 rfl rfl ?_
          refine y_geti (z := 8) dX7_goOnByTies_25 frX7_32 cfX7 at56 rfl rfl ?_
          refine x_iload_n (i := 2) dX7_goOnByTies_28 rfl rfl ?_
          rw [kP.2.1]
          refine x_icmp_eq (tgt := 35) dX7_goOnByTies_29 rfl (fun h29 => ?_) (fun h29 => ?_)
          · have m21 : w = -1 ∨ p = w := Or.inr h29.symm
            refine y_ic dX7_goOnByTies_35 ⟨by decide, by decide⟩ ?_
            refine x_istore_n (i := 3) dX7_goOnByTies_36 rfl rfl (Nat.le_of_ble_eq_true rfl) ?_
            refine x_keep [1, 1, 1, 1] ?_
            exact hB (by omega) m21 _ 0 K (Nat.lt_succ_self _) (Int.le_refl 0) (by omega) hK
          · have e29 : itN (fun t x => tieB T w gl m h s p t x) (T 0 5) xa = xa := itN_inv (p := fun y => y = xa) rfl (fun z y _ _ e => by rw [e]; exact cif_neg (fun q => by rcases q.2.1 with q | q <;> omega))
            refine x_goto (tgt := 109) dX7_goOnByTies_32 rfl ?_
            refine x_keep [1, 1, 1, 0] ?_
            exact hnA (by omega) K (by rw [e29]; exact hK)
  refine y_ic dX7_goOnByTies_0 ⟨by decide, by decide⟩ ?_
  refine x_istore_n (i := 2) dX7_goOnByTies_1 rfl rfl (Nat.le_of_ble_eq_true rfl) ?_
  refine x_keep [1, 1, 1, 0] ?_
  exact hA _ 0 I (Nat.lt_succ_self _) (Int.le_refl 0) (by omega) ⟨rfl, Fc.rf, F56.rf, hX, hx, laterX.rf⟩
theorem arr_ini {w gl m : Int} {r : Rw} (hm : 1 ≤ m) : arrX w gl m r (-1, -1, -1, -1, -1) (0, fun _ => r, fun _ => (-1, -1, -1, -1, -1), -1, 0) = iniX w gl r := by
  unfold arrX
  rw [cif_neg (fun ⟨s, s0, s1, _⟩ => by change s < 0 at s1; omega), if_neg (show ¬ (0 : Int) = m by omega)]
  unfold pushX iniX
  have e1 : (fun s : Int => if s = (0 : Int) then r else r) = fun _ => r := funext fun s => by split <;> rfl
  have e2 : (fun s : Int => if s = (0 : Int) then ((-1, -1, -1, -1, -1) : Int × Int × Int × Int × Int) else (-1, -1, -1, -1, -1)) = fun _ => (-1, -1, -1, -1, -1) := funext fun s => by split <;> rfl
  show ((0 : Int) + 1, (fun s : Int => if s = (0 : Int) then r else r), (fun s : Int => if s = (0 : Int) then ((-1, -1, -1, -1, -1) : Int × Int × Int × Int × Int) else (-1, -1, -1, -1, -1)), _, _) = _
  rw [e1, e2]
  rfl
theorem c_X7_goThrough {q2 t l : Nat} {w gl m : Int} (hW : WP P) (hM : MK I P q2 t l T) (hne : q2 ≠ 57) (hF : WF T) (hr : RW T (I (q2 + 1))) (h8 : I 56 8 = w) (h9 : (w = -1 ∧ I 56 9 = -1) ∨ ((0 ≤ w ∧ w < T 0 1) ∧ I 56 9 = gl ∧ 0 ≤ gl ∧ gl < 48)) (hm : 1 ≤ m ∧ m ≤ 1000) : Cv G mX7_goThrough (d + 5) 0 0 [.inr (.inl 56), .inr (.inl q2), .inl m] NO I P (qV (fun n' I' P' => n' = NO ∧ P' = uP (uP P 57 0 t) 57 1 l ∧ Fc sY I I' ∧ PX T I' w gl m ∧ XOK T m (goX T w gl m (I (q2 + 1))) ∧ NX T I' (goX T w gl m (I (q2 + 1))))) := by
  obtain ⟨hq2, hTo, hLo, hpt, hpl, hca, hcl⟩ := id hM
  have hq57 : isM 57 := Or.inr (Or.inr (Or.inl rfl))
  have hW2 : WP (uP (uP P 57 0 t) 57 1 l) := hW.mk hq57
  have hpt2 : uP (uP P 57 0 t) 57 1 l 57 0 = t := mk_P.1
  have hMM : ∀ J : Mem, Fc sY I J → MK J (uP (uP P 57 0 t) 57 1 l) 57 t l T := fun J hJ => ⟨hq57, hTo, hLo, mk_P.1, mk_P.2, hca.fr hTo hJ sY_tl, hcl.fr hLo hJ sY_tl⟩
  refine x_enter mfX7_goThrough rfl (Nat.le_of_ble_eq_true rfl) (fun _ => ?_)
  have hS : ∀ (j : Nat) (s : Int) (K : Mem), (m - s).toNat < j → 0 ≤ s → s ≤ m → Fc sY I K → PX T K w gl m → XOK T m (itN (fun s x => goB T w gl m s x) s (iniX w gl (I (q2 + 1)))) → NX T K (itN (fun s x => goB T w gl m s x) s (iniX w gl (I (q2 + 1)))) → V G mX7_goThrough (d + 5) 0 0 64 [some (.inr (.inl 56)), none, none, some (.inl (s))] [] NO K (uP (uP P 57 0 t) 57 1 l) (qV (fun n' I' P' => n' = NO ∧ P' = uP (uP P 57 0 t) 57 1 l ∧ Fc sY I I' ∧ PX T I' w gl m ∧ XOK T m (goX T w gl m (I (q2 + 1))) ∧ NX T I' (goX T w gl m (I (q2 + 1))))) := by
    intro j
    induction j with
    | zero => intro s K hj; omega
    | succ j ih =>
      intro s K hj hs0 hs1 kF kP kO kX
      obtain ⟨y, ey⟩ : ∃ y, y = itN (fun s x => goB T w gl m s x) s (iniX w gl (I (q2 + 1))) := ⟨_, rfl⟩
      have es : itN (fun s x => goB T w gl m s x) (s + 1) (iniX w gl (I (q2 + 1))) = goB T w gl m s (itN (fun s x => goB T w gl m s x) s (iniX w gl (I (q2 + 1)))) := itN_s _ _ hs0
      rw [← ey] at kO kX es
      have nov := not_over kX
      have hend : (y.1 ≤ s ∨ overX y) → goX T w gl m (I (q2 + 1)) = y := fun hst => by
        have := go_stop hst hs0 (show 0 ≤ m - s by omega) ey
        rw [show s + (m - s) = m by omega] at this
        exact this
      have y1 := kO.1
      refine x_iload_n (i := 3) dX7_goThrough_64 rfl rfl ?_
      refine y_si dX7_goThrough_65 ⟨by decide, by decide⟩ ?_
      refine x_icmp_ge (tgt := 107) dX7_goThrough_68 rfl (fun h68 => ?_) (fun h68 => ?_)
      · have e68 : goX T w gl m (I (q2 + 1)) = y := by rw [ey, show s = m by omega]; rfl
        refine x_vret dX7_goThrough_107 rfl ?_
        exact ⟨rfl, rfl, kF, kP, by rw [e68]; exact kO, by rw [e68]; exact kX⟩
      · refine x_iload_n (i := 3) dX7_goThrough_71 rfl rfl ?_
        refine y_aln (i := 0) dX7_goThrough_72 at56.ne0 rfl rfl ?_
        refine y_geti (z := 6) dX7_goThrough_73 frX7_50 cfX7 at56 rfl rfl ?_
        rw [kX.1.1]
        refine x_icmp_ge (tgt := 107) dX7_goThrough_76 rfl (fun h76 => ?_) (fun h76 => ?_)
        · have e68 := hend (Or.inl h76)
          refine x_vret dX7_goThrough_107 rfl ?_
          exact ⟨rfl, rfl, kF, kP, by rw [e68]; exact kO, by rw [e68]; exact kX⟩
        · refine y_aln (i := 0) dX7_goThrough_79 at56.ne0 rfl rfl ?_
          refine x_callVI (c_X7_isOpen hW2) dX7_goThrough_80 lkX7_84 mfX7_isOpen cfX7 at56 rfl rfl rfl rfl (Nat.le_of_ble_eq_true rfl) (fun r80 I80 P80 hr80 hf80 => ?_)
          obtain ⟨i80, p80, q80⟩ := hf80
          rw [i80, p80]
          refine x_if_eq (tgt := 107) dX7_goThrough_83 rfl (fun h83 => ?_) (fun h83 => ?_)
          · have e68 := hend (Or.inr (Classical.byContradiction (fun z => (q80.resolve_left (fun q => by have := q.1; omega)).2 (nov.mpr z))))
            refine x_vret dX7_goThrough_107 rfl ?_
            exact ⟨rfl, rfl, kF, kP, by rw [e68]; exact kO, by rw [e68]; exact kX⟩
          · have no : ¬ overX y := nov.mp (q80.resolve_right (fun z => h83 z.1)).2
            refine y_aln (i := 0) dX7_goThrough_86 at56.ne0 rfl rfl ?_
            refine x_iload_n (i := 3) dX7_goThrough_87 rfl rfl ?_
            refine x_callVV (c_X7_load (d := d + 2) hW2 ⟨hs0, by omega⟩) dX7_goThrough_88 lkX7_57 mfX7_load cfX7 at56 rfl rfl rfl rfl (Nat.le_of_ble_eq_true rfl) (fun n88 I88 P88 hf88 => ?_)
            obtain ⟨rfl, rfl, h88⟩ := hf88
            have e88 : RE (rowX y s) (I88 (57 + 1)) := fun c c0 c1 => by rw [h88, uA_eq, if_pos ⟨c0, c1⟩]; exact (kX.2.1 s c hs0 (by omega) c0 c1).symm
            have o88 : ∀ a, a ≠ 57 + 1 → I88 a = K a := fun a q => by rw [h88, uA_ne q]
            have F88 : Fc sY I I88 := fun a q => by rw [o88 a (fun e => q (Or.inr (by omega)))]; exact kF a q
            have X88 : NX T I88 y := kX.fr (fun a q => o88 a (by rcases q with q | q <;> omega))
            have P88 : PX T I88 w gl m := kP.fr (F56.eq (o88 56 (by decide)))
            have r88 := kO.2.1 s hs0 (by omega)
            refine y_aln (i := 0) dX7_goThrough_91 at56.ne0 rfl rfl ?_
            refine x_iload_n (i := 3) dX7_goThrough_92 rfl rfl ?_
            refine x_callVV (c_X7_goOnByTrades hW2 (hMM I88 F88) hF r88 e88 X88 P88 kO ⟨hs0, by omega⟩) dX7_goThrough_93 lkX7_88 mfX7_goOnByTrades cfX7 at56 rfl rfl rfl rfl (Nat.le_of_ble_eq_true rfl) (fun n93 I93 P93 hf93 => ?_)
            obtain ⟨rfl, rfl, t93⟩ := hf93
            have F93 := F88.tr t93.2.1
            refine y_aln (i := 0) dX7_goThrough_96 at56.ne0 rfl rfl ?_
            refine x_iload_n (i := 3) dX7_goThrough_97 rfl rfl ?_
            refine x_callVV (c_X7_goOnByTies (d := d + 1) hW2 (hMM I93 F93) hF r88 (by rw [t93.1]; exact e88) t93.2.2.2.1 (P88.fr t93.2.2.1) t93.2.2.2.2.1 ⟨hs0, by have := t93.2.2.2.2.2.1; omega⟩) dX7_goThrough_98 lkX7_91 mfX7_goOnByTies cfX7 at56 rfl rfl rfl rfl (Nat.le_of_ble_eq_true rfl) (fun n98 I98 P98 hf98 => ?_)
            obtain ⟨rfl, rfl, t98⟩ := hf98
            have e98 : goB T w gl m s y = tiesS T w gl m (rowX y s) s (twosS T w gl m (rowX y s) s y) := cif_pos ⟨by omega, no⟩
            refine x_iinc dX7_goThrough_101 rfl ⟨by omega, by omega⟩ rfl (Nat.le_of_ble_eq_true rfl) ?_
            refine x_goto (tgt := 64) dX7_goThrough_104 rfl ?_
            refine x_keep [1, 0, 0, 1] ?_
            exact ih (s + 1) I98 (by omega) (by omega) (by omega) (F93.tr t98.2.1) ((P88.fr t93.2.2.1).fr t98.2.2.1) (by rw [es, e98]; exact t98.2.2.2.2.1) (by rw [es, e98]; exact t98.2.2.2.1)
  have hR : ∀ K : Mem, Fc sY I K → PX T K w gl m → RE (I (q2 + 1)) (K (57 + 1)) → K 56 6 = 0 → K 56 10 = -1 → K 56 11 = 0 → (∀ g, 0 ≤ g → g < 1024 → K 63 g = -1) → V G mX7_goThrough (d + 5) 0 0 56 [some (.inr (.inl 56)), none, none, none] [] NO K (uP (uP P 57 0 t) 57 1 l) (qV (fun n' I' P' => n' = NO ∧ P' = uP (uP P 57 0 t) 57 1 l ∧ Fc sY I I' ∧ PX T I' w gl m ∧ XOK T m (goX T w gl m (I (q2 + 1))) ∧ NX T I' (goX T w gl m (I (q2 + 1))))) := by
    intro K kF kP kre k6 k10 k11 k63
    refine y_aln (i := 0) dX7_goThrough_56 at56.ne0 rfl rfl ?_
    refine y_ic dX7_goThrough_57 ⟨by decide, by decide⟩ ?_
    refine y_ic dX7_goThrough_58 ⟨by decide, by decide⟩ ?_
    refine x_callVV (c_X7_arrive (d := d + 2) (r := I (q2 + 1)) (h := (-1, -1, -1, -1, -1)) (x := (0, fun _ => I (q2 + 1), fun _ => (-1, -1, -1, -1, -1), -1, 0)) hW2 (hMM K kF) hF hr kre ⟨⟨k6, k10, k11⟩, fun s c s0 s1 => by change s < 0 at s1; omega, fun s s0 s1 => by change s < 0 at s1; omega, fun s s0 s1 => by change s < 0 at s1; omega, fun g g0 g1 => k63 g g0 g1⟩ kP ⟨Int.le_refl 0, by show (0 : Int) ≤ m; omega⟩ (fun s s0 s1 => by change s < 0 at s1; omega) (fun q => by change (0 : Int) < 0 at q; omega)) dX7_goThrough_59 lkX7_80 mfX7_arrive cfX7 at56 rfl rfl rfl rfl (Nat.le_of_ble_eq_true rfl) (fun n59 I59 P59 hf59 => ?_)
    obtain ⟨rfl, rfl, f59, g59, n59⟩ := hf59
    rw [arr_ini hm.1] at n59
    refine y_ic dX7_goThrough_62 ⟨by decide, by decide⟩ ?_
    refine x_istore_n (i := 3) dX7_goThrough_63 rfl rfl (Nat.le_of_ble_eq_true rfl) ?_
    refine x_keep [1, 0, 0, 1] ?_
    exact hS _ 0 I59 (Nat.lt_succ_self _) (Int.le_refl 0) (by omega) (kF.tr (f59.mo sX_sY)) (kP.fr g59) (iniX_ok hr hm.1) n59
  have hH : ∀ (j : Nat) (k : Int) (K : Mem), (1024 - k).toNat < j → 0 ≤ k → k ≤ 1024 → Fc sY I K → PX T K w gl m → RE (I (q2 + 1)) (K (57 + 1)) → K 56 6 = 0 → K 56 10 = -1 → K 56 11 = 0 → (∀ g, 0 ≤ g → g < k → K 63 g = -1) → V G mX7_goThrough (d + 5) 0 0 36 [some (.inr (.inl 56)), none, none, some (.inl (k))] [] NO K (uP (uP P 57 0 t) 57 1 l) (qV (fun n' I' P' => n' = NO ∧ P' = uP (uP P 57 0 t) 57 1 l ∧ Fc sY I I' ∧ PX T I' w gl m ∧ XOK T m (goX T w gl m (I (q2 + 1))) ∧ NX T I' (goX T w gl m (I (q2 + 1))))) := by
    intro j
    induction j with
    | zero => intro k K hj; omega
    | succ j ih =>
      intro k K hj hk0 hk1 kF kP kre k6 k10 k11 k63
      refine x_iload_n (i := 3) dX7_goThrough_36 rfl rfl ?_
      refine y_si dX7_goThrough_37 ⟨by decide, by decide⟩ ?_
      refine x_icmp_ge (tgt := 56) dX7_goThrough_40 rfl (fun h40 => ?_) (fun h40 => ?_)
      · refine x_keep [1, 0, 0, 0] ?_
        exact hR K kF kP kre k6 k10 k11 (fun g g0 g1 => k63 g g0 (by omega))
      · refine y_aln (i := 0) dX7_goThrough_43 at56.ne0 rfl rfl ?_
        refine y_getp (z := 5) (v := 63) dX7_goThrough_44 frX7_25 cfX7 at56 rfl rfl (wp (v := 63) hW2 rfl rfl (by decide)) ?_
        refine x_iload_n (i := 3) dX7_goThrough_47 rfl rfl ?_
        refine y_ic dX7_goThrough_48 ⟨by decide, by decide⟩ ?_
        refine x_iast dX7_goThrough_49 ar63 ⟨by omega, by omega⟩ ?_
        refine x_iinc dX7_goThrough_50 rfl ⟨by omega, by omega⟩ rfl (Nat.le_of_ble_eq_true rfl) ?_
        refine x_goto (tgt := 36) dX7_goThrough_53 rfl ?_
        refine x_keep [1, 0, 0, 1] ?_
        refine ih (k + 1) _ (by omega) (by omega) (by omega) (kF.ui (Or.inr ⟨by decide, by decide⟩)) (kP.fr (F56.eq (uI_ne (by decide)))) (by rw [uI_ne (by decide)]; exact kre) (by rw [uI_ne (by decide)]; exact k6) (by rw [uI_ne (by decide)]; exact k10) (by rw [uI_ne (by decide)]; exact k11) (fun g g0 g1 => ?_)
        rw [uI_eq]
        by_cases q : g = k
        · rw [q, u1_eq]
        · rw [u1_ne q]; exact k63 g g0 (by omega)
  have h8' : ∀ J : Mem, (∀ a, a ≠ 57 + 1 → J a = I a) → RE (I (q2 + 1)) (J (57 + 1)) → V G mX7_goThrough (d + 5) 0 0 8 [some (.inr (.inl 56)), none, some (.inl (m)), none] [] NO J (uP (uP P 57 0 t) 57 1 l) (qV (fun n' I' P' => n' = NO ∧ P' = uP (uP P 57 0 t) 57 1 l ∧ Fc sY I I' ∧ PX T I' w gl m ∧ XOK T m (goX T w gl m (I (q2 + 1))) ∧ NX T I' (goX T w gl m (I (q2 + 1))))) := by
    intro J hJ hre
    have j56 : J 56 = I 56 := hJ 56 (by decide)
    have jF : Fc sY I J := fun a q => hJ a (fun e => q (Or.inr (by omega)))
    refine y_aln (i := 0) dX7_goThrough_8 at56.ne0 rfl rfl ?_
    refine x_iload_n (i := 2) dX7_goThrough_9 rfl rfl ?_
    refine y_si dX7_goThrough_10 ⟨by decide, by decide⟩ ?_
    refine y_min dX7_goThrough_13 jkX7_71 (by omega) (Nat.le_of_ble_eq_true rfl) ?_
    rw [show min m 1000 = m by omega]
    refine y_puti (z := 7) dX7_goThrough_16 frX7_77 cfX7 at56 rfl rfl rfl ?_
    refine y_aln (i := 0) dX7_goThrough_19 at56.ne0 rfl rfl ?_
    refine y_ic dX7_goThrough_20 ⟨by decide, by decide⟩ ?_
    refine y_puti (z := 6) dX7_goThrough_21 frX7_50 cfX7 at56 rfl rfl rfl ?_
    refine y_aln (i := 0) dX7_goThrough_24 at56.ne0 rfl rfl ?_
    refine y_ic dX7_goThrough_25 ⟨by decide, by decide⟩ ?_
    refine y_putz (z := 11) dX7_goThrough_26 frX7_43 cfX7 at56 rfl rfl rfl (by omega) ?_
    refine y_aln (i := 0) dX7_goThrough_29 at56.ne0 rfl rfl ?_
    refine y_ic dX7_goThrough_30 ⟨by decide, by decide⟩ ?_
    refine y_puti (z := 10) dX7_goThrough_31 frX7_47 cfX7 at56 rfl rfl rfl ?_
    refine y_ic dX7_goThrough_34 ⟨by decide, by decide⟩ ?_
    refine x_istore_n (i := 3) dX7_goThrough_35 rfl rfl (Nat.le_of_ble_eq_true rfl) ?_
    refine x_keep [1, 0, 0, 1] ?_
    refine hH _ 0 _ (Nat.lt_succ_self _) (by decide) (by decide) ((((jF.ui (Or.inl rfl)).ui (Or.inl rfl)).ui (Or.inl rfl)).ui (Or.inl rfl)) ⟨by rw [uI_eq, u1_ne (by decide), uI_eq, u1_ne (by decide), uI_eq, u1_ne (by decide), uI_eq, u1_eq], by rw [uI_eq, u1_ne (by decide), uI_eq, u1_ne (by decide), uI_eq, u1_ne (by decide), uI_eq, u1_ne (by decide), j56]; exact h8, hm, by rw [uI_eq, u1_ne (by decide), uI_eq, u1_ne (by decide), uI_eq, u1_ne (by decide), uI_eq, u1_ne (by decide), j56]; exact h9⟩ (by rw [uI_ne (by decide), uI_ne (by decide), uI_ne (by decide), uI_ne (by decide)]; exact hre) (by rw [uI_eq, u1_ne (by decide), uI_eq, u1_ne (by decide), uI_eq, u1_eq]) (by rw [uI_eq, u1_eq]) (by rw [uI_eq, u1_ne (by decide), uI_eq, u1_eq]) (fun g g0 g1 => by omega)
  refine y_aln (i := 0) dX7_goThrough_0 at56.ne0 rfl rfl ?_
  refine y_getp (z := 0) (v := 57) dX7_goThrough_1 frX7_28 cfX7 at56 rfl rfl (wp (v := 57) hW rfl rfl (by decide)) ?_
  refine y_aln (i := 1) dX7_goThrough_4 hq2.at.ne0 rfl rfl ?_
  refine x_callVV (c_X3_take (d := d + 3) hW hq57 hM (Ne.symm hne)) dX7_goThrough_5 lkX7_67 mfX3_take cfX3 at57 rfl rfl rfl rfl (Nat.le_of_ble_eq_true rfl) (fun n5 I5 P5 hf5 => ?_)
  obtain ⟨rfl, rfl, rfl⟩ := hf5
  refine x_keep [1, 0, 1, 0] ?_
  exact h8' _ (fun a ha => uA_ne ha) (fun c c0 c1 => by rw [uA_eq, if_pos ⟨c0, c1⟩])
theorem c_X7_findWish {q2 t l : Nat} {p s m : Int} (hW : WP P) (hM : MK I P q2 t l T) (hne : q2 ≠ 57) (hF : WF T) (hr : RW T (I (q2 + 1))) (hp : 0 ≤ p ∧ p < T 0 1) (hs : 0 ≤ s ∧ s < T 0 2) (hm : 1 ≤ m ∧ m ≤ 1000) : Cv G mX7_findWish (d + 6) 0 0 [.inr (.inl 56), .inr (.inl q2), .inl p, .inl s, .inl m] NO I P (qI NO (fun v I' P' => P' = uP (uP P 57 0 t) 57 1 l ∧ Fc sY I I' ∧ PX T I' p (8 * p + s) m ∧ XOK T m (goX T p (8 * p + s) m (I (q2 + 1))) ∧ NX T I' (goX T p (8 * p + s) m (I (q2 + 1))) ∧ v = if spX (goX T p (8 * p + s) m (I (q2 + 1))) ≠ 0 then -2 else ansX (goX T p (8 * p + s) m (I (q2 + 1))))) := by
  obtain ⟨hq2, hTo, hLo, hpt, hpl, hca, hcl⟩ := id hM
  have hq57 : isM 57 := Or.inr (Or.inr (Or.inl rfl))
  have hW2 : WP (uP (uP P 57 0 t) 57 1 l) := hW.mk hq57
  have f1 := hF.1
  have f2 := hF.2.1
  have hq2' := hq2
  unfold isM at hq2'
  have hFc : Fc sY I (uI (uI I 56 8 p) 56 9 (p * 8 + s)) := (Fc.rf.ui (Or.inl rfl)).ui (Or.inl rfl)
  have e2 : uI (uI I 56 8 p) 56 9 (p * 8 + s) (q2 + 1) = I (q2 + 1) := by rw [uI_ne (by omega), uI_ne (by omega)]
  refine x_enter mfX7_findWish rfl (Nat.le_of_ble_eq_true rfl) (fun _ => ?_)
  have h22 : ∀ J : Mem, Fc sY I J → PX T J p (8 * p + s) m → XOK T m (goX T p (8 * p + s) m (I (q2 + 1))) → NX T J (goX T p (8 * p + s) m (I (q2 + 1))) → V G mX7_findWish (d + 6) 0 0 22 [some (.inr (.inl 56)), none, none, none, none] [] NO J (uP (uP P 57 0 t) 57 1 l) (qI NO (fun v I' P' => P' = uP (uP P 57 0 t) 57 1 l ∧ Fc sY I I' ∧ PX T I' p (8 * p + s) m ∧ XOK T m (goX T p (8 * p + s) m (I (q2 + 1))) ∧ NX T I' (goX T p (8 * p + s) m (I (q2 + 1))) ∧ v = if spX (goX T p (8 * p + s) m (I (q2 + 1))) ≠ 0 then -2 else ansX (goX T p (8 * p + s) m (I (q2 + 1))))) := fun J jF jP jO jX => by
    refine y_aln (i := 0) dX7_findWish_22 at56.ne0 rfl rfl ?_
    refine y_geti (z := 11) dX7_findWish_23 frX7_43 cfX7 at56 rfl rfl ?_
    rw [jX.1.2.2]
    refine x_if_eq (tgt := 34) dX7_findWish_26 rfl (fun h26 => ?_) (fun h26 => ?_)
    · refine y_aln (i := 0) dX7_findWish_34 at56.ne0 rfl rfl ?_
      refine y_geti (z := 10) dX7_findWish_35 frX7_47 cfX7 at56 rfl rfl ?_
      first | rw [jX.1.2.1] | skip
      refine x_iret dX7_findWish_38 rfl ?_
      first | (have z1 := h26; exact ⟨rfl, jF, jP, jO, jX, by first | rw [if_neg (by omega)] | rw [if_pos h26]⟩) | fail "none"
    · refine y_bi dX7_findWish_29 ⟨by decide, by decide⟩ ?_
      refine x_goto (tgt := 38) dX7_findWish_31 rfl ?_
      first | rw [jX.1.2.1] | skip
      refine x_iret dX7_findWish_38 rfl ?_
      first | (have z1 := h26; exact ⟨rfl, jF, jP, jO, jX, by first | rw [if_neg (by omega)] | rw [if_pos h26]⟩) | fail "none"
  refine y_aln (i := 0) dX7_findWish_0 at56.ne0 rfl rfl ?_
  refine x_iload_n (i := 2) dX7_findWish_1 rfl rfl ?_
  refine y_puti (z := 8) dX7_findWish_2 frX7_32 cfX7 at56 rfl rfl rfl ?_
  refine y_aln (i := 0) dX7_findWish_5 at56.ne0 rfl rfl ?_
  refine x_iload_n (i := 2) dX7_findWish_6 rfl rfl ?_
  refine y_bi dX7_findWish_7 ⟨by decide, by decide⟩ ?_
  refine x_imul dX7_findWish_9 ⟨by omega, by omega⟩ ?_
  refine x_iload_n (i := 3) dX7_findWish_10 rfl rfl ?_
  refine x_iadd dX7_findWish_11 ⟨by omega, by omega⟩ ?_
  refine y_puti (z := 9) dX7_findWish_12 frX7_36 cfX7 at56 rfl rfl rfl ?_
  refine y_aln (i := 0) dX7_findWish_15 at56.ne0 rfl rfl ?_
  refine y_aln (i := 1) dX7_findWish_16 hq2.at.ne0 rfl rfl ?_
  refine x_iload (i := 4) dX7_findWish_17 rfl ?_
  refine x_callVV (c_X7_goThrough (w := p) (gl := 8 * p + s) hW (hM.fr hFc sY_tl) hne hF (by rw [e2]; exact hr) (by rw [uI_eq, u1_ne (by decide), uI_eq, u1_eq]) (Or.inr ⟨hp, by rw [uI_eq, u1_eq]; omega, by omega, by omega⟩) hm) dX7_findWish_19 lkX7_39 mfX7_goThrough cfX7 at56 rfl rfl rfl rfl (Nat.le_of_ble_eq_true rfl) (fun n19 I19 P19 hf19 => ?_)
  obtain ⟨rfl, rfl, f19, p19, o19, x19⟩ := hf19
  rw [e2] at o19 x19
  refine x_keep [1, 0, 0, 0, 0] ?_
  exact h22 I19 (hFc.tr f19) p19 o19 x19
theorem c_X7_worthOf {t l : Nat} {s m : Int} {x : Sx} (hW : WP P) (hM : MK I P 57 t l T) (hF : WF T) (hX : NX T I x) (hx : XOK T m x) (hm : m ≤ 1000) (hs : 0 ≤ s ∧ s < x.1) : Cv G mX7_worthOf (d + 3) 0 0 [.inr (.inl 56), .inl s] NO I P (qI NO (fun v I' P' => P' = P ∧ (∀ a, a ≠ 57 + 1 → I' a = I a) ∧ v = worthS T (rowX x s))) := by
  have y1 := hx.1
  refine x_enter mfX7_worthOf rfl (Nat.le_of_ble_eq_true rfl) (fun _ => ?_)
  refine y_aln (i := 0) dX7_worthOf_0 at56.ne0 rfl rfl ?_
  refine x_iload_n (i := 1) dX7_worthOf_1 rfl rfl ?_
  refine x_callVV (c_X7_load hW ⟨hs.1, by omega⟩) dX7_worthOf_2 lkX7_57 mfX7_load cfX7 at56 rfl rfl rfl rfl (Nat.le_of_ble_eq_true rfl) (fun n2 I2 P2 hf2 => ?_)
  obtain ⟨rfl, rfl, h2⟩ := hf2
  have e2 : RE (rowX x s) (I2 (57 + 1)) := fun c c0 c1 => by rw [h2, uA_eq, if_pos ⟨c0, c1⟩]; exact (hX.2.1 s c hs.1 hs.2 c0 c1).symm
  have o2 : ∀ a, a ≠ 57 + 1 → I2 a = I a := fun a q => by rw [h2, uA_ne q]
  have r2 := hx.2.1 s hs.1 hs.2
  refine y_aln (i := 0) dX7_worthOf_5 at56.ne0 rfl rfl ?_
  refine y_getp (z := 0) (v := 57) dX7_worthOf_6 frX7_28 cfX7 at56 rfl rfl (wp (v := 57) hW rfl rfl (by decide)) ?_
  refine x_callVI (c_X3_allWorth (d := d + 1) hW (hM.fX (fun a q => o2 a (fun e => q (Or.inr (by omega))))) hF (e2.rc r2.rc)) dX7_worthOf_9 lkX7_61 mfX3_allWorth cfX3 at57 rfl rfl rfl rfl (Nat.le_of_ble_eq_true rfl) (fun r9 I9 P9 hr9 hf9 => ?_)
  obtain ⟨i9, p9, q9⟩ := hf9
  rw [i9, p9]
  refine x_iret dX7_worthOf_12 rfl ?_
  exact ⟨rfl, o2, by rw [q9]; exact (e2.worth hF).symm⟩
theorem c_X7_findMost {q2 t l : Nat} {m gl : Int} (hW : WP P) (hM : MK I P q2 t l T) (hne : q2 ≠ 57) (hF : WF T) (hr : RW T (I (q2 + 1))) (hm : 1 ≤ m ∧ m ≤ 1000) : Cv G mX7_findMost (d + 6) 0 0 [.inr (.inl 56), .inr (.inl q2), .inl m] NO I P (qI NO (fun v I' P' => P' = uP (uP P 57 0 t) 57 1 l ∧ Fc sY I I' ∧ XOK T m (goX T (-1) gl m (I (q2 + 1))) ∧ NX T I' (goX T (-1) gl m (I (q2 + 1))) ∧ v = if spX (goX T (-1) gl m (I (q2 + 1))) ≠ 0 then -2 else (mostN T (goX T (-1) gl m (I (q2 + 1))) (goX T (-1) gl m (I (q2 + 1))).1).1)) := by
  obtain ⟨hq2, hTo, hLo, hpt, hpl, hca, hcl⟩ := id hM
  have hq57 : isM 57 := Or.inr (Or.inr (Or.inl rfl))
  have hW2 : WP (uP (uP P 57 0 t) 57 1 l) := hW.mk hq57
  have hq2' := hq2
  unfold isM at hq2'
  have hFc : Fc sY I (uI (uI I 56 8 (-1)) 56 9 (-1)) := (Fc.rf.ui (Or.inl rfl)).ui (Or.inl rfl)
  have e2 : uI (uI I 56 8 (-1)) 56 9 (-1) (q2 + 1) = I (q2 + 1) := by rw [uI_ne (by omega), uI_ne (by omega)]
  have hMM : ∀ J : Mem, Fc sY I J → MK J (uP (uP P 57 0 t) 57 1 l) 57 t l T := fun J hJ => ⟨hq57, hTo, hLo, mk_P.1, mk_P.2, hca.fr hTo hJ sY_tl, hcl.fr hLo hJ sY_tl⟩
  obtain ⟨X, eX⟩ : ∃ X, X = goX T (-1) gl m (I (q2 + 1)) := ⟨_, rfl⟩
  refine x_enter mfX7_findMost rfl (Nat.le_of_ble_eq_true rfl) (fun _ => ?_)
  have hL : ∀ (j : Nat) (s : Int) (K : Mem), (X.1 - s).toNat < j → 0 ≤ s → s ≤ X.1 → spX X = 0 → Fc sY I K → XOK T m X → NX T K X → V G mX7_findMost (d + 6) 0 0 34 [some (.inr (.inl 56)), none, none, some (.inl ((mostN T X s).2)), some (.inl ((mostN T X s).1)), some (.inl (s)), none] [] NO K (uP (uP P 57 0 t) 57 1 l) (qI NO (fun v I' P' => P' = uP (uP P 57 0 t) 57 1 l ∧ Fc sY I I' ∧ XOK T m (goX T (-1) gl m (I (q2 + 1))) ∧ NX T I' (goX T (-1) gl m (I (q2 + 1))) ∧ v = if spX (goX T (-1) gl m (I (q2 + 1))) ≠ 0 then -2 else (mostN T (goX T (-1) gl m (I (q2 + 1))) (goX T (-1) gl m (I (q2 + 1))).1).1)) := by
    intro j
    induction j with
    | zero => intro s K hj; omega
    | succ j ih =>
      intro s K hj hs0 hs1 h0 kF kO kX
      have es := mostN_s (T := T) (x := X) hs0
      have y1 := kO.1
      have eb : mostB T X s (mostN T X s) = (if (mostN T X s).2 < worthS T (rowX X s) then s else (mostN T X s).1, if (mostN T X s).2 < worthS T (rowX X s) then worthS T (rowX X s) else (mostN T X s).2) := rfl
      rw [eb] at es
      refine x_iload (i := 5) dX7_findMost_34 rfl ?_
      refine y_aln (i := 0) dX7_findMost_36 at56.ne0 rfl rfl ?_
      refine y_geti (z := 6) dX7_findMost_37 frX7_50 cfX7 at56 rfl rfl ?_
      rw [kX.1.1]
      refine x_icmp_ge (tgt := 70) dX7_findMost_40 rfl (fun h40 => ?_) (fun h40 => ?_)
      · refine x_iload (i := 4) dX7_findMost_70 rfl ?_
        refine x_iret dX7_findMost_72 rfl ?_
        exact ⟨rfl, kF, by rw [← eX]; exact kO, by rw [← eX]; exact kX, by rw [← eX, if_neg (by omega), show X.1 = s by omega]⟩
      · refine y_aln (i := 0) dX7_findMost_43 at56.ne0 rfl rfl ?_
        refine x_iload (i := 5) dX7_findMost_44 rfl ?_
        refine x_callVI (c_X7_worthOf (d := d + 2) hW2 (hMM K kF) hF kX kO hm.2 ⟨hs0, by omega⟩) dX7_findMost_46 lkX7_53 mfX7_worthOf cfX7 at56 rfl rfl rfl rfl (Nat.le_of_ble_eq_true rfl) (fun r46 I46 P46 hr46 hf46 => ?_)
        obtain ⟨rfl, o46, rfl⟩ := hf46
        have F46 : Fc sY I I46 := fun a q => by rw [o46 a (fun e => q (Or.inr (by omega)))]; exact kF a q
        have X46 : NX T I46 X := kX.fr (fun a q => o46 a (by rcases q with q | q <;> omega))
        have ihs := ih (s + 1) I46 (by omega) (by omega) (by omega) h0 F46 kO X46
        refine x_istore (i := 6) dX7_findMost_49 rfl (Nat.le_of_ble_eq_true rfl) ?_
        refine x_iload (i := 6) dX7_findMost_51 rfl ?_
        refine x_iload_n (i := 3) dX7_findMost_53 rfl rfl ?_
        refine x_icmp_le (tgt := 64) dX7_findMost_54 rfl (fun h54 => ?_) (fun h54 => ?_)
        · rw [if_neg (by omega), if_neg (by omega)] at es
          refine x_iinc dX7_findMost_64 rfl ⟨by omega, by omega⟩ rfl (Nat.le_of_ble_eq_true rfl) ?_
          refine x_goto (tgt := 34) dX7_findMost_67 rfl ?_
          refine x_keep [1, 0, 0, 1, 1, 1, 0] ?_
          rw [es] at ihs
          exact ihs
        · rw [if_pos h54, if_pos h54] at es
          refine x_iload (i := 6) dX7_findMost_57 rfl ?_
          refine x_istore_n (i := 3) dX7_findMost_59 rfl rfl (Nat.le_of_ble_eq_true rfl) ?_
          refine x_iload (i := 5) dX7_findMost_60 rfl ?_
          refine x_istore (i := 4) dX7_findMost_62 rfl (Nat.le_of_ble_eq_true rfl) ?_
          refine x_iinc dX7_findMost_64 rfl ⟨by omega, by omega⟩ rfl (Nat.le_of_ble_eq_true rfl) ?_
          refine x_goto (tgt := 34) dX7_findMost_67 rfl ?_
          refine x_keep [1, 0, 0, 1, 1, 1, 0] ?_
          rw [es] at ihs
          exact ihs
  have h16 : ∀ J : Mem, Fc sY I J → XOK T m X → NX T J X → V G mX7_findMost (d + 6) 0 0 16 [some (.inr (.inl 56)), none, none, none, none, none, none] [] NO J (uP (uP P 57 0 t) 57 1 l) (qI NO (fun v I' P' => P' = uP (uP P 57 0 t) 57 1 l ∧ Fc sY I I' ∧ XOK T m (goX T (-1) gl m (I (q2 + 1))) ∧ NX T I' (goX T (-1) gl m (I (q2 + 1))) ∧ v = if spX (goX T (-1) gl m (I (q2 + 1))) ≠ 0 then -2 else (mostN T (goX T (-1) gl m (I (q2 + 1))) (goX T (-1) gl m (I (q2 + 1))).1).1)) := fun J jF jO jX => by
    refine y_aln (i := 0) dX7_findMost_16 at56.ne0 rfl rfl ?_
    refine y_geti (z := 11) dX7_findMost_17 frX7_43 cfX7 at56 rfl rfl ?_
    rw [jX.1.2.2]
    refine x_if_eq (tgt := 26) dX7_findMost_20 rfl (fun h20 => ?_) (fun h20 => ?_)
    · refine y_ic dX7_findMost_26 ⟨by decide, by decide⟩ ?_
      refine x_istore_n (i := 3) dX7_findMost_27 rfl rfl (Nat.le_of_ble_eq_true rfl) ?_
      refine y_ic dX7_findMost_28 ⟨by decide, by decide⟩ ?_
      refine x_istore (i := 4) dX7_findMost_29 rfl (Nat.le_of_ble_eq_true rfl) ?_
      refine y_ic dX7_findMost_31 ⟨by decide, by decide⟩ ?_
      refine x_istore (i := 5) dX7_findMost_32 rfl (Nat.le_of_ble_eq_true rfl) ?_
      refine x_keep [1, 0, 0, 1, 1, 1, 0] ?_
      exact hL _ 0 J (Nat.lt_succ_self _) (Int.le_refl 0) (by have := jO.1; omega) h20 jF jO jX
    · refine y_bi dX7_findMost_23 ⟨by decide, by decide⟩ ?_
      refine x_iret dX7_findMost_25 rfl ?_
      exact ⟨rfl, jF, by rw [← eX]; exact jO, by rw [← eX]; exact jX, by rw [← eX, if_pos h20]⟩
  refine y_aln (i := 0) dX7_findMost_0 at56.ne0 rfl rfl ?_
  refine y_ic dX7_findMost_1 ⟨by decide, by decide⟩ ?_
  refine y_puti (z := 8) dX7_findMost_2 frX7_32 cfX7 at56 rfl rfl rfl ?_
  refine y_aln (i := 0) dX7_findMost_5 at56.ne0 rfl rfl ?_
  refine y_ic dX7_findMost_6 ⟨by decide, by decide⟩ ?_
  refine y_puti (z := 9) dX7_findMost_7 frX7_36 cfX7 at56 rfl rfl rfl ?_
  refine y_aln (i := 0) dX7_findMost_10 at56.ne0 rfl rfl ?_
  refine y_aln (i := 1) dX7_findMost_11 hq2.at.ne0 rfl rfl ?_
  refine x_iload_n (i := 2) dX7_findMost_12 rfl rfl ?_
  refine x_callVV (c_X7_goThrough (w := -1) (gl := gl) hW (hM.fr hFc sY_tl) hne hF (by rw [e2]; exact hr) (by rw [uI_eq, u1_ne (by decide), uI_eq, u1_eq]) (Or.inl ⟨rfl, by rw [uI_eq, u1_eq]⟩) hm) dX7_findMost_13 lkX7_39 mfX7_goThrough cfX7 at56 rfl rfl rfl rfl (Nat.le_of_ble_eq_true rfl) (fun n13 I13 P13 hf13 => ?_)
  obtain ⟨rfl, rfl, f19, p19, o19, x19⟩ := hf13
  rw [e2, ← eX] at o19 x19
  refine x_keep [1, 0, 0, 0, 0, 0, 0] ?_
  exact h16 I13 (hFc.tr f19) o19 x19
theorem c_X7_unwind {s m : Int} {x : Sx} (hW : WP P) (hX : NX T I x) (hx : XOK T m x) (hm : m ≤ 1000) (hs : 0 ≤ s ∧ s < x.1) : Cv G mX7_unwind d 0 0 [.inr (.inl 56), .inl s, .inr (.inl 86)] NO I P (qI NO (fun v I' P' => P' = P ∧ (∀ a, a ≠ 86 → I' a = I a) ∧ dpX x s v ∧ v < 1000 ∧ ∀ i, 0 ≤ i → i < v → I' 86 i = codeX (howX x (upX x (v - 1 - i) s)))) := by
  have y1 := hx.1
  have hz : ∀ k, 0 ≤ k → k < x.1 → ((howX x k).1 ≠ -1 ↔ 0 < k) := fun k k0 k1 => by
    constructor
    · intro q
      by_cases e : k = 0
      · rw [e] at q; exact absurd hx.2.2.1 q
      · omega
    · intro q
      have := hx.2.2.2.1 k q k1
      omega
  refine x_enter mfX7_unwind rfl (Nat.le_of_ble_eq_true rfl) (fun _ => ?_)
  have hB : ∀ (n : Int), dpX x s n → n < 1000 → ∀ (j : Nat) (i : Int) (K : Mem), (i + 1).toNat < j → -1 ≤ i → i < n → (∀ a, a ≠ 86 → K a = I a) → (∀ y, i < y → y < n → K 86 y = codeX (howX x (upX x (n - 1 - y) s))) → V G mX7_unwind d 0 0 40 [some (.inr (.inl 56)), none, some (.inr (.inl 86)), some (.inl (n)), some (.inl (upX x (n - 1 - i) s)), some (.inl (i))] [] NO K P (qI NO (fun v I' P' => P' = P ∧ (∀ a, a ≠ 86 → I' a = I a) ∧ dpX x s v ∧ v < 1000 ∧ ∀ i, 0 ≤ i → i < v → I' 86 i = codeX (howX x (upX x (v - 1 - i) s)))) := by
    intro n hn hn1 j
    induction j with
    | zero => intro i K hj; omega
    | succ j ih =>
      intro i K hj hi0 hi1 hK hv
      have hu := fun (q : 0 ≤ i) => upX_bd hx hs (n := n - 1 - i) (by omega) (fun k k0 k1 => hn.2.2 k k0 (by omega))
      have hw := fun (q : 0 ≤ i) => (hz _ (hu q).1.1 (hu q).1.2).mp (hn.2.2 (n - 1 - i) (by omega) (by omega))
      have e60 := fun (q : 0 ≤ i) => hX.2.2.1 _ (hw q) (hu q).1.2
      have k60 : K 60 = I 60 := hK 60 (by decide)
      have k61 : K 61 = I 61 := hK 61 (by decide)
      have eu := fun (q : 0 ≤ i) => upX_s (x := x) (s := s) (show 0 ≤ n - 1 - i by omega)
      refine x_iload (i := 5) dX7_unwind_40 rfl ?_
      refine x_if_lt (tgt := 78) dX7_unwind_42 rfl (fun h42 => ?_) (fun h42 => ?_)
      · refine x_iload_n (i := 3) dX7_unwind_78 rfl rfl ?_
        refine x_iret dX7_unwind_79 rfl ?_
        exact ⟨rfl, hK, hn, hn1, fun y y0 y1 => hv y (by omega) y1⟩
      · have hu1 := hu h42
        have e1 := e60 h42
        have eu1 := eu h42
        refine x_iload (i := 5) dX7_unwind_45 rfl ?_
        refine y_aln (i := 2) dX7_unwind_47 ar86.ne0 rfl rfl ?_
        refine x_alen (t := 0) (by decide) dX7_unwind_48 ar86 (by decide) ?_
        refine x_icmp_ge (tgt := 78) dX7_unwind_49 rfl (fun h49 => ?_) (fun h49 => ?_)
        · exact absurd h49 (by omega)
        · refine y_aln (i := 2) dX7_unwind_52 ar86.ne0 rfl rfl ?_
          refine x_iload (i := 5) dX7_unwind_53 rfl ?_
          refine y_aln (i := 0) dX7_unwind_55 at56.ne0 rfl rfl ?_
          refine y_getp (z := 3) (v := 61) dX7_unwind_56 frX7_19 cfX7 at56 rfl rfl (wp (v := 61) hW rfl rfl (by decide)) ?_
          refine x_iload (i := 4) dX7_unwind_59 rfl ?_
          refine x_iald dX7_unwind_61 ar61 ⟨by omega, by omega⟩ ?_
          rw [k61, e1.2]
          refine x_iast dX7_unwind_62 ar86 ⟨by omega, by omega⟩ ?_
          refine y_aln (i := 0) dX7_unwind_63 at56.ne0 rfl rfl ?_
          refine y_getp (z := 2) (v := 60) dX7_unwind_64 frX7_16 cfX7 at56 rfl rfl (wp (v := 60) hW rfl rfl (by decide)) ?_
          refine x_iload (i := 4) dX7_unwind_67 rfl ?_
          refine x_iald dX7_unwind_69 ar60 ⟨by omega, by omega⟩ ?_
          rw [uI_ne (by decide), k60, e1.1, ← eu1]
          refine x_istore (i := 4) dX7_unwind_70 rfl (Nat.le_of_ble_eq_true rfl) ?_
          refine x_iinc dX7_unwind_72 rfl ⟨by omega, by omega⟩ rfl (Nat.le_of_ble_eq_true rfl) ?_
          refine x_goto (tgt := 40) dX7_unwind_75 rfl ?_
          refine x_keep [1, 0, 1, 1, 1, 1] ?_
          have := ih (i - 1) (uI K 86 i (codeX (howX x (upX x (n - 1 - i) s)))) (by omega) (by omega) (by omega) (fun a ha => by rw [uI_ne ha]; exact hK a ha) (fun y y0 y1 => by
            rw [uI_eq]
            by_cases q : y = i
            · rw [q, u1_eq]
            · rw [u1_ne q]; exact hv y (by omega) y1)
          rw [show n - 1 - (i - 1) = n - 1 - i + 1 by omega] at this
          exact this
  have hA : ∀ (j : Nat) (n : Int), (upX x n s).toNat < j → 0 ≤ n → (∀ k, 0 ≤ k → k < n → (howX x (upX x k s)).1 ≠ -1) → V G mX7_unwind d 0 0 5 [some (.inr (.inl 56)), some (.inl (s)), some (.inr (.inl 86)), some (.inl (n)), some (.inl (upX x n s)), none] [] NO I P (qI NO (fun v I' P' => P' = P ∧ (∀ a, a ≠ 86 → I' a = I a) ∧ dpX x s v ∧ v < 1000 ∧ ∀ i, 0 ≤ i → i < v → I' 86 i = codeX (howX x (upX x (v - 1 - i) s)))) := by
    intro j
    induction j with
    | zero => intro n hj; omega
    | succ j ih =>
      intro n hj hn hk
      have hu := upX_bd hx hs hn hk
      have zu := hz _ hu.1.1 hu.1.2
      have eu := upX_s (x := x) (s := s) hn
      have hd := fun (q : 0 < upX x n s) => hX.2.2.1 _ q hu.1.2
      have hd2 := fun (q : 0 < upX x n s) => hx.2.2.2.1 _ q hu.1.2
      refine x_iload (i := 4) dX7_unwind_5 rfl ?_
      refine x_if_le (tgt := 32) dX7_unwind_7 rfl (fun h7 => ?_) (fun h7 => ?_)
      · have dp : dpX x s n := ⟨hn, by
          by_cases q : (howX x (upX x n s)).1 = -1
          · exact q
          · have := zu.mp q; omega, hk⟩
        refine x_iload_n (i := 1) dX7_unwind_32 rfl rfl ?_
        refine x_istore (i := 4) dX7_unwind_33 rfl (Nat.le_of_ble_eq_true rfl) ?_
        refine x_iload_n (i := 3) dX7_unwind_35 rfl rfl ?_
        refine y_ic dX7_unwind_36 ⟨by decide, by decide⟩ ?_
        refine x_isub dX7_unwind_37 ⟨by omega, by omega⟩ ?_
        refine x_istore (i := 5) dX7_unwind_38 rfl (Nat.le_of_ble_eq_true rfl) ?_
        refine x_keep [1, 0, 1, 1, 1, 1] ?_
        have := hB n dp (by omega) _ (n - 1) I (Nat.lt_succ_self _) (by omega) (by omega) (fun _ _ => rfl) (fun y y0 y1 => by omega)
        rw [show n - 1 - (n - 1) = 0 by omega, upX_0] at this
        exact this
      · have d1 := hd h7
        have d2 := hd2 h7
        refine x_iload_n (i := 3) dX7_unwind_10 rfl rfl ?_
        refine y_si dX7_unwind_11 ⟨by decide, by decide⟩ ?_
        refine x_icmp_ge (tgt := 32) dX7_unwind_14 rfl (fun h14 => ?_) (fun h14 => ?_)
        · omega
        · refine x_iinc dX7_unwind_17 rfl ⟨by omega, by omega⟩ rfl (Nat.le_of_ble_eq_true rfl) ?_
          refine y_aln (i := 0) dX7_unwind_20 at56.ne0 rfl rfl ?_
          refine y_getp (z := 2) (v := 60) dX7_unwind_21 frX7_16 cfX7 at56 rfl rfl (wp (v := 60) hW rfl rfl (by decide)) ?_
          refine x_iload (i := 4) dX7_unwind_24 rfl ?_
          refine x_iald dX7_unwind_26 ar60 ⟨by omega, by omega⟩ ?_
          rw [d1.1, ← eu]
          refine x_istore (i := 4) dX7_unwind_27 rfl (Nat.le_of_ble_eq_true rfl) ?_
          refine x_goto (tgt := 5) dX7_unwind_29 rfl ?_
          refine x_keep [1, 1, 1, 1, 1, 0] ?_
          exact ih (n + 1) (by rw [eu]; omega) (by omega) (fun k k0 k1 => by
            by_cases q : k = n
            · rw [q]; exact zu.mpr h7
            · exact hk k k0 (by omega))
  refine y_ic dX7_unwind_0 ⟨by decide, by decide⟩ ?_
  refine x_istore_n (i := 3) dX7_unwind_1 rfl rfl (Nat.le_of_ble_eq_true rfl) ?_
  refine x_iload_n (i := 1) dX7_unwind_2 rfl rfl ?_
  refine x_istore (i := 4) dX7_unwind_3 rfl (Nat.le_of_ble_eq_true rfl) ?_
  refine x_keep [1, 1, 1, 1, 1, 0] ?_
  exact hA _ 0 (Nat.lt_succ_self _) (Int.le_refl 0) (fun k k0 k1 => by omega)
end

