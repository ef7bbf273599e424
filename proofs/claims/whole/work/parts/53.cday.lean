/-! ===== the class: the best trade, meetings, days, taking over ===== -/
def CBM (I : Mem) (q : Nat) (m : Bst) : Prop := I q 3 = m.1 ∧ (0 < m.1 → I q 4 = m.2.1 ∧ I q 5 = m.2.2.1 ∧ I q 6 = m.2.2.2.1 ∧ I q 7 = m.2.2.2.2)
theorem CBM.fr {I J : Mem} {q : Nat} {m : Bst} (h : CBM I q m) (hJ : J q = I q) : CBM J q m := by unfold CBM; rw [hJ]; exact h
abbrev s1 (q : Nat) : Nat → Prop := fun a => a = q
theorem uA_self {I : Mem} {a : Nat} {f g : Int → Int} (h : I a = f) : uA (uA I a g) a f = I := by rw [uA_uA, ← h, uA_id]
theorem WP.up {P : Ptr} {a k v : Nat} (h : WP P) (hs : SP a k = 0) : WP (uP P a (k : Int) v) := fun b j hb => by
  by_cases e : b = a
  · subst e
    rw [uP_eq]
    by_cases e2 : j = k
    · subst e2; exact absurd hs hb
    · rw [u1_ne (by omega)]; exact h b j hb
  · rw [uP_ne e]; exact h b j hb
theorem sp_m0 {q : Nat} (h : isM q) : SP q 0 = 0 ∧ SP q 1 = 0 := by rcases h with rfl | rfl | rfl | rfl <;> exact ⟨rfl, rfl⟩
theorem WP.mk {P : Ptr} {q t l : Nat} (h : WP P) (hq : isM q) : WP (uP (uP P q 0 t) q 1 l) := WP.up (k := 1) (WP.up (k := 0) h (sp_m0 hq).1) (sp_m0 hq).2
theorem mk_P {P : Ptr} {q t l : Nat} : uP (uP P q 0 t) q 1 l q 0 = t ∧ uP (uP P q 0 t) q 1 l q 1 = l := by
  refine ⟨?_, ?_⟩
  · rw [uP_eq, u1_ne (by decide), uP_eq, u1_eq]
  · rw [uP_eq, u1_eq]
section
variable {G : HX} {d : Nat} {I : Mem} {P : Ptr} {T : Tn}
theorem c_X3_seekBest {q t l : Nat} {a b : Int} {m : Bst} (hW : WP P) (hM : MK I P q t l T) (hF : WF T) (hr : RW T (I (q + 1))) (ha : 0 ≤ a ∧ a < T 0 1) (hb : 0 ≤ b ∧ b < T 0 1) (hab : a ≠ b) (hB : CBM I q m) (hbo : bstOK T (I (q + 1)) a b m) : Cv G mX3_seekBest (d + 1) 0 0 [.inr (.inl q), .inl a, .inl b] NO I P (qV (fun n' I' P' => n' = NO ∧ P' = P ∧ Fc (s1 q) I I' ∧ CBM I' q (looksS T (I (q + 1)) a b m))) := by
  obtain ⟨hq, hTo, hLo, hpt, hpl, hca, hcl⟩ := id hM
  have wT := wp_T hW hTo
  have wL := wp_L hW hLo
  have f1 := hF.1
  have f2 := hF.2.1
  have f3 := hF.2.2.1
  have hON := OFN_bd hF
  have hq1 := hq
  unfold isM at hq1
  have ht1 := hTo.1
  have hl1 := hLo.1
  have hW3 := bagS_bd hF hr.rc ha
  have hW4 := bagS_bd hF hr.rc hb
  refine x_enter mfX3_seekBest rfl (Nat.le_of_ble_eq_true rfl) (fun _ => ?_)
  have hL : ∀ (j : Nat) (o : Int) (J : Mem), (OFN T - o).toNat < j → 0 ≤ o → o ≤ OFN T → Fc (s1 q) I J → CBM J q (itN (fun o m => itN (fun z m => lookB T (I (q + 1)) a b o z m) (T 0 2) m) o m) → bstOK T (I (q + 1)) a b (itN (fun o m => itN (fun z m => lookB T (I (q + 1)) a b o z m) (T 0 2) m) o m) → V G mX3_seekBest (d + 1) 0 0 16 [some (.inr (.inl q)), some (.inl (a)), some (.inl (b)), some (.inl (bagS T (I (q + 1)) a)), some (.inl (bagS T (I (q + 1)) b)), some (.inl (o)), none, none, none] [] NO J P (qV (fun n' I' P' => n' = NO ∧ P' = P ∧ Fc (s1 q) I I' ∧ CBM I' q (looksS T (I (q + 1)) a b m))) := by
    intro j
    induction j with
    | zero => intro o J hj; omega
    | succ j ih =>
      intro o J hj ho ho2 hFr hBM hbk
      have emo := itN_s (fun o m => itN (fun z m => lookB T (I (q + 1)) a b o z m) (T 0 2) m) m ho
      obtain ⟨mo, hmo⟩ : ∃ mo, mo = itN (fun o m => itN (fun z m => lookB T (I (q + 1)) a b o z m) (T 0 2) m) o m := ⟨_, rfl⟩
      rw [← hmo] at hBM hbk emo
      have jr : J (q + 1) = I (q + 1) := hFr (q + 1) (by show ¬ q + 1 = q; omega)
      have j3 : J l 3 = OFN T := by rw [hFr l (by show ¬ l = q; omega)]; exact hcl.2.2.2.1
      have hMJ : MK J P q t l T := hM.fr hFr (fun x hx => by rw [show x = q from hx]; unfold inTL; omega)
      have hnext : o < OFN T → ∀ K : Mem, Fc (s1 q) I K → CBM K q (itN (fun z m => lookB T (I (q + 1)) a b o z m) (T 0 2) mo) → bstOK T (I (q + 1)) a b (itN (fun z m => lookB T (I (q + 1)) a b o z m) (T 0 2) mo) → V G mX3_seekBest (d + 1) 0 0 180 [some (.inr (.inl q)), some (.inl (a)), some (.inl (b)), some (.inl (bagS T (I (q + 1)) a)), some (.inl (bagS T (I (q + 1)) b)), some (.inl (o)), none, none, none] [] NO K P (qV (fun n' I' P' => n' = NO ∧ P' = P ∧ Fc (s1 q) I I' ∧ CBM I' q (looksS T (I (q + 1)) a b m))) := fun ho3 K h1 h2 h3 => by
        refine x_iinc dX3_seekBest_180 rfl ⟨by omega, by omega⟩ rfl (Nat.le_of_ble_eq_true rfl) ?_
        refine x_goto (tgt := 16) dX3_seekBest_183 rfl ?_
        refine x_keep [1, 1, 1, 1, 1, 1, 0, 0, 0] ?_
        exact ih (o + 1) K (by omega) (by omega) (by omega) h1 (by rw [emo]; exact h2) (by rw [emo]; exact h3)
      have hZ : o < OFN T → gvP T (I (q + 1)) a o → ∀ (j : Nat) (z : Int) (K : Mem), (T 0 2 - z).toNat < j → 0 ≤ z → z ≤ T 0 2 → Fc (s1 q) I K → CBM K q (itN (fun z m => lookB T (I (q + 1)) a b o z m) z mo) → bstOK T (I (q + 1)) a b (itN (fun z m => lookB T (I (q + 1)) a b o z m) z mo) → V G mX3_seekBest (d + 1) 0 0 44 [some (.inr (.inl q)), some (.inl (a)), some (.inl (b)), some (.inl (bagS T (I (q + 1)) a)), some (.inl (bagS T (I (q + 1)) b)), some (.inl (o)), some (.inl (z)), none, none] [] NO K P (qV (fun n' I' P' => n' = NO ∧ P' = P ∧ Fc (s1 q) I I' ∧ CBM I' q (looksS T (I (q + 1)) a b m))) := by
        intro ho3 hgv j
        induction j with
        | zero => intro z K hj; omega
        | succ j ihz =>
          intro z K hj hz hz2 hFr hBM hbk
          have emz := itN_s (fun z m => lookB T (I (q + 1)) a b o z m) mo hz
          have efin : z = T 0 2 → itN (fun z m => lookB T (I (q + 1)) a b o z m) (T 0 2) mo = itN (fun z m => lookB T (I (q + 1)) a b o z m) z mo := fun e => by rw [e]
          obtain ⟨mz, hmz⟩ : ∃ mz, mz = itN (fun z m => lookB T (I (q + 1)) a b o z m) z mo := ⟨_, rfl⟩
          rw [← hmz] at hBM hbk emz efin
          have kr : K (q + 1) = I (q + 1) := hFr (q + 1) (by show ¬ q + 1 = q; omega)
          have k1 : K t 1 = T 0 2 := by rw [hFr t (by show ¬ t = q; omega)]; exact hca.2.1
          have hMK : MK K P q t l T := hM.fr hFr (fun x hx => by rw [show x = q from hx]; unfold inTL; omega)
          have hnx : z < T 0 2 → ∀ K' : Mem, Fc (s1 q) I K' → CBM K' q (lookB T (I (q + 1)) a b o z mz) → V G mX3_seekBest (d + 1) 0 0 174 [some (.inr (.inl q)), some (.inl (a)), some (.inl (b)), some (.inl (bagS T (I (q + 1)) a)), some (.inl (bagS T (I (q + 1)) b)), some (.inl (o)), some (.inl (z)), none, none] [] NO K' P (qV (fun n' I' P' => n' = NO ∧ P' = P ∧ Fc (s1 q) I I' ∧ CBM I' q (looksS T (I (q + 1)) a b m))) := fun hz3 K' h1 h2 => by
            refine x_iinc dX3_seekBest_174 rfl ⟨by omega, by omega⟩ rfl (Nat.le_of_ble_eq_true rfl) ?_
            refine x_goto (tgt := 44) dX3_seekBest_177 rfl ?_
            refine x_keep [1, 1, 1, 1, 1, 1, 1, 0, 0] ?_
            exact ihz (z + 1) K' (by omega) (by omega) (by omega) h1 (by rw [emz]; exact h2) (by rw [emz]; exact lookB_ok hF hr ha hb hab ⟨ho, ho3⟩ ⟨hz, hz3⟩ hbk)
          have hbk0 := hbk.1
          have hbk1 := hbk.2.1
          have hB3 : K q 3 = mz.1 := hBM.1
          refine x_iload (i := 6) dX3_seekBest_44 rfl ?_
          refine y_aln (i := 0) dX3_seekBest_46 hq.at.ne0 rfl rfl ?_
          refine y_getp (z := 0) (v := t) dX3_seekBest_47 frX3_15 cfX3 hq.at rfl rfl hpt ?_
          refine y_geti (z := 1) dX3_seekBest_50 frX3_43 cfX10 hTo.at rfl rfl ?_
          refine x_icmp_ge (tgt := 180) dX3_seekBest_53 rfl (fun h53 => ?_) (fun h53 => ?_)
          · have hend := efin (by omega)
            refine x_keep [1, 1, 1, 1, 1, 1, 0, 0, 0] ?_
            exact hnext ho3 K hFr (by rw [hend]; exact hBM) (by rw [hend]; exact hbk)
          · refine y_aln (i := 0) dX3_seekBest_56 hq.at.ne0 rfl rfl ?_
            refine x_iload_n (i := 2) dX3_seekBest_57 rfl rfl ?_
            refine x_iload (i := 5) dX3_seekBest_58 rfl ?_
            refine x_iload (i := 6) dX3_seekBest_60 rfl ?_
            refine x_callVI (c_X3_canGet hW hMK hF (by omega) ⟨ho, ho3⟩ (by omega)) dX3_seekBest_62 lkX3_82 mfX3_canGet cfX3 hq.at rfl rfl rfl rfl (Nat.le_of_ble_eq_true rfl) (fun r62 I62 P62 hr62 hf62 => ?_)
            obtain ⟨i62, p62, q62⟩ := hf62
            rw [i62, p62]
            rw [kr] at q62
            refine x_if_ne (tgt := 71) dX3_seekBest_65 rfl (fun h65 => ?_) (fun h65 => ?_)
            · have hgt := (q62.resolve_right (fun q => by have := q.1; omega)).2
              have hlaw : lawP T (I (q + 1)) a b (OF T o) z := law_gg.mpr ⟨hgv, hgt⟩
              have hD := (deal_RW (γ := OF T o) hF hr ha hb hab (by omega) (OFd hF ho ho3) hlaw).rc
              have w1 := bagS_bd hF hD ha
              have w2 := bagS_bd hF hD hb
              refine y_aln (i := 0) dX3_seekBest_71 hq.at.ne0 rfl rfl ?_
              refine x_iload_n (i := 1) dX3_seekBest_72 rfl rfl ?_
              refine x_iload_n (i := 2) dX3_seekBest_73 rfl rfl ?_
              refine x_iload (i := 5) dX3_seekBest_74 rfl ?_
              refine x_iload (i := 6) dX3_seekBest_76 rfl ?_
              refine y_ic dX3_seekBest_78 ⟨by decide, by decide⟩ ?_
              refine x_callVV (c_X3_deal hW hMK hF (by rw [kr]; exact hr.rc) (by omega) (by omega) ⟨ho, ho3⟩ (by omega) (Or.inl rfl)) dX3_seekBest_79 lkX3_139 mfX3_deal cfX3 hq.at rfl rfl rfl rfl (Nat.le_of_ble_eq_true rfl) (fun n79 I79 P79 hf79 => ?_)
              obtain ⟨rfl, hI79, rfl⟩ := hf79
              rw [del_1, kr] at hI79
              have r79 : I79 (q + 1) = dealS T (I (q + 1)) a b (OF T o) z := by rw [hI79, uA_eq]
              have hM79 : MK I79 P79 q t l T := hMK.fq (by rw [hI79]; exact Fc.rf.ua (Or.inr rfl))
              refine y_aln (i := 0) dX3_seekBest_82 hq.at.ne0 rfl rfl ?_
              refine x_iload_n (i := 1) dX3_seekBest_83 rfl rfl ?_
              refine x_callVI (c_X3_bagWorth hW hM79 hF (by rw [r79]; exact hD) ha) dX3_seekBest_84 lkX3_69 mfX3_bagWorth cfX3 hq.at rfl rfl rfl rfl (Nat.le_of_ble_eq_true rfl) (fun r84 I84 P84 hr84 hf84 => ?_)
              obtain ⟨i84, p84, q84⟩ := hf84
              rw [i84, p84, q84]
              rw [r79]
              refine x_iload_n (i := 3) dX3_seekBest_87 rfl rfl ?_
              refine x_isub dX3_seekBest_88 ⟨by omega, by omega⟩ ?_
              refine x_istore (i := 7) dX3_seekBest_89 rfl (Nat.le_of_ble_eq_true rfl) ?_
              refine x_iload (i := 7) dX3_seekBest_91 rfl ?_
              refine x_if_le (tgt := 107) dX3_seekBest_93 rfl (fun h93 => ?_) (fun h93 => ?_)
              · refine y_ic dX3_seekBest_107 ⟨by decide, by decide⟩ ?_
                refine x_istore (i := 8) dX3_seekBest_108 rfl (Nat.le_of_ble_eq_true rfl) ?_
                refine y_aln (i := 0) dX3_seekBest_110 hq.at.ne0 rfl rfl ?_
                refine x_iload_n (i := 1) dX3_seekBest_111 rfl rfl ?_
                refine x_iload_n (i := 2) dX3_seekBest_112 rfl rfl ?_
                refine x_iload (i := 5) dX3_seekBest_113 rfl ?_
                refine x_iload (i := 6) dX3_seekBest_115 rfl ?_
                refine y_ic dX3_seekBest_117 ⟨by decide, by decide⟩ ?_
                refine x_callVV (c_X3_deal hW hM79 hF (by rw [r79]; exact hD) (by omega) (by omega) ⟨ho, ho3⟩ (by omega) (Or.inr rfl)) dX3_seekBest_118 lkX3_139 mfX3_deal cfX3 hq.at rfl rfl rfl rfl (Nat.le_of_ble_eq_true rfl) (fun n118 I118 P118 hf118 => ?_)
                obtain ⟨rfl, hI118, rfl⟩ := hf118
                rw [r79, del_m, hI79, uA_self kr] at hI118
                rw [hI118]
                refine x_iload (i := 7) dX3_seekBest_121 rfl ?_
                refine x_if_le (tgt := 174) dX3_seekBest_123 rfl (fun h123 => ?_) (fun h123 => ?_)
                · have el : lookB T (I (q + 1)) a b o z mz = mz := cif_neg (fun q => absurd q.2.1 (by omega))
                  refine x_keep [1, 1, 1, 1, 1, 1, 1, 0, 0] ?_
                  first | exact absurd h93 h123 | exact absurd h123 (by decide) | exact absurd h128 (by decide) | (have z1 := el; exact hnx (by omega) K hFr (by rw [el]; exact hBM)) | (have z1 := eg; refine hnx (by omega) _ (((((hFr.ui rfl).ui rfl).ui rfl).ui rfl).ui rfl) ?_; rw [eg]; exact ⟨by simp [uI_eq, u1], fun _ => ⟨by simp [uI_eq, u1], by simp [uI_eq, u1], by simp [uI_eq, u1], by simp [uI_eq, u1]⟩⟩)
                · refine x_iload (i := 8) dX3_seekBest_126 rfl ?_
                  refine x_if_le (tgt := 174) dX3_seekBest_128 rfl (fun h128 => ?_) (fun h128 => ?_)
                  · have el : lookB T (I (q + 1)) a b o z mz = mz := cif_neg (fun q => by have := q.2; omega)
                    refine x_keep [1, 1, 1, 1, 1, 1, 1, 0, 0] ?_
                    first | exact absurd h93 h123 | exact absurd h123 (by decide) | exact absurd h128 (by decide) | (have z1 := el; exact hnx (by omega) K hFr (by rw [el]; exact hBM)) | (have z1 := eg; refine hnx (by omega) _ (((((hFr.ui rfl).ui rfl).ui rfl).ui rfl).ui rfl) ?_; rw [eg]; exact ⟨by simp [uI_eq, u1], fun _ => ⟨by simp [uI_eq, u1], by simp [uI_eq, u1], by simp [uI_eq, u1], by simp [uI_eq, u1]⟩⟩)
                  · refine x_iload (i := 7) dX3_seekBest_131 rfl ?_
                    refine x_iload (i := 8) dX3_seekBest_133 rfl ?_
                    refine x_iadd dX3_seekBest_135 ⟨by omega, by omega⟩ ?_
                    refine y_aln (i := 0) dX3_seekBest_136 hq.at.ne0 rfl rfl ?_
                    refine y_geti (z := 3) dX3_seekBest_137 frX3_117 cfX3 hq.at rfl rfl ?_
                    refine x_icmp_le (tgt := 174) dX3_seekBest_140 rfl (fun h140 => ?_) (fun h140 => ?_)
                    · have el : lookB T (I (q + 1)) a b o z mz = mz := cif_neg (fun q => by have := q.2.2.2; omega)
                      refine x_keep [1, 1, 1, 1, 1, 1, 1, 0, 0] ?_
                      first | exact absurd h93 h123 | exact absurd h123 (by decide) | exact absurd h128 (by decide) | (have z1 := el; exact hnx (by omega) K hFr (by rw [el]; exact hBM)) | (have z1 := eg; refine hnx (by omega) _ (((((hFr.ui rfl).ui rfl).ui rfl).ui rfl).ui rfl) ?_; rw [eg]; exact ⟨by simp [uI_eq, u1], fun _ => ⟨by simp [uI_eq, u1], by simp [uI_eq, u1], by simp [uI_eq, u1], by simp [uI_eq, u1]⟩⟩)
                    · have eg : lookB T (I (q + 1)) a b o z mz = _ := cif_pos ⟨hlaw, by omega, by omega, by omega⟩
                      refine y_aln (i := 0) dX3_seekBest_143 hq.at.ne0 rfl rfl ?_
                      refine x_iload (i := 7) dX3_seekBest_144 rfl ?_
                      refine x_iload (i := 8) dX3_seekBest_146 rfl ?_
                      refine x_iadd dX3_seekBest_148 ⟨by omega, by omega⟩ ?_
                      refine y_puti (z := 3) dX3_seekBest_149 frX3_117 cfX3 hq.at rfl rfl rfl ?_
                      refine y_aln (i := 0) dX3_seekBest_152 hq.at.ne0 rfl rfl ?_
                      refine x_iload_n (i := 1) dX3_seekBest_153 rfl rfl ?_
                      refine y_puti (z := 4) dX3_seekBest_154 frX3_127 cfX3 hq.at rfl rfl rfl ?_
                      refine y_aln (i := 0) dX3_seekBest_157 hq.at.ne0 rfl rfl ?_
                      refine x_iload_n (i := 2) dX3_seekBest_158 rfl rfl ?_
                      refine y_puti (z := 5) dX3_seekBest_159 frX3_130 cfX3 hq.at rfl rfl rfl ?_
                      refine y_aln (i := 0) dX3_seekBest_162 hq.at.ne0 rfl rfl ?_
                      refine x_iload (i := 5) dX3_seekBest_163 rfl ?_
                      refine y_puti (z := 6) dX3_seekBest_165 frX3_133 cfX3 hq.at rfl rfl rfl ?_
                      refine y_aln (i := 0) dX3_seekBest_168 hq.at.ne0 rfl rfl ?_
                      refine x_iload (i := 6) dX3_seekBest_169 rfl ?_
                      refine y_puti (z := 7) dX3_seekBest_171 frX3_136 cfX3 hq.at rfl rfl rfl ?_
                      refine x_keep [1, 1, 1, 1, 1, 1, 1, 0, 0] ?_
                      first | exact absurd h93 h123 | exact absurd h123 (by decide) | exact absurd h128 (by decide) | (have z1 := el; exact hnx (by omega) K hFr (by rw [el]; exact hBM)) | (have z1 := eg; refine hnx (by omega) _ (((((hFr.ui rfl).ui rfl).ui rfl).ui rfl).ui rfl) ?_; rw [eg]; exact ⟨by simp [uI_eq, u1], fun _ => ⟨by simp [uI_eq, u1], by simp [uI_eq, u1], by simp [uI_eq, u1], by simp [uI_eq, u1]⟩⟩)
              · refine y_aln (i := 0) dX3_seekBest_96 hq.at.ne0 rfl rfl ?_
                refine x_iload_n (i := 2) dX3_seekBest_97 rfl rfl ?_
                refine x_callVI (c_X3_bagWorth hW hM79 hF (by rw [r79]; exact hD) hb) dX3_seekBest_98 lkX3_69 mfX3_bagWorth cfX3 hq.at rfl rfl rfl rfl (Nat.le_of_ble_eq_true rfl) (fun r98 I98 P98 hr98 hf98 => ?_)
                obtain ⟨i98, p98, q98⟩ := hf98
                rw [i98, p98, q98]
                rw [r79]
                refine x_iload (i := 4) dX3_seekBest_101 rfl ?_
                refine x_isub dX3_seekBest_103 ⟨by omega, by omega⟩ ?_
                refine x_goto (tgt := 108) dX3_seekBest_104 rfl ?_
                refine x_istore (i := 8) dX3_seekBest_108 rfl (Nat.le_of_ble_eq_true rfl) ?_
                refine y_aln (i := 0) dX3_seekBest_110 hq.at.ne0 rfl rfl ?_
                refine x_iload_n (i := 1) dX3_seekBest_111 rfl rfl ?_
                refine x_iload_n (i := 2) dX3_seekBest_112 rfl rfl ?_
                refine x_iload (i := 5) dX3_seekBest_113 rfl ?_
                refine x_iload (i := 6) dX3_seekBest_115 rfl ?_
                refine y_ic dX3_seekBest_117 ⟨by decide, by decide⟩ ?_
                refine x_callVV (c_X3_deal hW hM79 hF (by rw [r79]; exact hD) (by omega) (by omega) ⟨ho, ho3⟩ (by omega) (Or.inr rfl)) dX3_seekBest_118 lkX3_139 mfX3_deal cfX3 hq.at rfl rfl rfl rfl (Nat.le_of_ble_eq_true rfl) (fun n118 I118 P118 hf118 => ?_)
                obtain ⟨rfl, hI118, rfl⟩ := hf118
                rw [r79, del_m, hI79, uA_self kr] at hI118
                rw [hI118]
                refine x_iload (i := 7) dX3_seekBest_121 rfl ?_
                refine x_if_le (tgt := 174) dX3_seekBest_123 rfl (fun h123 => ?_) (fun h123 => ?_)
                · have el : lookB T (I (q + 1)) a b o z mz = mz := cif_neg (fun q => absurd q.2.1 (by omega))
                  refine x_keep [1, 1, 1, 1, 1, 1, 1, 0, 0] ?_
                  first | exact absurd h93 h123 | exact absurd h123 (by decide) | exact absurd h128 (by decide) | (have z1 := el; exact hnx (by omega) K hFr (by rw [el]; exact hBM)) | (have z1 := eg; refine hnx (by omega) _ (((((hFr.ui rfl).ui rfl).ui rfl).ui rfl).ui rfl) ?_; rw [eg]; exact ⟨by simp [uI_eq, u1], fun _ => ⟨by simp [uI_eq, u1], by simp [uI_eq, u1], by simp [uI_eq, u1], by simp [uI_eq, u1]⟩⟩)
                · refine x_iload (i := 8) dX3_seekBest_126 rfl ?_
                  refine x_if_le (tgt := 174) dX3_seekBest_128 rfl (fun h128 => ?_) (fun h128 => ?_)
                  · have el : lookB T (I (q + 1)) a b o z mz = mz := cif_neg (fun q => by have := q.2; omega)
                    refine x_keep [1, 1, 1, 1, 1, 1, 1, 0, 0] ?_
                    first | exact absurd h93 h123 | exact absurd h123 (by decide) | exact absurd h128 (by decide) | (have z1 := el; exact hnx (by omega) K hFr (by rw [el]; exact hBM)) | (have z1 := eg; refine hnx (by omega) _ (((((hFr.ui rfl).ui rfl).ui rfl).ui rfl).ui rfl) ?_; rw [eg]; exact ⟨by simp [uI_eq, u1], fun _ => ⟨by simp [uI_eq, u1], by simp [uI_eq, u1], by simp [uI_eq, u1], by simp [uI_eq, u1]⟩⟩)
                  · refine x_iload (i := 7) dX3_seekBest_131 rfl ?_
                    refine x_iload (i := 8) dX3_seekBest_133 rfl ?_
                    refine x_iadd dX3_seekBest_135 ⟨by omega, by omega⟩ ?_
                    refine y_aln (i := 0) dX3_seekBest_136 hq.at.ne0 rfl rfl ?_
                    refine y_geti (z := 3) dX3_seekBest_137 frX3_117 cfX3 hq.at rfl rfl ?_
                    refine x_icmp_le (tgt := 174) dX3_seekBest_140 rfl (fun h140 => ?_) (fun h140 => ?_)
                    · have el : lookB T (I (q + 1)) a b o z mz = mz := cif_neg (fun q => by have := q.2.2.2; omega)
                      refine x_keep [1, 1, 1, 1, 1, 1, 1, 0, 0] ?_
                      first | exact absurd h93 h123 | exact absurd h123 (by decide) | exact absurd h128 (by decide) | (have z1 := el; exact hnx (by omega) K hFr (by rw [el]; exact hBM)) | (have z1 := eg; refine hnx (by omega) _ (((((hFr.ui rfl).ui rfl).ui rfl).ui rfl).ui rfl) ?_; rw [eg]; exact ⟨by simp [uI_eq, u1], fun _ => ⟨by simp [uI_eq, u1], by simp [uI_eq, u1], by simp [uI_eq, u1], by simp [uI_eq, u1]⟩⟩)
                    · have eg : lookB T (I (q + 1)) a b o z mz = _ := cif_pos ⟨hlaw, by omega, by omega, by omega⟩
                      refine y_aln (i := 0) dX3_seekBest_143 hq.at.ne0 rfl rfl ?_
                      refine x_iload (i := 7) dX3_seekBest_144 rfl ?_
                      refine x_iload (i := 8) dX3_seekBest_146 rfl ?_
                      refine x_iadd dX3_seekBest_148 ⟨by omega, by omega⟩ ?_
                      refine y_puti (z := 3) dX3_seekBest_149 frX3_117 cfX3 hq.at rfl rfl rfl ?_
                      refine y_aln (i := 0) dX3_seekBest_152 hq.at.ne0 rfl rfl ?_
                      refine x_iload_n (i := 1) dX3_seekBest_153 rfl rfl ?_
                      refine y_puti (z := 4) dX3_seekBest_154 frX3_127 cfX3 hq.at rfl rfl rfl ?_
                      refine y_aln (i := 0) dX3_seekBest_157 hq.at.ne0 rfl rfl ?_
                      refine x_iload_n (i := 2) dX3_seekBest_158 rfl rfl ?_
                      refine y_puti (z := 5) dX3_seekBest_159 frX3_130 cfX3 hq.at rfl rfl rfl ?_
                      refine y_aln (i := 0) dX3_seekBest_162 hq.at.ne0 rfl rfl ?_
                      refine x_iload (i := 5) dX3_seekBest_163 rfl ?_
                      refine y_puti (z := 6) dX3_seekBest_165 frX3_133 cfX3 hq.at rfl rfl rfl ?_
                      refine y_aln (i := 0) dX3_seekBest_168 hq.at.ne0 rfl rfl ?_
                      refine x_iload (i := 6) dX3_seekBest_169 rfl ?_
                      refine y_puti (z := 7) dX3_seekBest_171 frX3_136 cfX3 hq.at rfl rfl rfl ?_
                      refine x_keep [1, 1, 1, 1, 1, 1, 1, 0, 0] ?_
                      first | exact absurd h93 h123 | exact absurd h123 (by decide) | exact absurd h128 (by decide) | (have z1 := el; exact hnx (by omega) K hFr (by rw [el]; exact hBM)) | (have z1 := eg; refine hnx (by omega) _ (((((hFr.ui rfl).ui rfl).ui rfl).ui rfl).ui rfl) ?_; rw [eg]; exact ⟨by simp [uI_eq, u1], fun _ => ⟨by simp [uI_eq, u1], by simp [uI_eq, u1], by simp [uI_eq, u1], by simp [uI_eq, u1]⟩⟩)
            · have hngt := (q62.resolve_left (fun q => by have := q.1; omega)).2
              have el : lookB T (I (q + 1)) a b o z mz = mz := cif_neg (fun q => hngt (law_gg.mp q.1).2)
              refine x_goto (tgt := 174) dX3_seekBest_68 rfl ?_
              refine x_keep [1, 1, 1, 1, 1, 1, 1, 0, 0] ?_
              first | exact absurd h93 h123 | exact absurd h123 (by decide) | exact absurd h128 (by decide) | (have z1 := el; exact hnx (by omega) K hFr (by rw [el]; exact hBM)) | (have z1 := eg; refine hnx (by omega) _ (((((hFr.ui rfl).ui rfl).ui rfl).ui rfl).ui rfl) ?_; rw [eg]; exact ⟨by simp [uI_eq, u1], fun _ => ⟨by simp [uI_eq, u1], by simp [uI_eq, u1], by simp [uI_eq, u1], by simp [uI_eq, u1]⟩⟩)
      refine x_iload (i := 5) dX3_seekBest_16 rfl ?_
      refine y_aln (i := 0) dX3_seekBest_18 hq.at.ne0 rfl rfl ?_
      refine y_getp (z := 1) (v := l) dX3_seekBest_19 frX3_25 cfX3 hq.at rfl rfl hpl ?_
      refine y_geti (z := 3) dX3_seekBest_22 frX3_143 cfX2 hLo.at rfl rfl ?_
      refine x_icmp_ge (tgt := 186) dX3_seekBest_25 rfl (fun h25 => ?_) (fun h25 => ?_)
      · refine x_vret dX3_seekBest_186 rfl ?_
        exact ⟨rfl, rfl, hFr, by unfold looksS; rw [show OFN T = o by omega, ← hmo]; exact hBM⟩
      · refine y_aln (i := 0) dX3_seekBest_28 hq.at.ne0 rfl rfl ?_
        refine x_iload_n (i := 1) dX3_seekBest_29 rfl rfl ?_
        refine x_iload (i := 5) dX3_seekBest_30 rfl ?_
        refine x_callVI (c_X3_canGive hW hMJ hF (by rw [jr]; exact hr.rc) (by omega) ⟨ho, by omega⟩) dX3_seekBest_32 lkX3_78 mfX3_canGive cfX3 hq.at rfl rfl rfl rfl (Nat.le_of_ble_eq_true rfl) (fun r32 I32 P32 hr32 hf32 => ?_)
        obtain ⟨i32, p32, q32⟩ := hf32
        rw [i32, p32]
        rw [jr] at q32
        refine x_if_ne (tgt := 41) dX3_seekBest_35 rfl (fun h35 => ?_) (fun h35 => ?_)
        · have hgv := (q32.resolve_right (fun q => by have := q.1; omega)).2
          refine y_ic dX3_seekBest_41 ⟨by decide, by decide⟩ ?_
          refine x_istore (i := 6) dX3_seekBest_42 rfl (Nat.le_of_ble_eq_true rfl) ?_
          refine x_keep [1, 1, 1, 1, 1, 1, 1, 0, 0] ?_
          exact hZ (by omega) hgv _ 0 J (Nat.lt_succ_self _) (Int.le_refl 0) (by omega) hFr (by rw [itN_0]; exact hBM) (by rw [itN_0]; exact hbk)
        · have hng := (q32.resolve_left (fun q => by have := q.1; omega)).2
          have eall : itN (fun z m => lookB T (I (q + 1)) a b o z m) (T 0 2) mo = mo := itN_inv (p := fun y => y = mo) rfl (fun z y _ _ e => by rw [e]; exact cif_neg (fun q => hng (law_gg.mp q.1).1))
          refine x_goto (tgt := 180) dX3_seekBest_38 rfl ?_
          refine x_keep [1, 1, 1, 1, 1, 1, 0, 0, 0] ?_
          exact hnext (by omega) J hFr (by rw [eall]; exact hBM) (by rw [eall]; exact hbk)
  refine y_aln (i := 0) dX3_seekBest_0 hq.at.ne0 rfl rfl ?_
  refine x_iload_n (i := 1) dX3_seekBest_1 rfl rfl ?_
  refine x_callVI (c_X3_bagWorth hW hM hF hr.rc ha) dX3_seekBest_2 lkX3_69 mfX3_bagWorth cfX3 hq.at rfl rfl rfl rfl (Nat.le_of_ble_eq_true rfl) (fun r2 I2 P2 hr2 hf2 => ?_)
  obtain ⟨i2, p2, q2⟩ := hf2
  rw [i2, p2, q2]
  refine x_istore_n (i := 3) dX3_seekBest_5 rfl rfl (Nat.le_of_ble_eq_true rfl) ?_
  refine y_aln (i := 0) dX3_seekBest_6 hq.at.ne0 rfl rfl ?_
  refine x_iload_n (i := 2) dX3_seekBest_7 rfl rfl ?_
  refine x_callVI (c_X3_bagWorth hW hM hF hr.rc hb) dX3_seekBest_8 lkX3_69 mfX3_bagWorth cfX3 hq.at rfl rfl rfl rfl (Nat.le_of_ble_eq_true rfl) (fun r8 I8 P8 hr8 hf8 => ?_)
  obtain ⟨i8, p8, q8⟩ := hf8
  rw [i8, p8, q8]
  refine x_istore (i := 4) dX3_seekBest_11 rfl (Nat.le_of_ble_eq_true rfl) ?_
  refine y_ic dX3_seekBest_13 ⟨by decide, by decide⟩ ?_
  refine x_istore (i := 5) dX3_seekBest_14 rfl (Nat.le_of_ble_eq_true rfl) ?_
  refine x_keep [1, 1, 1, 1, 1, 1, 0, 0, 0] ?_
  exact hL _ 0 I (Nat.lt_succ_self _) (Int.le_refl 0) (by omega) Fc.rf (by rw [itN_0]; exact hB) (by rw [itN_0]; exact hbo)
theorem c_X3_encounter {q t l : Nat} {a b : Int} (hW : WP P) (hM : MK I P q t l T) (hF : WF T) (hr : RW T (I (q + 1))) (ha : 0 ≤ a ∧ a < T 0 1) (hb : 0 ≤ b ∧ b < T 0 1) (hab : a ≠ b) : Cv G mX3_encounter (d + 2) 0 0 [.inr (.inl q), .inl a, .inl b] NO I P (qI NO (fun r I' P' => P' = P ∧ r = (meetS T (I (q + 1)) a b).1 ∧ I' (q + 1) = (meetS T (I (q + 1)) a b).2 ∧ Fc (sM q) I I')) := by
  have hq := hM.1
  have hq1 := hq
  unfold isM at hq1
  have hbo := meetB_ok hF hr ha hb hab
  have h0 : ∀ x y, bstOK T (I (q + 1)) x y (0, 0, 0, 0, 0) := fun x y => ⟨by show (0 : Int) ≤ 0; omega, by show (0 : Int) ≤ 152200000; omega, fun q => absurd q (by show ¬ (0 : Int) < 0; omega)⟩
  have hmn : (0 ≤ min a b ∧ min a b < T 0 1) ∧ (0 ≤ max a b ∧ max a b < T 0 1) ∧ min a b ≠ max a b := by omega
  have hb1 : bstOK T (I (q + 1)) (min a b) (max a b) (looksS T (I (q + 1)) (min a b) (max a b) (0, 0, 0, 0, 0)) := looksS_ok hF hr hmn.1 hmn.2.1 hmn.2.2 (h0 _ _)
  refine x_enter mfX3_encounter rfl (Nat.le_of_ble_eq_true rfl) (fun _ => ?_)
  have f0 : Fc (s1 q) I (uI I q 3 0) := Fc.rf.ui rfl
  have hM0 : MK (uI I q 3 0) P q t l T := hM.fq (f0.mo (fun a h => Or.inl h))
  have r0 : uI I q 3 0 (q + 1) = I (q + 1) := uI_ne (by omega)
  refine y_aln (i := 0) dX3_encounter_0 hq.at.ne0 rfl rfl ?_
  refine y_ic dX3_encounter_1 ⟨by decide, by decide⟩ ?_
  refine y_puti (z := 3) dX3_encounter_2 frX3_117 cfX3 hq.at rfl rfl rfl ?_
  refine y_aln (i := 0) dX3_encounter_5 hq.at.ne0 rfl rfl ?_
  refine x_iload_n (i := 1) dX3_encounter_6 rfl rfl ?_
  refine x_iload_n (i := 2) dX3_encounter_7 rfl rfl ?_
  refine y_min dX3_encounter_8 jkX3_72 (by omega) (Nat.le_of_ble_eq_true rfl) ?_
  refine x_iload_n (i := 1) dX3_encounter_11 rfl rfl ?_
  refine x_iload_n (i := 2) dX3_encounter_12 rfl rfl ?_
  refine y_max dX3_encounter_13 jkX3_120 (by omega) (Nat.le_of_ble_eq_true rfl) ?_
  refine x_callVV (c_X3_seekBest (m := (0, 0, 0, 0, 0)) hW hM0 hF (by rw [r0]; exact hr) hmn.1 hmn.2.1 hmn.2.2 ⟨by rw [uI_eq, u1_eq], fun q => absurd q (by show ¬ (0 : Int) < 0; omega)⟩ (by rw [r0]; exact h0 _ _)) dX3_encounter_16 lkX3_123 mfX3_seekBest cfX3 hq.at rfl rfl rfl rfl (Nat.le_of_ble_eq_true rfl) (fun n16 I16 P16 hf16 => ?_)
  rw [r0] at hf16
  obtain ⟨rfl, rfl, f16, b16⟩ := hf16
  have hM16 := hM0.fq (f16.mo (fun a h => Or.inl h))
  have r16 : I16 (q + 1) = I (q + 1) := by rw [f16 (q + 1) (by show ¬ q + 1 = q; omega)]; exact r0
  refine y_aln (i := 0) dX3_encounter_19 hq.at.ne0 rfl rfl ?_
  refine x_iload_n (i := 1) dX3_encounter_20 rfl rfl ?_
  refine x_iload_n (i := 2) dX3_encounter_21 rfl rfl ?_
  refine y_max dX3_encounter_22 jkX3_120 (by omega) (Nat.le_of_ble_eq_true rfl) ?_
  refine x_iload_n (i := 1) dX3_encounter_25 rfl rfl ?_
  refine x_iload_n (i := 2) dX3_encounter_26 rfl rfl ?_
  refine y_min dX3_encounter_27 jkX3_72 (by omega) (Nat.le_of_ble_eq_true rfl) ?_
  refine x_callVV (c_X3_seekBest hW hM16 hF (by rw [r16]; exact hr) hmn.2.1 hmn.1 (Ne.symm hmn.2.2) b16 (by rw [r16]; exact bstOK_sym hb1)) dX3_encounter_30 lkX3_123 mfX3_seekBest cfX3 hq.at rfl rfl rfl rfl (Nat.le_of_ble_eq_true rfl) (fun n30 I30 P30 hf30 => ?_)
  rw [r16] at hf30
  obtain ⟨rfl, rfl, f30, b30⟩ := hf30
  have hM30 := hM16.fq (f30.mo (fun a h => Or.inl h))
  have r30 : I30 (q + 1) = I (q + 1) := by rw [f30 (q + 1) (by show ¬ q + 1 = q; omega)]; exact r16
  have eB : looksS T (I (q + 1)) (max a b) (min a b) (looksS T (I (q + 1)) (min a b) (max a b) (0, 0, 0, 0, 0)) = meetB T (I (q + 1)) a b := rfl
  rw [eB] at b30
  have fz : Fc (sM q) I I30 := (f0.tr (f16.tr f30)).mo (fun a h => Or.inl h)
  have hbo1 := hbo.1
  have hb3 : I30 q 3 = (meetB T (I (q + 1)) a b).1 := b30.1
  refine y_aln (i := 0) dX3_encounter_33 hq.at.ne0 rfl rfl ?_
  refine y_geti (z := 3) dX3_encounter_34 frX3_117 cfX3 hq.at rfl rfl ?_
  refine x_if_le (tgt := 61) dX3_encounter_37 rfl (fun h37 => ?_) (fun h37 => ?_)
  · have en : meetS T (I (q + 1)) a b = (0, I (q + 1)) := if_neg (by omega)
    refine y_aln (i := 0) dX3_encounter_61 hq.at.ne0 rfl rfl ?_
    refine y_geti (z := 3) dX3_encounter_62 frX3_117 cfX3 hq.at rfl rfl ?_
    refine x_iret dX3_encounter_65 rfl ?_
    first | (have z1 := em; rw [em]; exact ⟨rfl, by rw [b58], by rw [hI58, uA_eq], fz.tr (by rw [hI58]; exact Fc.rf.ua (Or.inr rfl))⟩) | (have z1 := en; rw [en]; exact ⟨rfl, by show _ = (0 : Int); omega, r30, fz⟩)
  · obtain ⟨v4, v5, v6, v7⟩ := b30.2 (by omega)
    obtain ⟨w1, w2, w3, w4⟩ := hbo.2.2 (by omega)
    refine y_aln (i := 0) dX3_encounter_40 hq.at.ne0 rfl rfl ?_
    refine y_aln (i := 0) dX3_encounter_41 hq.at.ne0 rfl rfl ?_
    refine y_geti (z := 4) dX3_encounter_42 frX3_127 cfX3 hq.at rfl rfl ?_
    refine y_aln (i := 0) dX3_encounter_45 hq.at.ne0 rfl rfl ?_
    refine y_geti (z := 5) dX3_encounter_46 frX3_130 cfX3 hq.at rfl rfl ?_
    refine y_aln (i := 0) dX3_encounter_49 hq.at.ne0 rfl rfl ?_
    refine y_geti (z := 6) dX3_encounter_50 frX3_133 cfX3 hq.at rfl rfl ?_
    refine y_aln (i := 0) dX3_encounter_53 hq.at.ne0 rfl rfl ?_
    refine y_geti (z := 7) dX3_encounter_54 frX3_136 cfX3 hq.at rfl rfl ?_
    refine y_ic dX3_encounter_57 ⟨by decide, by decide⟩ ?_
    rw [v4, v5, v6, v7]
    refine x_callVV (c_X3_deal hW hM30 hF (by rw [r30]; exact hr.rc) (by have := hF.1; omega) (by have := hF.1; omega) w2 (by have := hF.2.1; omega) (Or.inl rfl)) dX3_encounter_58 lkX3_139 mfX3_deal cfX3 hq.at rfl rfl rfl rfl (Nat.le_of_ble_eq_true rfl) (fun n58 I58 P58 hf58 => ?_)
    obtain ⟨rfl, hI58, rfl⟩ := hf58
    rw [del_1, r30] at hI58
    have b58 : I58 q 3 = (meetB T (I (q + 1)) a b).1 := by rw [hI58, uA_ne (by omega)]; exact hb3
    have em : meetS T (I (q + 1)) a b = ((meetB T (I (q + 1)) a b).1, dealS T (I (q + 1)) (meetB T (I (q + 1)) a b).2.1 (meetB T (I (q + 1)) a b).2.2.1 (OF T (meetB T (I (q + 1)) a b).2.2.2.1) (meetB T (I (q + 1)) a b).2.2.2.2) := if_pos (by omega)
    refine y_aln (i := 0) dX3_encounter_61 hq.at.ne0 rfl rfl ?_
    refine y_geti (z := 3) dX3_encounter_62 frX3_117 cfX3 hq.at rfl rfl ?_
    refine x_iret dX3_encounter_65 rfl ?_
    first | (have z1 := em; rw [em]; exact ⟨rfl, by rw [b58], by rw [hI58, uA_eq], fz.tr (by rw [hI58]; exact Fc.rf.ua (Or.inr rfl))⟩) | (have z1 := en; rw [en]; exact ⟨rfl, by show _ = (0 : Int); omega, r30, fz⟩)
theorem c_X3_passDay {q t l : Nat} {w : Int} (hW : WP P) (hM : MK I P q t l T) (hF : WF T) (hr : RW T (I (q + 1))) : Cv G mX3_passDay (d + 3) 0 0 [.inr (.inl q), .inl w] NO I P (qI NO (fun r I' P' => P' = P ∧ r = (dayS T w (I (q + 1))).1 ∧ I' (q + 1) = (dayS T w (I (q + 1))).2 ∧ Fc (sM q) I I')) := by
  obtain ⟨hq, hTo, hLo, hpt, hpl, hca, hcl⟩ := id hM
  have wT := wp_T hW hTo
  have f6 := hF.2.2.2.2.2.1
  refine x_enter mfX3_passDay rfl (Nat.le_of_ble_eq_true rfl) (fun _ => ?_)
  have hL : ∀ (j : Nat) (m : Int) (K : Mem), (T 0 6 - m).toNat < j → 0 ≤ m → m ≤ T 0 6 → K (q + 1) = (itN (fun m x => dayB T w m x) m (0, I (q + 1))).2 → Fc (sM q) I K → V G mX3_passDay (d + 3) 0 0 4 [some (.inr (.inl q)), some (.inl (w)), some (.inl ((itN (fun m x => dayB T w m x) m (0, I (q + 1))).1)), some (.inl (m)), none, none, none] [] NO K P (qI NO (fun r I' P' => P' = P ∧ r = (dayS T w (I (q + 1))).1 ∧ I' (q + 1) = (dayS T w (I (q + 1))).2 ∧ Fc (sM q) I I')) := by
    intro j
    induction j with
    | zero => intro m K hj; omega
    | succ j ih =>
      intro m K hj hm hm2 hK hFr
      have hMK := hM.fq hFr
      have kca := hMK.2.2.2.2.2.1
      have e3 : K t 3 = T 0 6 := kca.2.2.2.1
      have ho := dayN_ok (w := w) hF hr hm hm2
      have es := itN_s (fun m x => dayB T w m x) ((0 : Int), I (q + 1)) hm
      obtain ⟨x, hx⟩ : ∃ x, x = itN (fun m x => dayB T w m x) m ((0 : Int), I (q + 1)) := ⟨_, rfl⟩
      rw [← hx] at ho hK es ⊢
      have next : ∀ (y : Int × Rw) (K' : Mem), y = dayB T w m x → m < T 0 6 → K' (q + 1) = y.2 → Fc (sM q) I K' → V G mX3_passDay (d + 3) 0 0 4 [some (.inr (.inl q)), some (.inl (w)), some (.inl (y.1)), some (.inl (m + 1)), none, none, none] [] NO K' P (qI NO (fun r I' P' => P' = P ∧ r = (dayS T w (I (q + 1))).1 ∧ I' (q + 1) = (dayS T w (I (q + 1))).2 ∧ Fc (sM q) I I')) := fun y K' hy hm3 h1 h2 => by
        rw [hy, ← es]
        exact ih (m + 1) K' (by omega) (by omega) (by omega) (by rw [es, ← hy]; exact h1) h2
      have hm01 := fun (z : m < T 0 6) => meet6 hF hm z
      have hmf := fun (z : m < T 0 6) => kca.2.2.2.2.2.2.2.2 m hm z
      refine x_iload_n (i := 3) dX3_passDay_4 rfl rfl ?_
      refine y_aln (i := 0) dX3_passDay_5 hq.at.ne0 rfl rfl ?_
      refine y_getp (z := 0) (v := t) dX3_passDay_6 frX3_15 cfX3 hq.at rfl rfl hpt ?_
      refine y_geti (z := 3) dX3_passDay_9 frX3_146 cfX10 hTo.at rfl rfl ?_
      refine x_icmp_ge (tgt := 81) dX3_passDay_12 rfl (fun h12 => ?_) (fun h12 => ?_)
      · refine x_iload_n (i := 2) dX3_passDay_81 rfl rfl ?_
        refine x_iret dX3_passDay_82 rfl ?_
        refine ⟨rfl, ?_, ?_, hFr⟩
        · rw [hx, show m = T 0 6 by omega]; rfl
        · rw [hK, hx, show m = T 0 6 by omega]; rfl
      · have hm3 := hm01 (by omega)
        have hmf' := hmf (by omega)
        refine y_aln (i := 0) dX3_passDay_15 hq.at.ne0 rfl rfl ?_
        refine y_getp (z := 0) (v := t) dX3_passDay_16 frX3_15 cfX3 hq.at rfl rfl hpt ?_
        refine y_getp (z := 14) (v := (t + 11)) dX3_passDay_19 frX3_149 cfX10 hTo.at rfl rfl (p10_14 wT hTo) ?_
        refine x_iload_n (i := 3) dX3_passDay_22 rfl rfl ?_
        refine x_iald dX3_passDay_23 (a10_14 hTo) ⟨by omega, by omega⟩ ?_
        rw [hmf'.1]
        refine x_istore (i := 4) dX3_passDay_24 rfl (Nat.le_of_ble_eq_true rfl) ?_
        refine y_aln (i := 0) dX3_passDay_26 hq.at.ne0 rfl rfl ?_
        refine y_getp (z := 0) (v := t) dX3_passDay_27 frX3_15 cfX3 hq.at rfl rfl hpt ?_
        refine y_getp (z := 15) (v := (t + 12)) dX3_passDay_30 frX3_152 cfX10 hTo.at rfl rfl (p10_15 wT hTo) ?_
        refine x_iload_n (i := 3) dX3_passDay_33 rfl rfl ?_
        refine x_iald dX3_passDay_34 (a10_15 hTo) ⟨by omega, by omega⟩ ?_
        rw [hmf'.2]
        refine x_istore (i := 5) dX3_passDay_35 rfl (Nat.le_of_ble_eq_true rfl) ?_
        refine x_iload (i := 4) dX3_passDay_37 rfl ?_
        refine x_iload_n (i := 1) dX3_passDay_39 rfl rfl ?_
        refine x_icmp_eq (tgt := 53) dX3_passDay_40 rfl (fun h40 => ?_) (fun h40 => ?_)
        · have nb : ¬ (T 6 (2 * m) ≠ w ∧ T 6 (2 * m + 1) ≠ w) := fun z => z.1 h40
          refine y_ic dX3_passDay_53 ⟨by decide, by decide⟩ ?_
          refine x_istore (i := 6) dX3_passDay_54 rfl (Nat.le_of_ble_eq_true rfl) ?_
          refine x_iload (i := 6) dX3_passDay_56 rfl ?_
          refine x_if_eq (tgt := 75) dX3_passDay_58 rfl (fun h58 => ?_) (fun h58 => ?_)
          · refine x_iinc dX3_passDay_75 rfl ⟨by omega, by omega⟩ rfl (Nat.le_of_ble_eq_true rfl) ?_
            refine x_goto (tgt := 4) dX3_passDay_78 rfl ?_
            refine x_keep [1, 1, 1, 1, 0, 0, 0] ?_
            first | exact absurd h58 (by decide) | exact (h58 rfl).elim | (have z1 := nb; exact next x K (by unfold dayB; rw [if_neg nb]) (by omega) hK hFr) | (have z1 := yb; exact next (x.1 + 1, _) I66 (by unfold dayB; rw [if_pos yb, if_pos (by omega)]) (by omega) o66 (hFr.tr fr66)) | (have z1 := yb; exact next (x.1, (meetS T x.2 (T 6 (2 * m)) (T 6 (2 * m + 1))).2) I66 (by unfold dayB; rw [if_pos yb, if_neg (by omega), Int.add_zero]) (by omega) o66 (hFr.tr fr66))
          · refine y_aln (i := 0) dX3_passDay_61 hq.at.ne0 rfl rfl ?_
            refine x_iload (i := 4) dX3_passDay_62 rfl ?_
            refine x_iload (i := 5) dX3_passDay_64 rfl ?_
            refine x_callVI (c_X3_encounter hW hMK hF (by rw [hK]; exact ho.1) hm3.1 hm3.2.1 hm3.2.2) dX3_passDay_66 lkX3_155 mfX3_encounter cfX3 hq.at rfl rfl rfl rfl (Nat.le_of_ble_eq_true rfl) (fun r66 I66 P66 hr66 hf66 => ?_)
            obtain ⟨rfl, p66, o66, fr66⟩ := hf66
            rw [hK] at p66 o66
            refine x_if_le (tgt := 75) dX3_passDay_69 rfl (fun h69 => ?_) (fun h69 => ?_)
            · refine x_iinc dX3_passDay_75 rfl ⟨by omega, by omega⟩ rfl (Nat.le_of_ble_eq_true rfl) ?_
              refine x_goto (tgt := 4) dX3_passDay_78 rfl ?_
              refine x_keep [1, 1, 1, 1, 0, 0, 0] ?_
              first | exact absurd h58 (by decide) | exact (h58 rfl).elim | (have z1 := nb; exact next x K (by unfold dayB; rw [if_neg nb]) (by omega) hK hFr) | (have z1 := yb; exact next (x.1 + 1, _) I66 (by unfold dayB; rw [if_pos yb, if_pos (by omega)]) (by omega) o66 (hFr.tr fr66)) | (have z1 := yb; exact next (x.1, (meetS T x.2 (T 6 (2 * m)) (T 6 (2 * m + 1))).2) I66 (by unfold dayB; rw [if_pos yb, if_neg (by omega), Int.add_zero]) (by omega) o66 (hFr.tr fr66))
            · refine x_iinc dX3_passDay_72 rfl ⟨by omega, by omega⟩ rfl (Nat.le_of_ble_eq_true rfl) ?_
              refine x_iinc dX3_passDay_75 rfl ⟨by omega, by omega⟩ rfl (Nat.le_of_ble_eq_true rfl) ?_
              refine x_goto (tgt := 4) dX3_passDay_78 rfl ?_
              refine x_keep [1, 1, 1, 1, 0, 0, 0] ?_
              first | exact absurd h58 (by decide) | exact (h58 rfl).elim | (have z1 := nb; exact next x K (by unfold dayB; rw [if_neg nb]) (by omega) hK hFr) | (have z1 := yb; exact next (x.1 + 1, _) I66 (by unfold dayB; rw [if_pos yb, if_pos (by omega)]) (by omega) o66 (hFr.tr fr66)) | (have z1 := yb; exact next (x.1, (meetS T x.2 (T 6 (2 * m)) (T 6 (2 * m + 1))).2) I66 (by unfold dayB; rw [if_pos yb, if_neg (by omega), Int.add_zero]) (by omega) o66 (hFr.tr fr66))
        · refine x_iload (i := 5) dX3_passDay_43 rfl ?_
          refine x_iload_n (i := 1) dX3_passDay_45 rfl rfl ?_
          refine x_icmp_eq (tgt := 53) dX3_passDay_46 rfl (fun h46 => ?_) (fun h46 => ?_)
          · have nb : ¬ (T 6 (2 * m) ≠ w ∧ T 6 (2 * m + 1) ≠ w) := fun z => z.2 h46
            refine y_ic dX3_passDay_53 ⟨by decide, by decide⟩ ?_
            refine x_istore (i := 6) dX3_passDay_54 rfl (Nat.le_of_ble_eq_true rfl) ?_
            refine x_iload (i := 6) dX3_passDay_56 rfl ?_
            refine x_if_eq (tgt := 75) dX3_passDay_58 rfl (fun h58 => ?_) (fun h58 => ?_)
            · refine x_iinc dX3_passDay_75 rfl ⟨by omega, by omega⟩ rfl (Nat.le_of_ble_eq_true rfl) ?_
              refine x_goto (tgt := 4) dX3_passDay_78 rfl ?_
              refine x_keep [1, 1, 1, 1, 0, 0, 0] ?_
              first | exact absurd h58 (by decide) | exact (h58 rfl).elim | (have z1 := nb; exact next x K (by unfold dayB; rw [if_neg nb]) (by omega) hK hFr) | (have z1 := yb; exact next (x.1 + 1, _) I66 (by unfold dayB; rw [if_pos yb, if_pos (by omega)]) (by omega) o66 (hFr.tr fr66)) | (have z1 := yb; exact next (x.1, (meetS T x.2 (T 6 (2 * m)) (T 6 (2 * m + 1))).2) I66 (by unfold dayB; rw [if_pos yb, if_neg (by omega), Int.add_zero]) (by omega) o66 (hFr.tr fr66))
            · refine y_aln (i := 0) dX3_passDay_61 hq.at.ne0 rfl rfl ?_
              refine x_iload (i := 4) dX3_passDay_62 rfl ?_
              refine x_iload (i := 5) dX3_passDay_64 rfl ?_
              refine x_callVI (c_X3_encounter hW hMK hF (by rw [hK]; exact ho.1) hm3.1 hm3.2.1 hm3.2.2) dX3_passDay_66 lkX3_155 mfX3_encounter cfX3 hq.at rfl rfl rfl rfl (Nat.le_of_ble_eq_true rfl) (fun r66 I66 P66 hr66 hf66 => ?_)
              obtain ⟨rfl, p66, o66, fr66⟩ := hf66
              rw [hK] at p66 o66
              refine x_if_le (tgt := 75) dX3_passDay_69 rfl (fun h69 => ?_) (fun h69 => ?_)
              · refine x_iinc dX3_passDay_75 rfl ⟨by omega, by omega⟩ rfl (Nat.le_of_ble_eq_true rfl) ?_
                refine x_goto (tgt := 4) dX3_passDay_78 rfl ?_
                refine x_keep [1, 1, 1, 1, 0, 0, 0] ?_
                first | exact absurd h58 (by decide) | exact (h58 rfl).elim | (have z1 := nb; exact next x K (by unfold dayB; rw [if_neg nb]) (by omega) hK hFr) | (have z1 := yb; exact next (x.1 + 1, _) I66 (by unfold dayB; rw [if_pos yb, if_pos (by omega)]) (by omega) o66 (hFr.tr fr66)) | (have z1 := yb; exact next (x.1, (meetS T x.2 (T 6 (2 * m)) (T 6 (2 * m + 1))).2) I66 (by unfold dayB; rw [if_pos yb, if_neg (by omega), Int.add_zero]) (by omega) o66 (hFr.tr fr66))
              · refine x_iinc dX3_passDay_72 rfl ⟨by omega, by omega⟩ rfl (Nat.le_of_ble_eq_true rfl) ?_
                refine x_iinc dX3_passDay_75 rfl ⟨by omega, by omega⟩ rfl (Nat.le_of_ble_eq_true rfl) ?_
                refine x_goto (tgt := 4) dX3_passDay_78 rfl ?_
                refine x_keep [1, 1, 1, 1, 0, 0, 0] ?_
                first | exact absurd h58 (by decide) | exact (h58 rfl).elim | (have z1 := nb; exact next x K (by unfold dayB; rw [if_neg nb]) (by omega) hK hFr) | (have z1 := yb; exact next (x.1 + 1, _) I66 (by unfold dayB; rw [if_pos yb, if_pos (by omega)]) (by omega) o66 (hFr.tr fr66)) | (have z1 := yb; exact next (x.1, (meetS T x.2 (T 6 (2 * m)) (T 6 (2 * m + 1))).2) I66 (by unfold dayB; rw [if_pos yb, if_neg (by omega), Int.add_zero]) (by omega) o66 (hFr.tr fr66))
          · have yb : T 6 (2 * m) ≠ w ∧ T 6 (2 * m + 1) ≠ w := ⟨by omega, by omega⟩
            refine y_ic dX3_passDay_49 ⟨by decide, by decide⟩ ?_
            refine x_goto (tgt := 54) dX3_passDay_50 rfl ?_
            refine x_istore (i := 6) dX3_passDay_54 rfl (Nat.le_of_ble_eq_true rfl) ?_
            refine x_iload (i := 6) dX3_passDay_56 rfl ?_
            refine x_if_eq (tgt := 75) dX3_passDay_58 rfl (fun h58 => ?_) (fun h58 => ?_)
            · refine x_iinc dX3_passDay_75 rfl ⟨by omega, by omega⟩ rfl (Nat.le_of_ble_eq_true rfl) ?_
              refine x_goto (tgt := 4) dX3_passDay_78 rfl ?_
              refine x_keep [1, 1, 1, 1, 0, 0, 0] ?_
              first | exact absurd h58 (by decide) | exact (h58 rfl).elim | (have z1 := nb; exact next x K (by unfold dayB; rw [if_neg nb]) (by omega) hK hFr) | (have z1 := yb; exact next (x.1 + 1, _) I66 (by unfold dayB; rw [if_pos yb, if_pos (by omega)]) (by omega) o66 (hFr.tr fr66)) | (have z1 := yb; exact next (x.1, (meetS T x.2 (T 6 (2 * m)) (T 6 (2 * m + 1))).2) I66 (by unfold dayB; rw [if_pos yb, if_neg (by omega), Int.add_zero]) (by omega) o66 (hFr.tr fr66))
            · refine y_aln (i := 0) dX3_passDay_61 hq.at.ne0 rfl rfl ?_
              refine x_iload (i := 4) dX3_passDay_62 rfl ?_
              refine x_iload (i := 5) dX3_passDay_64 rfl ?_
              refine x_callVI (c_X3_encounter hW hMK hF (by rw [hK]; exact ho.1) hm3.1 hm3.2.1 hm3.2.2) dX3_passDay_66 lkX3_155 mfX3_encounter cfX3 hq.at rfl rfl rfl rfl (Nat.le_of_ble_eq_true rfl) (fun r66 I66 P66 hr66 hf66 => ?_)
              obtain ⟨rfl, p66, o66, fr66⟩ := hf66
              rw [hK] at p66 o66
              refine x_if_le (tgt := 75) dX3_passDay_69 rfl (fun h69 => ?_) (fun h69 => ?_)
              · refine x_iinc dX3_passDay_75 rfl ⟨by omega, by omega⟩ rfl (Nat.le_of_ble_eq_true rfl) ?_
                refine x_goto (tgt := 4) dX3_passDay_78 rfl ?_
                refine x_keep [1, 1, 1, 1, 0, 0, 0] ?_
                first | exact absurd h58 (by decide) | exact (h58 rfl).elim | (have z1 := nb; exact next x K (by unfold dayB; rw [if_neg nb]) (by omega) hK hFr) | (have z1 := yb; exact next (x.1 + 1, _) I66 (by unfold dayB; rw [if_pos yb, if_pos (by omega)]) (by omega) o66 (hFr.tr fr66)) | (have z1 := yb; exact next (x.1, (meetS T x.2 (T 6 (2 * m)) (T 6 (2 * m + 1))).2) I66 (by unfold dayB; rw [if_pos yb, if_neg (by omega), Int.add_zero]) (by omega) o66 (hFr.tr fr66))
              · refine x_iinc dX3_passDay_72 rfl ⟨by omega, by omega⟩ rfl (Nat.le_of_ble_eq_true rfl) ?_
                refine x_iinc dX3_passDay_75 rfl ⟨by omega, by omega⟩ rfl (Nat.le_of_ble_eq_true rfl) ?_
                refine x_goto (tgt := 4) dX3_passDay_78 rfl ?_
                refine x_keep [1, 1, 1, 1, 0, 0, 0] ?_
                first | exact absurd h58 (by decide) | exact (h58 rfl).elim | (have z1 := nb; exact next x K (by unfold dayB; rw [if_neg nb]) (by omega) hK hFr) | (have z1 := yb; exact next (x.1 + 1, _) I66 (by unfold dayB; rw [if_pos yb, if_pos (by omega)]) (by omega) o66 (hFr.tr fr66)) | (have z1 := yb; exact next (x.1, (meetS T x.2 (T 6 (2 * m)) (T 6 (2 * m + 1))).2) I66 (by unfold dayB; rw [if_pos yb, if_neg (by omega), Int.add_zero]) (by omega) o66 (hFr.tr fr66))
  refine y_ic dX3_passDay_0 ⟨by decide, by decide⟩ ?_
  refine x_istore_n (i := 2) dX3_passDay_1 rfl rfl (Nat.le_of_ble_eq_true rfl) ?_
  refine y_ic dX3_passDay_2 ⟨by decide, by decide⟩ ?_
  refine x_istore_n (i := 3) dX3_passDay_3 rfl rfl (Nat.le_of_ble_eq_true rfl) ?_
  refine x_keep [1, 1, 1, 1, 0, 0, 0] ?_
  exact hL _ 0 _ (Nat.lt_succ_self _) (by omega) (by omega) rfl Fc.rf
theorem c_X3_passOrdered {q t l c : Nat} {k : Int} (hW : WP P) (hM : MK I P q t l T) (hF : WF T) (hr : RW T (I (q + 1))) (hc : AR NO c 20 5) (hcq : ¬ sM q c) (hk : k = T 0 6) (h5 : T 0 6 ≤ 5) (hpm : PM (T 0 6) (I c)) : Cv G mX3_passOrdered (d + 3) 0 0 [.inr (.inl q), .inr (.inl c), .inl k] NO I P (qV (fun n' I' P' => n' = NO ∧ P' = P ∧ I' (q + 1) = playS T (I c) k (I (q + 1)) ∧ Fc (sM q) I I')) := by
  obtain ⟨hq, hTo, hLo, hpt, hpl, hca, hcl⟩ := id hM
  have wT := wp_T hW hTo
  have f6 := hF.2.2.2.2.2.1
  refine x_enter mfX3_passOrdered rfl (Nat.le_of_ble_eq_true rfl) (fun _ => ?_)
  have hL : ∀ (j : Nat) (i : Int) (K : Mem), (k - i).toNat < j → 0 ≤ i → i ≤ k → K (q + 1) = playS T (I c) i (I (q + 1)) → Fc (sM q) I K → V G mX3_passOrdered (d + 3) 0 0 2 [some (.inr (.inl q)), some (.inr (.inl c)), some (.inl (k)), some (.inl (i)), none] [] NO K P (qV (fun n' I' P' => n' = NO ∧ P' = P ∧ I' (q + 1) = playS T (I c) k (I (q + 1)) ∧ Fc (sM q) I I')) := by
    intro j
    induction j with
    | zero => intro i K hj; omega
    | succ j ih =>
      intro i K hj hi hi2 hK hFr
      have hMK := hM.fq hFr
      have kca := hMK.2.2.2.2.2.1
      have kc : K c = I c := hFr c hcq
      have ho := playS_ok hF hpm hr (k := i) (by omega)
      have es := playS_s (T := T) (q := I c) (r := I (q + 1)) hi
      have hqi := fun (z : i < k) => hpm.1 i hi (by omega)
      have hm01 := fun (z : i < k) => meet6 hF (hqi z).1 (hqi z).2
      have hmf := fun (z : i < k) => kca.2.2.2.2.2.2.2.2 (I c i) (hqi z).1 (hqi z).2
      refine x_iload_n (i := 3) dX3_passOrdered_2 rfl rfl ?_
      refine x_iload_n (i := 2) dX3_passOrdered_3 rfl rfl ?_
      refine x_icmp_ge (tgt := 49) dX3_passOrdered_4 rfl (fun h4 => ?_) (fun h4 => ?_)
      · refine x_vret dX3_passOrdered_49 rfl ?_
        exact ⟨rfl, rfl, by rw [hK, show i = k by omega], hFr⟩
      · refine x_iload_n (i := 3) dX3_passOrdered_7 rfl rfl ?_
        refine y_aln (i := 1) dX3_passOrdered_8 hc.ne0 rfl rfl ?_
        refine x_alen (t := 0) (by decide) dX3_passOrdered_9 hc (by decide) ?_
        refine x_icmp_ge (tgt := 49) dX3_passOrdered_10 rfl (fun h10 => ?_) (fun h10 => ?_)
        · exact absurd h10 (by omega)
        · have hqi' := hqi (by omega)
          have hm3 := hm01 (by omega)
          have hmf' := hmf (by omega)
          refine y_aln (i := 1) dX3_passOrdered_13 hc.ne0 rfl rfl ?_
          refine x_iload_n (i := 3) dX3_passOrdered_14 rfl rfl ?_
          refine x_iald dX3_passOrdered_15 hc ⟨by omega, by omega⟩ ?_
          rw [kc]
          refine x_istore (i := 4) dX3_passOrdered_16 rfl (Nat.le_of_ble_eq_true rfl) ?_
          refine y_aln (i := 0) dX3_passOrdered_18 hq.at.ne0 rfl rfl ?_
          refine y_aln (i := 0) dX3_passOrdered_19 hq.at.ne0 rfl rfl ?_
          refine y_getp (z := 0) (v := t) dX3_passOrdered_20 frX3_15 cfX3 hq.at rfl rfl hpt ?_
          refine y_getp (z := 14) (v := (t + 11)) dX3_passOrdered_23 frX3_149 cfX10 hTo.at rfl rfl (p10_14 wT hTo) ?_
          refine x_iload (i := 4) dX3_passOrdered_26 rfl ?_
          refine x_iald dX3_passOrdered_28 (a10_14 hTo) ⟨by omega, by omega⟩ ?_
          rw [hmf'.1]
          refine y_aln (i := 0) dX3_passOrdered_29 hq.at.ne0 rfl rfl ?_
          refine y_getp (z := 0) (v := t) dX3_passOrdered_30 frX3_15 cfX3 hq.at rfl rfl hpt ?_
          refine y_getp (z := 15) (v := (t + 12)) dX3_passOrdered_33 frX3_152 cfX10 hTo.at rfl rfl (p10_15 wT hTo) ?_
          refine x_iload (i := 4) dX3_passOrdered_36 rfl ?_
          refine x_iald dX3_passOrdered_38 (a10_15 hTo) ⟨by omega, by omega⟩ ?_
          rw [hmf'.2]
          refine x_callVI (c_X3_encounter hW hMK hF (by rw [hK]; exact ho) hm3.1 hm3.2.1 hm3.2.2) dX3_passOrdered_39 lkX3_155 mfX3_encounter cfX3 hq.at rfl rfl rfl rfl (Nat.le_of_ble_eq_true rfl) (fun r39 I39 P39 hr39 hf39 => ?_)
          obtain ⟨rfl, p39, o39, fr39⟩ := hf39
          rw [hK] at o39
          refine x_pop dX3_passOrdered_42 rfl ?_
          refine x_iinc dX3_passOrdered_43 rfl ⟨by omega, by omega⟩ rfl (Nat.le_of_ble_eq_true rfl) ?_
          refine x_goto (tgt := 2) dX3_passOrdered_46 rfl ?_
          refine x_keep [1, 1, 1, 1, 0] ?_
          exact ih (i + 1) I39 (by omega) (by omega) (by omega) (by rw [es]; exact o39) (hFr.tr fr39)
  refine y_ic dX3_passOrdered_0 ⟨by decide, by decide⟩ ?_
  refine x_istore_n (i := 3) dX3_passOrdered_1 rfl rfl (Nat.le_of_ble_eq_true rfl) ?_
  refine x_keep [1, 1, 1, 1, 0] ?_
  exact hL _ 0 _ (Nat.lt_succ_self _) (by omega) (by omega) rfl Fc.rf
theorem c_X3_passAllDays {q t l : Nat} (hW : WP P) (hM : MK I P q t l T) (hF : WF T) (hr : RW T (I (q + 1))) : Cv G mX3_passAllDays (d + 4) 0 0 [.inr (.inl q)] NO I P (qI NO (fun r I' P' => P' = P ∧ r = (endN T 60 (I (q + 1))).1 ∧ I' (q + 1) = (endN T 60 (I (q + 1))).2 ∧ Fc (sM q) I I')) := by
  have hq := hM.1
  refine x_enter mfX3_passAllDays rfl (Nat.le_of_ble_eq_true rfl) (fun _ => ?_)
  have hL : ∀ (f : Nat) (k : Int) (K : Mem), k + f = 60 → 0 ≤ k → RW T (K (q + 1)) → (endN T 60 (I (q + 1))).1 = k + (endN T f (K (q + 1))).1 → (endN T 60 (I (q + 1))).2 = (endN T f (K (q + 1))).2 → Fc (sM q) I K → V G mX3_passAllDays (d + 4) 0 0 2 [some (.inr (.inl q)), some (.inl (k))] [] NO K P (qI NO (fun r I' P' => P' = P ∧ r = (endN T 60 (I (q + 1))).1 ∧ I' (q + 1) = (endN T 60 (I (q + 1))).2 ∧ Fc (sM q) I I')) := by
    intro f
    induction f with
    | zero =>
      intro k K hk hk0 hR h1 h2 hFr
      refine x_iload_n (i := 1) dX3_passAllDays_2 rfl rfl ?_
      refine y_bi dX3_passAllDays_3 ⟨by decide, by decide⟩ ?_
      refine x_icmp_ge (tgt := 24) dX3_passAllDays_5 rfl (fun h5 => ?_) (fun h5 => ?_)
      · refine y_bi dX3_passAllDays_24 ⟨by decide, by decide⟩ ?_
        refine x_iret dX3_passAllDays_26 rfl ?_
        exact ⟨rfl, by rw [h1]; show 60 = k + 0; omega, by rw [h2]; rfl, hFr⟩
      · omega
    | succ f ih =>
      intro k K hk hk0 hR h1 h2 hFr
      have hMK := hM.fq hFr
      have hd := dayS_ok (w := -1) hF hR
      refine x_iload_n (i := 1) dX3_passAllDays_2 rfl rfl ?_
      refine y_bi dX3_passAllDays_3 ⟨by decide, by decide⟩ ?_
      refine x_icmp_ge (tgt := 24) dX3_passAllDays_5 rfl (fun h5 => ?_) (fun h5 => ?_)
      · omega
      · refine y_aln (i := 0) dX3_passAllDays_8 hq.at.ne0 rfl rfl ?_
        refine y_ic dX3_passAllDays_9 ⟨by decide, by decide⟩ ?_
        refine x_callVI (c_X3_passDay hW hMK hF hR) dX3_passAllDays_10 lkX3_158 mfX3_passDay cfX3 hq.at rfl rfl rfl rfl (Nat.le_of_ble_eq_true rfl) (fun r10 I10 P10 hr10 hf10 => ?_)
        obtain ⟨rfl, p10, o10, fr10⟩ := hf10
        refine x_if_ne (tgt := 18) dX3_passAllDays_13 rfl (fun h13 => ?_) (fun h13 => ?_)
        · refine x_iinc dX3_passAllDays_18 rfl ⟨by omega, by omega⟩ rfl (Nat.le_of_ble_eq_true rfl) ?_
          refine x_goto (tgt := 2) dX3_passAllDays_21 rfl ?_
          refine x_keep [1, 1] ?_
          rw [endN_p (f := f) (r := K (q + 1)) (by omega)] at h1 h2
          exact ih (k + 1) I10 (by omega) (by omega) (by rw [o10]; exact hd.1) (by rw [h1, o10]; show k + (_ + 1) = _; omega) (by rw [h2, o10]) (hFr.tr fr10)
        · refine x_iload_n (i := 1) dX3_passAllDays_16 rfl rfl ?_
          refine x_iret dX3_passAllDays_17 rfl ?_
          rw [endN_q (f := f) (r := K (q + 1)) (by omega)] at h1 h2
          exact ⟨rfl, by rw [h1]; show k = k + 0; omega, by rw [h2, o10], hFr.tr fr10⟩
  refine y_ic dX3_passAllDays_0 ⟨by decide, by decide⟩ ?_
  refine x_istore_n (i := 1) dX3_passAllDays_1 rfl rfl (Nat.le_of_ble_eq_true rfl) ?_
  refine x_keep [1, 1] ?_
  exact hL 60 0 I rfl (by decide) hr (by omega) rfl Fc.rf
theorem c_X3_takeRow {q q2 t l c : Nat} (hW : WP P) (hq : isM q) (hM : MK I P q2 t l T) (hne : q ≠ q2) (hc : AR NO c 20 48) (hcq : c ≠ q + 1) : Cv G mX3_takeRow d 0 0 [.inr (.inl q), .inr (.inl q2), .inr (.inl c)] NO I P (qV (fun n' I' P' => n' = NO ∧ P' = uP (uP P q 0 t) q 1 l ∧ I' = uA I (q + 1) (fun j => if 0 ≤ j ∧ j < 48 then I c j else I (q + 1) j))) := by
  obtain ⟨hq2, hTo, hLo, hpt, hpl, hca, hcl⟩ := id hM
  have hW2 : WP (uP (uP P q 0 t) q 1 l) := hW.mk hq
  have hpl2 : uP P q 0 t q2 1 = l := by rw [uP_ne (Ne.symm hne)]; exact hpl
  refine x_enter mfX3_takeRow rfl (Nat.le_of_ble_eq_true rfl) (fun _ => ?_)
  have hL : ∀ (j : Nat) (k : Int) (J : Mem), (48 - k).toNat < j → 0 ≤ k → k ≤ 48 → (∀ x, J (q + 1) x = if 0 ≤ x ∧ x < k then I c x else I (q + 1) x) → (∀ y, y ≠ q + 1 → J y = I y) → V G mX3_takeRow d 0 0 18 [some (.inr (.inl q)), none, some (.inr (.inl c)), some (.inl (k))] [] NO J (uP (uP P q 0 t) q 1 l) (qV (fun n' I' P' => n' = NO ∧ P' = uP (uP P q 0 t) q 1 l ∧ I' = uA I (q + 1) (fun j => if 0 ≤ j ∧ j < 48 then I c j else I (q + 1) j))) := by
    intro j
    induction j with
    | zero => intro k J hj; omega
    | succ j ih =>
      intro k J hj hk hk2 hJ hJ2
      have jc : J c = I c := hJ2 c hcq
      refine x_iload_n (i := 3) dX3_takeRow_18 rfl rfl ?_
      refine y_bi dX3_takeRow_19 ⟨by decide, by decide⟩ ?_
      refine x_icmp_ge (tgt := 45) dX3_takeRow_21 rfl (fun h21 => ?_) (fun h21 => ?_)
      · refine x_vret dX3_takeRow_45 rfl ?_
        exact ⟨rfl, rfl, mem_eq (fun x => by rw [hJ, show k = 48 by omega]) hJ2⟩
      · refine x_iload_n (i := 3) dX3_takeRow_24 rfl rfl ?_
        refine y_aln (i := 2) dX3_takeRow_25 hc.ne0 rfl rfl ?_
        refine x_alen (t := 0) (by decide) dX3_takeRow_26 hc (by decide) ?_
        refine x_icmp_ge (tgt := 45) dX3_takeRow_27 rfl (fun h27 => ?_) (fun h27 => ?_)
        · exact absurd h27 (by omega)
        · refine y_aln (i := 0) dX3_takeRow_30 hq.at.ne0 rfl rfl ?_
          refine y_getp (z := 2) (v := (q + 1)) dX3_takeRow_31 frX3_9 cfX3 hq.at rfl rfl (p3_2 hW2 hq) ?_
          refine x_iload_n (i := 3) dX3_takeRow_34 rfl rfl ?_
          refine y_aln (i := 2) dX3_takeRow_35 hc.ne0 rfl rfl ?_
          refine x_iload_n (i := 3) dX3_takeRow_36 rfl rfl ?_
          refine x_iald dX3_takeRow_37 hc ⟨by omega, by omega⟩ ?_
          rw [jc]
          refine x_iast dX3_takeRow_38 (a3_2 hq) ⟨by omega, by omega⟩ ?_
          refine x_iinc dX3_takeRow_39 rfl ⟨by omega, by omega⟩ rfl (Nat.le_of_ble_eq_true rfl) ?_
          refine x_goto (tgt := 18) dX3_takeRow_42 rfl ?_
          refine x_keep [1, 0, 1, 1] ?_
          refine ih (k + 1) _ (by omega) (by omega) (by omega) (fun x => ?_) (fun y hy => by rw [uI_ne hy]; exact hJ2 y hy)
          rw [uI_eq]
          by_cases e : x = k
          · rw [e, u1_eq, if_pos (by omega)]
          · rw [u1_ne e, hJ]
            by_cases q1 : 0 ≤ x ∧ x < k
            · rw [if_pos q1, if_pos (by omega)]
            · rw [if_neg q1, if_neg (by omega)]
  refine y_aln (i := 0) dX3_takeRow_0 hq.at.ne0 rfl rfl ?_
  refine y_aln (i := 1) dX3_takeRow_1 hq2.at.ne0 rfl rfl ?_
  refine y_getp (z := 0) (v := t) dX3_takeRow_2 frX3_15 cfX3 hq2.at rfl rfl hpt ?_
  refine y_putp (z := 0) dX3_takeRow_5 frX3_15 cfX3 hq.at rfl rfl rfl ?_
  refine y_aln (i := 0) dX3_takeRow_8 hq.at.ne0 rfl rfl ?_
  refine y_aln (i := 1) dX3_takeRow_9 hq2.at.ne0 rfl rfl ?_
  refine y_getp (z := 1) (v := l) dX3_takeRow_10 frX3_25 cfX3 hq2.at rfl rfl hpl2 ?_
  refine y_putp (z := 1) dX3_takeRow_13 frX3_25 cfX3 hq.at rfl rfl rfl ?_
  refine y_ic dX3_takeRow_16 ⟨by decide, by decide⟩ ?_
  refine x_istore_n (i := 3) dX3_takeRow_17 rfl rfl (Nat.le_of_ble_eq_true rfl) ?_
  refine x_keep [1, 0, 1, 1] ?_
  exact hL _ 0 I (Nat.lt_succ_self _) (by decide) (by decide) (fun x => by rw [if_neg (by omega)]) (fun _ _ => rfl)
theorem c_X3_take {q q2 t l : Nat} (hW : WP P) (hq : isM q) (hM : MK I P q2 t l T) (hne : q ≠ q2) : Cv G mX3_take (d + 1) 0 0 [.inr (.inl q), .inr (.inl q2)] NO I P (qV (fun n' I' P' => n' = NO ∧ P' = uP (uP P q 0 t) q 1 l ∧ I' = uA I (q + 1) (fun j => if 0 ≤ j ∧ j < 48 then I (q2 + 1) j else I (q + 1) j))) := by
  have hq2 := hM.1
  refine x_enter mfX3_take rfl (Nat.le_of_ble_eq_true rfl) (fun _ => ?_)
  refine y_aln (i := 0) dX3_take_0 hq.at.ne0 rfl rfl ?_
  refine y_aln (i := 1) dX3_take_1 hq2.at.ne0 rfl rfl ?_
  refine y_aln (i := 1) dX3_take_2 hq2.at.ne0 rfl rfl ?_
  refine y_getp (z := 2) (v := (q2 + 1)) dX3_take_3 frX3_9 cfX3 hq2.at rfl rfl (p3_2 hW hq2) ?_
  refine x_callVV (c_X3_takeRow hW hq hM hne (a3_2 hq2) (by omega)) dX3_take_6 lkX3_35 mfX3_takeRow cfX3 hq.at rfl rfl rfl rfl (Nat.le_of_ble_eq_true rfl) (fun n6 I6 P6 hf6 => ?_)
  obtain ⟨rfl, h1, h2⟩ := hf6
  refine x_vret dX3_take_9 rfl ?_
  exact ⟨rfl, h1, h2⟩
theorem c_X3_takeBag {q q2 t l c : Nat} {p : Int} (hW : WP P) (hq : isM q) (hM : MK I P q2 t l T) (hne : q ≠ q2) (hc : AR NO c 20 8) (hp : 0 ≤ p ∧ p < 6) : Cv G mX3_takeBag (d + 1) 0 0 [.inr (.inl q), .inr (.inl q2), .inl p, .inr (.inl c)] NO I P (qV (fun n' I' P' => n' = NO ∧ P' = uP (uP P q 0 t) q 1 l ∧ Fc (s1 (q + 1)) I I' ∧ ∀ x, 0 ≤ x → x < 48 → I' (q + 1) x = if 8 * p ≤ x ∧ x < 8 * p + 8 then I c (x - 8 * p) else I (q2 + 1) x)) := by
  have hq2 := hM.1
  have hW2 : WP (uP (uP P q 0 t) q 1 l) := hW.mk hq
  have hcq : c ≠ q + 1 := hc.ne (a3_2 hq) (by decide)
  refine x_enter mfX3_takeBag rfl (Nat.le_of_ble_eq_true rfl) (fun _ => ?_)
  have hL : ∀ (j : Nat) (k : Int) (J : Mem), (8 - k).toNat < j → 0 ≤ k → k ≤ 8 → (∀ x, 0 ≤ x → x < 48 → J (q + 1) x = if 8 * p ≤ x ∧ x < 8 * p + k then I c (x - 8 * p) else I (q2 + 1) x) → Fc (s1 (q + 1)) I J → V G mX3_takeBag (d + 1) 0 0 18 [some (.inr (.inl q)), none, none, some (.inr (.inl c)), some (.inl (8 * p)), some (.inl (k))] [] NO J (uP (uP P q 0 t) q 1 l) (qV (fun n' I' P' => n' = NO ∧ P' = uP (uP P q 0 t) q 1 l ∧ Fc (s1 (q + 1)) I I' ∧ ∀ x, 0 ≤ x → x < 48 → I' (q + 1) x = if 8 * p ≤ x ∧ x < 8 * p + 8 then I c (x - 8 * p) else I (q2 + 1) x)) := by
    intro j
    induction j with
    | zero => intro k J hj; omega
    | succ j ih =>
      intro k J hj hk hk2 hJ hFr
      have jc : J c = I c := hFr c hcq
      refine x_iload (i := 5) dX3_takeBag_18 rfl ?_
      refine y_bi dX3_takeBag_20 ⟨by decide, by decide⟩ ?_
      refine x_icmp_ge (tgt := 45) dX3_takeBag_22 rfl (fun h22 => ?_) (fun h22 => ?_)
      · refine x_vret dX3_takeBag_45 rfl ?_
        exact ⟨rfl, rfl, hFr, fun x x0 x1 => by rw [hJ x x0 x1, show k = 8 by omega]⟩
      · refine y_aln (i := 0) dX3_takeBag_25 hq.at.ne0 rfl rfl ?_
        refine y_getp (z := 2) (v := (q + 1)) dX3_takeBag_26 frX3_9 cfX3 hq.at rfl rfl (p3_2 hW2 hq) ?_
        refine x_iload (i := 4) dX3_takeBag_29 rfl ?_
        refine x_iload (i := 5) dX3_takeBag_31 rfl ?_
        refine x_iadd dX3_takeBag_33 ⟨by omega, by omega⟩ ?_
        refine y_aln (i := 3) dX3_takeBag_34 hc.ne0 rfl rfl ?_
        refine x_iload (i := 5) dX3_takeBag_35 rfl ?_
        refine x_iald dX3_takeBag_37 hc ⟨by omega, by omega⟩ ?_
        rw [jc]
        refine x_iast dX3_takeBag_38 (a3_2 hq) ⟨by omega, by omega⟩ ?_
        refine x_iinc dX3_takeBag_39 rfl ⟨by omega, by omega⟩ rfl (Nat.le_of_ble_eq_true rfl) ?_
        refine x_goto (tgt := 18) dX3_takeBag_42 rfl ?_
        refine x_keep [1, 0, 0, 1, 1, 1] ?_
        refine ih (k + 1) _ (by omega) (by omega) (by omega) (fun x x0 x1 => ?_) (hFr.ui rfl)
        rw [uI_eq]
        by_cases e : x = 8 * p + k
        · rw [e, u1_eq, if_pos (by omega), show 8 * p + k - 8 * p = k by omega]
        · rw [u1_ne e, hJ x x0 x1]
          by_cases q1 : 8 * p ≤ x ∧ x < 8 * p + k
          · rw [if_pos q1, if_pos (by omega)]
          · rw [if_neg q1, if_neg (by omega)]
  refine y_aln (i := 0) dX3_takeBag_0 hq.at.ne0 rfl rfl ?_
  refine y_aln (i := 1) dX3_takeBag_1 hq2.at.ne0 rfl rfl ?_
  refine y_aln (i := 1) dX3_takeBag_2 hq2.at.ne0 rfl rfl ?_
  refine y_getp (z := 2) (v := (q2 + 1)) dX3_takeBag_3 frX3_9 cfX3 hq2.at rfl rfl (p3_2 hW hq2) ?_
  refine x_callVV (c_X3_takeRow hW hq hM hne (a3_2 hq2) (by omega)) dX3_takeBag_6 lkX3_35 mfX3_takeRow cfX3 hq.at rfl rfl rfl rfl (Nat.le_of_ble_eq_true rfl) (fun n6 I6 P6 hf6 => ?_)
  obtain ⟨rfl, rfl, hI6⟩ := hf6
  refine x_iload_n (i := 2) dX3_takeBag_9 rfl rfl ?_
  refine y_bi dX3_takeBag_10 ⟨by decide, by decide⟩ ?_
  refine x_imul dX3_takeBag_12 ⟨by omega, by omega⟩ ?_
  rw [Int.mul_comm p 8]
  refine x_istore (i := 4) dX3_takeBag_13 rfl (Nat.le_of_ble_eq_true rfl) ?_
  refine y_ic dX3_takeBag_15 ⟨by decide, by decide⟩ ?_
  refine x_istore (i := 5) dX3_takeBag_16 rfl (Nat.le_of_ble_eq_true rfl) ?_
  refine x_keep [1, 0, 0, 1, 1, 1] ?_
  exact hL _ 0 I6 (Nat.lt_succ_self _) (by decide) (by decide) (fun x x0 x1 => by rw [hI6, uA_eq, if_pos ⟨x0, x1⟩, if_neg (by omega)]) (by rw [hI6]; exact Fc.rf.ua rfl)
theorem c_X3_settleIn {q t : Nat} (hW : WP P) (hq : isM q) (hTo : isT NO t) : Cv G mX3_settleIn (d + 2) 0 0 [.inr (.inl q), .inr (.inl t)] NO I P (qV (fun n' I' P' => n' = NO ∧ P' = uP (uP P q 0 t) q 1 (t + 13) ∧ I' = uA I (q + 1) (fun j => if 0 ≤ j ∧ j < 48 then I (t + 1) j else I (q + 1) j))) := by
  have hW2 : WP (uP (uP P q 0 t) q 1 (t + 13)) := hW.mk hq
  have wT0 := wp_T hW hTo
  have wT := wp_T hW2 hTo
  have hx : uP P q 0 t t 16 = t + 13 := by
    have h1 := hTo.1
    have h2 := hq
    unfold isM at h2
    rw [uP_ne (by omega)]
    exact wT0.2.2.2.2.2.2.2.2.2.2.2.2.1
  refine x_enter mfX3_settleIn rfl (Nat.le_of_ble_eq_true rfl) (fun _ => ?_)
  refine y_aln (i := 0) dX3_settleIn_0 hq.at.ne0 rfl rfl ?_
  refine y_aln (i := 1) dX3_settleIn_1 hTo.at.ne0 rfl rfl ?_
  refine y_putp (z := 0) dX3_settleIn_2 frX3_15 cfX3 hq.at rfl rfl rfl ?_
  refine y_aln (i := 0) dX3_settleIn_5 hq.at.ne0 rfl rfl ?_
  refine y_aln (i := 1) dX3_settleIn_6 hTo.at.ne0 rfl rfl ?_
  refine y_getp (z := 16) (v := t+13) dX3_settleIn_7 frX3_19 cfX10 hTo.at rfl rfl hx ?_
  refine y_putp (z := 1) dX3_settleIn_10 frX3_25 cfX3 hq.at rfl rfl rfl ?_
  refine y_aln (i := 1) dX3_settleIn_13 hTo.at.ne0 rfl rfl ?_
  refine y_getp (z := 4) (v := (t + 1)) dX3_settleIn_14 frX3_26 cfX10 hTo.at rfl rfl (p10_4 wT hTo) ?_
  refine y_ic dX3_settleIn_17 ⟨by decide, by decide⟩ ?_
  refine y_aln (i := 0) dX3_settleIn_18 hq.at.ne0 rfl rfl ?_
  refine y_getp (z := 2) (v := (q + 1)) dX3_settleIn_19 frX3_9 cfX3 hq.at rfl rfl (p3_2 hW2 hq) ?_
  refine y_ic dX3_settleIn_22 ⟨by decide, by decide⟩ ?_
  refine y_bi dX3_settleIn_23 ⟨by decide, by decide⟩ ?_
  refine x_copy (own := "") dX3_settleIn_25 jkX3_29 rfl (a10_4 hTo) (a3_2 hq) (by omega) (by omega) (by omega) (by omega) (by omega) rfl (by omega) ?_
  refine x_vret dX3_settleIn_28 rfl ?_
  exact ⟨rfl, rfl, by congr 1; funext j; rw [Int.sub_zero, Int.zero_add, Int.zero_add]⟩
end

