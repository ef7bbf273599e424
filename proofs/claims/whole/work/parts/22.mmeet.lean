/-! ===== the reference: meetings, days ===== -/
def BM (T : Tn) (I : Mem) (m : Bst) : Prop := I 91 70 = m.1 ∧ (0 < m.1 → I 91 71 = m.2.1 ∧ I 91 72 = m.2.2.1 ∧ I 91 73 = m.2.2.2.2 ∧ ∀ j, 0 ≤ j → j < T 0 3 → I 128 j = OF T m.2.2.2.1 j)
abbrev frS : List Nat := [111, 112, 128]
abbrev frF : List Int := [70, 71, 72, 73]
theorem OF8 {T : Tn} (h : WF T) {o j : Int} (ho : 0 ≤ o ∧ o < OFN T) (h0 : 0 ≤ j) (hj : j < T 0 3) : 0 ≤ OF T o j ∧ OF T o j < 8 := by
  have := OF_bd h ho.1 ho.2 h0 (by have := h.2.2.1; omega)
  have := h.2.1
  omega
theorem MT.ua {I : Mem} {T : Tn} {a : Nat} {f : Int → Int} (h : MT I T) (ha : a < 91 ∨ 97 < a) : MT (uA I a f) T := by
  obtain ⟨h0, h1, h2, h3, h4, h5, h6⟩ := h
  exact ⟨fun k q1 q2 => by rw [uA_ne (by omega)]; exact h0 k q1 q2, by rw [uA_ne (by omega)]; exact h1, by rw [uA_ne (by omega)]; exact h2, by rw [uA_ne (by omega)]; exact h3, by rw [uA_ne (by omega)]; exact h4, by rw [uA_ne (by omega)]; exact h5, by rw [uA_ne (by omega)]; exact h6⟩
theorem MT.uf {I : Mem} {T : Tn} {k v : Int} (h : MT I T) (hk : k < 1 ∨ 7 < k) : MT (uI I 91 k v) T := by
  obtain ⟨h0, h1, h2, h3, h4, h5, h6⟩ := h
  exact ⟨fun j q1 q2 => by rw [uI_eq, u1_ne (by omega)]; exact h0 j q1 q2, by rw [uI_ne (by omega)]; exact h1, by rw [uI_ne (by omega)]; exact h2, by rw [uI_ne (by omega)]; exact h3, by rw [uI_ne (by omega)]; exact h4, by rw [uI_ne (by omega)]; exact h5, by rw [uI_ne (by omega)]; exact h6⟩
section
variable {G : HX} {d : Nat} {I : Mem} {P : Ptr} {T : Tn}
theorem c_X12_looks {of : Nat} {a b : Int} {m : Bst} (hW : WP P) (hT : MT I T) (hF : WF T) (hA : AR NO of 20 48) (n112 : of ≠ 112) (hr : RW T (I of)) (ha : 0 ≤ a ∧ a < T 0 1) (hb : 0 ≤ b ∧ b < T 0 1) (hab : a ≠ b) (hB : BM T I m) (hbo : bstOK T (I of) a b m) : Cv G mX12_looks (d + 2) 0 0 [.inr (.inl 91), .inr (.inl of), .inl a, .inl b] NO I P (qV (fun n I' P' => n = NO ∧ P' = P ∧ Fr frS frF I I' ∧ BM T I' (looksS T (I of) a b m))) := by
  have f1 := hF.1
  have f2 := hF.2.1
  have f3 := hF.2.2.1
  have n91 : of ≠ 91 := hA.na at91 (by decide)
  have nS : of ∉ frS := by
    have h1 := hA.ne ar111 (by decide)
    have h2 := hA.ne ar128 (by decide)
    simp [frS, h1, h2, n112]
  refine x_enter mfX12_looks rfl (Nat.le_of_ble_eq_true rfl) (fun _ => ?_)
  have hL : ∀ (j : Nat) (o more : Int) (J : Mem), (OFN T - o).toNat < j → 0 ≤ o → o ≤ OFN T → ((more = 1 ∧ o < OFN T ∧ ∀ j, 0 ≤ j → j < T 0 3 → J 111 j = OF T o j) ∨ (more = 0 ∧ o = OFN T)) → Fr frS frF I J → BM T J (itN (fun o m => itN (fun z m => lookB T (I of) a b o z m) (T 0 2) m) o m) → bstOK T (I of) a b (itN (fun o m => itN (fun z m => lookB T (I of) a b o z m) (T 0 2) m) o m) → V G mX12_looks (d + 2) 0 0 23 [some (.inr (.inl 91)), some (.inr (.inl of)), some (.inl (a)), some (.inl (b)), some (.inl (bagS T (I of) a)), some (.inl (bagS T (I of) b)), some (.inl (more)), none, none, none] [] NO J P (qV (fun n I' P' => n = NO ∧ P' = P ∧ Fr frS frF I I' ∧ BM T I' (looksS T (I of) a b m))) := by
    intro j
    induction j with
    | zero => intro o more J hj; omega
    | succ j ih =>
      intro o more J hj ho ho2 hmore hFr hBM hbk
      obtain ⟨mo, hmo⟩ : ∃ mo, mo = itN (fun o m => itN (fun z m => lookB T (I of) a b o z m) (T 0 2) m) o m := ⟨_, rfl⟩
      rw [← hmo] at hBM hbk
      have hZ : ∀ (j : Nat) (z : Int) (K : Mem), (T 0 2 - z).toNat < j → more = 1 → 0 ≤ z → z ≤ T 0 2 → (∀ j, 0 ≤ j → j < T 0 3 → K 111 j = OF T o j) → Fr frS frF I K → BM T K (itN (fun z m => lookB T (I of) a b o z m) z mo) → bstOK T (I of) a b (itN (fun z m => lookB T (I of) a b o z m) z mo) → V G mX12_looks (d + 2) 0 0 31 [some (.inr (.inl 91)), some (.inr (.inl of)), some (.inl (a)), some (.inl (b)), some (.inl (bagS T (I of) a)), some (.inl (bagS T (I of) b)), none, some (.inl (z)), none, none] [] NO K P (qV (fun n I' P' => n = NO ∧ P' = P ∧ Fr frS frF I I' ∧ BM T I' (looksS T (I of) a b m))) := by
        intro j
        induction j with
        | zero => intro z K hj; omega
        | succ j ihz =>
          intro z K hj hm1 hz hz2 hg hFr hBM hbk
          have ho3 : 0 ≤ o ∧ o < OFN T := ⟨ho, by omega⟩
          have hTK := hT.fr hFr
          have eo : K of = I of := hFr.1 of n91 nS
          have hg8 : ∀ j, 0 ≤ j → j < T 0 3 → 0 ≤ K 111 j ∧ K 111 j < 8 := fun j h0 h1 => by rw [hg j h0 h1]; exact OF8 hF ho3 h0 h1
          have e2 : K 91 2 = T 0 2 := hTK.1 2 (by decide) (by decide)
          obtain ⟨mz, hmz⟩ : ∃ mz, mz = itN (fun z m => lookB T (I of) a b o z m) z mo := ⟨_, rfl⟩
          have emz := itN_s (fun z m => lookB T (I of) a b o z m) mo hz
          rw [← hmz] at hBM hbk emz
          have hgO : ∀ k, 0 ≤ k → k < T 0 3 → 0 ≤ OF T o k ∧ OF T o k < T 0 2 := fun k h0 h1 => OF_bd hF ho ho3.2 h0 (by omega)
          have stay : (¬ (lawP T (I of) a b (OF T o) z ∧ 0 < bagS T (dealS T (I of) a b (OF T o) z) a - bagS T (I of) a ∧ 0 < bagS T (dealS T (I of) a b (OF T o) z) b - bagS T (I of) b ∧ mz.1 < (bagS T (dealS T (I of) a b (OF T o) z) a - bagS T (I of) a) + (bagS T (dealS T (I of) a b (OF T o) z) b - bagS T (I of) b))) → z < T 0 2 → ∀ K' : Mem, (∀ j, 0 ≤ j → j < T 0 3 → K' 111 j = OF T o j) → Fr frS frF I K' → BM T K' mz → V G mX12_looks (d + 2) 0 0 31 [some (.inr (.inl 91)), some (.inr (.inl of)), some (.inl (a)), some (.inl (b)), some (.inl (bagS T (I of) a)), some (.inl (bagS T (I of) b)), none, some (.inl (z + 1)), none, none] [] NO K' P (qV (fun n I' P' => n = NO ∧ P' = P ∧ Fr frS frF I I' ∧ BM T I' (looksS T (I of) a b m))) := fun q hz3 K' h1 h2 h3 => by
            have el : lookB T (I of) a b o z mz = mz := by unfold lookB; rw [cif_neg q]
            exact ihz (z + 1) K' (by omega) hm1 (by omega) (by omega) h1 h2 (by rw [emz, el]; exact h3) (by rw [emz, el]; exact hbk)
          refine x_iload (i := 7) dX12_looks_31 rfl ?_
          refine y_aln (i := 0) dX12_looks_33 at91.ne0 rfl rfl ?_
          refine y_geti (z := 2) dX12_looks_34 frX12_7 cfX12 at91 rfl rfl ?_
          refine x_icmp_ge (tgt := 172) dX12_looks_37 rfl (fun h37 => ?_) (fun h37 => ?_)
          · refine y_aln (i := 0) dX12_looks_172 at91.ne0 rfl rfl ?_
            refine x_callVI (c_X12_turns hW hTK hF hg8) dX12_looks_173 lkX12_443 mfX12_turns cfX12 at91 rfl rfl rfl rfl (Nat.le_of_ble_eq_true rfl) (fun r173 I173 P173 hr173 hf173 => ?_)
            have hmz2 : mz = itN (fun z m => lookB T (I of) a b o z m) (T 0 2) mo := by rw [hmz, show z = T 0 2 by omega]
            have emo := itN_s (fun o m => itN (fun z m => lookB T (I of) a b o z m) (T 0 2) m) m ho
            rw [← hmo, ← hmz2] at emo
            obtain ⟨p173, ⟨h1, h2, h3⟩ | ⟨h1, k, k0, k1, k2, k3, h4⟩⟩ := hf173
            · rw [p173, h2, h1]
              refine x_istore (i := 6) dX12_looks_176 rfl (Nat.le_of_ble_eq_true rfl) ?_
              refine x_goto (tgt := 23) dX12_looks_178 rfl ?_
              refine x_keep [1, 1, 1, 1, 1, 1, 1, 0, 0, 0] ?_
              have := OF_none hF ho ho3.2 (fun j h0 hj => by rw [← hg j h0 hj]; exact h3 j h0 hj)
              exact ih (o + 1) 0 _ (by omega) (by omega) (by omega) (Or.inr ⟨rfl, this⟩) hFr (by rw [emo]; exact hBM) (by rw [emo]; exact hbk)
            · rw [p173, h1]
              refine x_istore (i := 6) dX12_looks_176 rfl (Nat.le_of_ble_eq_true rfl) ?_
              refine x_goto (tgt := 23) dX12_looks_178 rfl ?_
              refine x_keep [1, 1, 1, 1, 1, 1, 1, 0, 0, 0] ?_
              have := OF_some hF ho ho3.2 k0 k1 (fun j h0 hj => by rw [← hg j (by omega) hj]; exact k3 j h0 hj) (by rw [← hg k k0 k1]; exact k2)
              refine ih (o + 1) 1 _ (by omega) (by omega) (by omega) (Or.inl ⟨rfl, this.1, fun j h0 hj => ?_⟩) (by rw [h4]; exact hFr.ua (by decide) (by decide)) ?_ (by rw [emo]; exact hbk)
              · rw [h4, uA_eq, this.2 j h0 hj]
                by_cases q : j < k
                · rw [if_pos q, if_neg (by omega)]; exact hg j h0 hj
                · rw [if_neg q, if_pos (by omega), hg k k0 k1]
              · rw [emo, h4]
                unfold BM
                rw [uA_ne (by decide), uA_ne (by decide)]
                exact hBM
            done -- END
          · refine y_aln (i := 0) dX12_looks_40 at91.ne0 rfl rfl ?_
            refine y_aln (i := 1) dX12_looks_41 hA.ne0 rfl rfl ?_
            refine x_iload_n (i := 2) dX12_looks_42 rfl rfl ?_
            refine x_iload_n (i := 3) dX12_looks_43 rfl rfl ?_
            refine x_iload (i := 7) dX12_looks_44 rfl ?_
            refine x_callVI (c_X12_isLawful hW hTK hF hA (by rw [eo]; exact hr.rc) (by omega) (by omega) (by omega) hg8) dX12_looks_46 lkX12_385 mfX12_isLawful cfX12 at91 rfl rfl rfl rfl (Nat.le_of_ble_eq_true rfl) (fun r46 I46 P46 hr46 hf46 => ?_)
            obtain ⟨i46, p46, q46⟩ := hf46
            rw [i46, p46]
            have hl := q46
            rw [eo, lawP_congr hg] at hl
            refine x_if_ne (tgt := 55) dX12_looks_49 rfl (fun h49 => ?_) (fun h49 => ?_)
            · refine y_aln (i := 0) dX12_looks_55 at91.ne0 rfl rfl ?_
              refine y_aln (i := 1) dX12_looks_56 hA.ne0 rfl rfl ?_
              refine y_aln (i := 0) dX12_looks_57 at91.ne0 rfl rfl ?_
              refine y_getp (z := 46) (v := 112) dX12_looks_58 frX12_84 cfX12 at91 rfl rfl (wp (v := 112) hW rfl rfl (by decide)) ?_
              refine x_callVV (c_X12_copies hA ar112 n112 (by decide) (by decide)) dX12_looks_61 lkX12_328 mfX12_copies cfX12 at91 rfl rfl rfl rfl (Nat.le_of_ble_eq_true rfl) (fun n61 I61 P61 hf61 => ?_)
              obtain ⟨rfl, hI61, rfl⟩ := hf61
              have hlaw : lawP T (I of) a b (OF T o) z := hl.elim (fun h => h.2) (fun h => absurd h.1 (by omega))
              have q112 : ∀ c, 0 ≤ c → c < 48 → I61 112 c = I of c := fun c h0 h1 => by rw [hI61, uA_eq, if_pos (by omega), eo]
              have q111 : I61 111 = K 111 := by rw [hI61, uA_ne (by decide)]
              have hT61 : MT I61 T := by rw [hI61]; exact hTK.ua (by decide)
              have hFr61 : Fr frS frF I I61 := by rw [hI61]; exact hFr.ua (by decide) (by decide)
              refine y_aln (i := 0) dX12_looks_64 at91.ne0 rfl rfl ?_
              refine y_aln (i := 0) dX12_looks_65 at91.ne0 rfl rfl ?_
              refine y_getp (z := 46) (v := 112) dX12_looks_66 frX12_84 cfX12 at91 rfl rfl (wp (v := 112) hW rfl rfl (by decide)) ?_
              refine x_iload_n (i := 2) dX12_looks_69 rfl rfl ?_
              refine x_iload_n (i := 3) dX12_looks_70 rfl rfl ?_
              refine x_iload (i := 7) dX12_looks_71 rfl ?_
              refine x_callVV (c_X12_trades hW hT61 hF ar112 (fun c h0 h1 => by rw [q112 c h0 h1]; exact hr.rc c h0 h1) (by omega) (by omega) (by omega) (by rw [q111]; exact hg8)) dX12_looks_73 lkX12_389 mfX12_trades cfX12 at91 rfl rfl rfl rfl (Nat.le_of_ble_eq_true rfl) (fun n73 I73 P73 hf73 => ?_)
              obtain ⟨rfl, hI73, rfl⟩ := hf73
              have hT73 : MT I73 T := by rw [hI73]; exact hT61.ua (by decide)
              have hFr73 : Fr frS frF I I73 := by rw [hI73]; exact hFr61.ua (by decide) (by decide)
              have q73 : ∀ c, 0 ≤ c → c < 48 → I73 112 c = dealS T (I of) a b (OF T o) z c := fun c h0 h1 => by
                rw [hI73, uA_eq, q111, dealS_congr hF hg]
                unfold dealS
                rw [q112 c h0 h1]
              have hD := (deal_RW (γ := OF T o) hF hr ha hb hab (by omega) hgO hlaw).rc
              have hrc73 : RC (I73 112) := fun c h0 h1 => by rw [q73 c h0 h1]; exact hD c h0 h1
              have eba : bagS T (I73 112) a = bagS T (dealS T (I of) a b (OF T o) z) a := bagS_congr hF ha (fun s h0 h1 => q73 _ (by omega) (by omega))
              have ebb : bagS T (I73 112) b = bagS T (dealS T (I of) a b (OF T o) z) b := bagS_congr hF hb (fun s h0 h1 => q73 _ (by omega) (by omega))
              have w1 := bagS_bd hF hrc73 ha
              have w2 := bagS_bd hF hrc73 hb
              have w3 := bagS_bd hF hr.rc ha
              have w4 := bagS_bd hF hr.rc hb
              have q73g : ∀ j, 0 ≤ j → j < T 0 3 → I73 111 j = OF T o j := fun j h0 h1 => by rw [hI73, uA_ne (by decide), q111]; exact hg j h0 h1
              have hBM73 : BM T I73 mz := by
                have e91 : I73 91 = K 91 := by rw [hI73, uA_ne (by decide), hI61, uA_ne (by decide)]
                have e128 : I73 128 = K 128 := by rw [hI73, uA_ne (by decide), hI61, uA_ne (by decide)]
                unfold BM
                rw [e91, e128]
                exact hBM
              have e70 := hBM73.1
              refine y_aln (i := 0) dX12_looks_76 at91.ne0 rfl rfl ?_
              refine y_aln (i := 0) dX12_looks_77 at91.ne0 rfl rfl ?_
              refine y_getp (z := 46) (v := 112) dX12_looks_78 frX12_84 cfX12 at91 rfl rfl (wp (v := 112) hW rfl rfl (by decide)) ?_
              refine x_iload_n (i := 2) dX12_looks_81 rfl rfl ?_
              refine x_callVI (c_X12_bagOf hW hT73 hF ar112 hrc73 ha) dX12_looks_82 lkX12_351 mfX12_bagOf cfX12 at91 rfl rfl rfl rfl (Nat.le_of_ble_eq_true rfl) (fun r82 I82 P82 hr82 hf82 => ?_)
              obtain ⟨i82, p82, q82⟩ := hf82
              rw [i82, p82, q82]
              rw [eba] at w1 ⊢
              refine x_iload (i := 4) dX12_looks_85 rfl ?_
              refine x_isub dX12_looks_87 ⟨by omega, by omega⟩ ?_
              refine x_istore (i := 8) dX12_looks_88 rfl (Nat.le_of_ble_eq_true rfl) ?_
              refine y_aln (i := 0) dX12_looks_90 at91.ne0 rfl rfl ?_
              refine y_aln (i := 0) dX12_looks_91 at91.ne0 rfl rfl ?_
              refine y_getp (z := 46) (v := 112) dX12_looks_92 frX12_84 cfX12 at91 rfl rfl (wp (v := 112) hW rfl rfl (by decide)) ?_
              refine x_iload_n (i := 3) dX12_looks_95 rfl rfl ?_
              refine x_callVI (c_X12_bagOf hW hT73 hF ar112 hrc73 hb) dX12_looks_96 lkX12_351 mfX12_bagOf cfX12 at91 rfl rfl rfl rfl (Nat.le_of_ble_eq_true rfl) (fun r96 I96 P96 hr96 hf96 => ?_)
              obtain ⟨i96, p96, q96⟩ := hf96
              rw [i96, p96, q96]
              rw [ebb] at w2 ⊢
              have hbk0 := hbk.1
              have hbk1 := hbk.2.1
              refine x_iload (i := 5) dX12_looks_99 rfl ?_
              refine x_isub dX12_looks_101 ⟨by omega, by omega⟩ ?_
              refine x_istore (i := 9) dX12_looks_102 rfl (Nat.le_of_ble_eq_true rfl) ?_
              refine x_iload (i := 8) dX12_looks_104 rfl ?_
              refine x_if_le (tgt := 166) dX12_looks_106 rfl (fun h106 => ?_) (fun h106 => ?_)
              · refine x_iinc dX12_looks_166 rfl ⟨by omega, by omega⟩ rfl (Nat.le_of_ble_eq_true rfl) ?_
                refine x_goto (tgt := 31) dX12_looks_169 rfl ?_
                refine x_keep [1, 1, 1, 1, 1, 1, 0, 1, 0, 0] ?_
                first | exact stay (fun q => hl.elim (fun h => absurd h.1 (by omega)) (fun h => h.2 q.1)) (by omega) _ hg hFr hBM | exact stay (fun q => by have := q.2; omega) (by omega) _ q73g hFr73 hBM73
              · refine x_iload (i := 9) dX12_looks_109 rfl ?_
                refine x_if_le (tgt := 166) dX12_looks_111 rfl (fun h111 => ?_) (fun h111 => ?_)
                · refine x_iinc dX12_looks_166 rfl ⟨by omega, by omega⟩ rfl (Nat.le_of_ble_eq_true rfl) ?_
                  refine x_goto (tgt := 31) dX12_looks_169 rfl ?_
                  refine x_keep [1, 1, 1, 1, 1, 1, 0, 1, 0, 0] ?_
                  first | exact stay (fun q => hl.elim (fun h => absurd h.1 (by omega)) (fun h => h.2 q.1)) (by omega) _ hg hFr hBM | exact stay (fun q => by have := q.2; omega) (by omega) _ q73g hFr73 hBM73
                · refine x_iload (i := 8) dX12_looks_114 rfl ?_
                  refine x_iload (i := 9) dX12_looks_116 rfl ?_
                  refine x_iadd dX12_looks_118 ⟨by omega, by omega⟩ ?_
                  refine y_aln (i := 0) dX12_looks_119 at91.ne0 rfl rfl ?_
                  refine y_geti (z := 70) dX12_looks_120 frX12_463 cfX12 at91 rfl rfl ?_
                  refine x_icmp_gt (tgt := 129) dX12_looks_123 rfl (fun h123 => ?_) (fun h123 => ?_)
                  · refine y_aln (i := 0) dX12_looks_129 at91.ne0 rfl rfl ?_
                    refine x_iload (i := 8) dX12_looks_130 rfl ?_
                    refine x_iload (i := 9) dX12_looks_132 rfl ?_
                    refine x_iadd dX12_looks_134 ⟨by omega, by omega⟩ ?_
                    refine y_puti (z := 70) dX12_looks_135 frX12_463 cfX12 at91 rfl rfl rfl ?_
                    refine y_aln (i := 0) dX12_looks_138 at91.ne0 rfl rfl ?_
                    refine x_iload_n (i := 2) dX12_looks_139 rfl rfl ?_
                    refine y_puti (z := 71) dX12_looks_140 frX12_466 cfX12 at91 rfl rfl rfl ?_
                    refine y_aln (i := 0) dX12_looks_143 at91.ne0 rfl rfl ?_
                    refine x_iload_n (i := 3) dX12_looks_144 rfl rfl ?_
                    refine y_puti (z := 72) dX12_looks_145 frX12_469 cfX12 at91 rfl rfl rfl ?_
                    refine y_aln (i := 0) dX12_looks_148 at91.ne0 rfl rfl ?_
                    refine x_iload (i := 7) dX12_looks_149 rfl ?_
                    refine y_puti (z := 73) dX12_looks_151 frX12_472 cfX12 at91 rfl rfl rfl ?_
                    refine y_aln (i := 0) dX12_looks_154 at91.ne0 rfl rfl ?_
                    refine y_aln (i := 0) dX12_looks_155 at91.ne0 rfl rfl ?_
                    refine y_getp (z := 45) (v := 111) dX12_looks_156 frX12_81 cfX12 at91 rfl rfl (wp (v := 111) hW rfl rfl (by decide)) ?_
                    refine y_aln (i := 0) dX12_looks_159 at91.ne0 rfl rfl ?_
                    refine y_getp (z := 74) (v := 128) dX12_looks_160 frX12_133 cfX12 at91 rfl rfl (wp (v := 128) hW rfl rfl (by decide)) ?_
                    refine x_callVV (c_X12_copies ar111 ar128 (by decide) (by decide) (by decide)) dX12_looks_163 lkX12_328 mfX12_copies cfX12 at91 rfl rfl rfl rfl (Nat.le_of_ble_eq_true rfl) (fun n163 I163 P163 hf163 => ?_)
                    obtain ⟨rfl, hI163, rfl⟩ := hf163
                    have el : lookB T (I of) a b o z mz = _ := cif_pos ⟨hlaw, by omega, by omega, by omega⟩
                    have hFr163 : Fr frS frF I I163 := by rw [hI163]; exact ((((hFr73.uf (by decide)).uf (by decide)).uf (by decide)).uf (by decide)).ua (by decide) (by decide)
                    have e111 : I163 111 = I73 111 := by rw [hI163, uA_ne (by decide), uI_ne (by decide), uI_ne (by decide), uI_ne (by decide), uI_ne (by decide)]
                    have hnew : BM T I163 ((bagS T (dealS T (I of) a b (OF T o) z) a - bagS T (I of) a) + (bagS T (dealS T (I of) a b (OF T o) z) b - bagS T (I of) b), a, b, o, z) := by
                      rw [hI163]
                      refine ⟨by rw [uA_ne (by decide)]; simp [uI_eq, u1], fun _ => ⟨by rw [uA_ne (by decide)]; simp [uI_eq, u1], by rw [uA_ne (by decide)]; simp [uI_eq, u1], by rw [uA_ne (by decide)]; simp [uI_eq, u1], fun j h0 h1 => ?_⟩⟩
                      rw [uA_eq, if_pos (by omega), uI_ne (by decide), uI_ne (by decide), uI_ne (by decide), uI_ne (by decide)]
                      exact q73g j h0 h1
                    refine x_iinc dX12_looks_166 rfl ⟨by omega, by omega⟩ rfl (Nat.le_of_ble_eq_true rfl) ?_
                    refine x_goto (tgt := 31) dX12_looks_169 rfl ?_
                    refine x_keep [1, 1, 1, 1, 1, 1, 0, 1, 0, 0] ?_
                    exact ihz (z + 1) I163 (by omega) hm1 (by omega) (by omega) (fun j h0 h1 => by rw [e111]; exact q73g j h0 h1) hFr163 (by rw [emz, el]; exact hnew) (by rw [emz]; exact lookB_ok hF hr ha hb hab ho3 ⟨hz, by omega⟩ hbk)
                    done -- END
                  · refine x_goto (tgt := 166) dX12_looks_126 rfl ?_
                    refine x_iinc dX12_looks_166 rfl ⟨by omega, by omega⟩ rfl (Nat.le_of_ble_eq_true rfl) ?_
                    refine x_goto (tgt := 31) dX12_looks_169 rfl ?_
                    refine x_keep [1, 1, 1, 1, 1, 1, 0, 1, 0, 0] ?_
                    first | exact stay (fun q => hl.elim (fun h => absurd h.1 (by omega)) (fun h => h.2 q.1)) (by omega) _ hg hFr hBM | exact stay (fun q => by have := q.2; omega) (by omega) _ q73g hFr73 hBM73
            · refine x_goto (tgt := 166) dX12_looks_52 rfl ?_
              refine x_iinc dX12_looks_166 rfl ⟨by omega, by omega⟩ rfl (Nat.le_of_ble_eq_true rfl) ?_
              refine x_goto (tgt := 31) dX12_looks_169 rfl ?_
              refine x_keep [1, 1, 1, 1, 1, 1, 0, 1, 0, 0] ?_
              first | exact stay (fun q => hl.elim (fun h => absurd h.1 (by omega)) (fun h => h.2 q.1)) (by omega) _ hg hFr hBM | exact stay (fun q => by have := q.2; omega) (by omega) _ q73g hFr73 hBM73
      refine x_iload (i := 6) dX12_looks_23 rfl ?_
      refine x_if_eq (tgt := 181) dX12_looks_25 rfl (fun h25 => ?_) (fun h25 => ?_)
      · refine x_vret dX12_looks_181 rfl ?_
        refine ⟨rfl, rfl, hFr, ?_⟩
        rw [hmo, show o = OFN T by omega] at hBM
        exact hBM
      · refine y_ic dX12_looks_28 ⟨by decide, by decide⟩ ?_
        refine x_istore (i := 7) dX12_looks_29 rfl (Nat.le_of_ble_eq_true rfl) ?_
        refine x_keep [1, 1, 1, 1, 1, 1, 0, 1, 0, 0] ?_
        exact hZ _ _ _ (Nat.lt_succ_self _) (by omega) (by omega) (by omega) (by rcases hmore with q | q; exact q.2.2; omega) hFr (by rw [itN_0]; exact hBM) (by rw [itN_0]; exact hbk)
  refine y_aln (i := 0) dX12_looks_0 at91.ne0 rfl rfl ?_
  refine x_callVV (c_X12_begins hW hT hF) dX12_looks_1 lkX12_430 mfX12_begins cfX12 at91 rfl rfl rfl rfl (Nat.le_of_ble_eq_true rfl) (fun n1 I1 P1 hf1 => ?_)
  obtain ⟨e1, e2, e3⟩ := hf1
  rw [e1, e3]
  have hFr1 : Fr frS frF I I1 := by rw [e2]; exact Fr.rf.ua (by decide) (by decide)
  have hT1 := hT.fr hFr1
  have eo : I1 of = I of := hFr1.1 of n91 nS
  refine y_aln (i := 0) dX12_looks_4 at91.ne0 rfl rfl ?_
  refine y_aln (i := 1) dX12_looks_5 hA.ne0 rfl rfl ?_
  refine x_iload_n (i := 2) dX12_looks_6 rfl rfl ?_
  refine x_callVI (c_X12_bagOf hW hT1 hF hA (by rw [eo]; exact hr.rc) ha) dX12_looks_7 lkX12_351 mfX12_bagOf cfX12 at91 rfl rfl rfl rfl (Nat.le_of_ble_eq_true rfl) (fun r7 I7 P7 hr7 hf7 => ?_)
  obtain ⟨i7, p7, q7⟩ := hf7
  rw [i7, p7, q7]
  rw [eo]
  refine x_istore (i := 4) dX12_looks_10 rfl (Nat.le_of_ble_eq_true rfl) ?_
  refine y_aln (i := 0) dX12_looks_12 at91.ne0 rfl rfl ?_
  refine y_aln (i := 1) dX12_looks_13 hA.ne0 rfl rfl ?_
  refine x_iload_n (i := 3) dX12_looks_14 rfl rfl ?_
  refine x_callVI (c_X12_bagOf hW hT1 hF hA (by rw [eo]; exact hr.rc) hb) dX12_looks_15 lkX12_351 mfX12_bagOf cfX12 at91 rfl rfl rfl rfl (Nat.le_of_ble_eq_true rfl) (fun r15 I15 P15 hr15 hf15 => ?_)
  obtain ⟨i15, p15, q15⟩ := hf15
  rw [i15, p15, q15]
  rw [eo]
  refine x_istore (i := 5) dX12_looks_18 rfl (Nat.le_of_ble_eq_true rfl) ?_
  refine y_ic dX12_looks_20 ⟨by decide, by decide⟩ ?_
  refine x_istore (i := 6) dX12_looks_21 rfl (Nat.le_of_ble_eq_true rfl) ?_
  refine x_keep [1, 1, 1, 1, 1, 1, 1, 0, 0, 0] ?_
  refine hL _ _ _ _ (Nat.lt_succ_self _) (Int.le_refl 0) (by have := OFN_bd hF; omega) (Or.inl ⟨rfl, (OFN_bd hF).1, fun j h0 hj => ?_⟩) hFr1 ?_ (by rw [itN_0]; exact hbo)
  · rw [e2, uA_eq, if_pos ⟨h0, hj⟩, OF_0 hF h0 hj]
  · rw [itN_0, e2]
    unfold BM
    rw [uA_ne (by decide), uA_ne (by decide)]
    exact hB
theorem c_X12_meet0 {of : Nat} {a b : Int} (hW : WP P) (hT : MT I T) (hF : WF T) (hA : AR NO of 20 48) (n112 : of ≠ 112) (hr : RW T (I of)) (ha : 0 ≤ a ∧ a < T 0 1) (hb : 0 ≤ b ∧ b < T 0 1) (hab : a ≠ b) : Cv G mX12_meet0 (d + 3) 0 0 [.inr (.inl 91), .inr (.inl of), .inl a, .inl b] NO I P (qI NO (fun r I' P' => P' = P ∧ r = (meetS T (I of) a b).1 ∧ I' of = (meetS T (I of) a b).2 ∧ Fr (of :: frS) frF I I')) := by
  have f1 := hF.1
  have f2 := hF.2.1
  have f3 := hF.2.2.1
  have n91 : of ≠ 91 := hA.na at91 (by decide)
  have n111 : 111 ≠ of := (hA.ne ar111 (by decide)).symm
  have nS : of ∉ frS := by
    have h1 := hA.ne ar111 (by decide)
    have h2 := hA.ne ar128 (by decide)
    simp [frS, h1, h2, n112]
  have hbk := meetB_ok hF hr ha hb hab
  have h0 : ∀ x y, bstOK T (I of) x y (0, 0, 0, 0, 0) := fun x y => ⟨by show (0 : Int) ≤ 0; omega, by show (0 : Int) ≤ 152200000; omega, fun q => absurd q (by show ¬ (0 : Int) < 0; omega)⟩
  have end1 : ∀ K : Mem, Fr frS frF I K → BM T K (meetB T (I of) a b) → V G mX12_meet0 (d + 3) 0 0 55 [some (.inr (.inl 91)), some (.inr (.inl of)), none, none] [] NO K P (qI NO (fun r I' P' => P' = P ∧ r = (meetS T (I of) a b).1 ∧ I' of = (meetS T (I of) a b).2 ∧ Fr (of :: frS) frF I I')) := fun K hFr hBM => by
    have eo : K of = I of := hFr.1 of n91 nS
    have hTK := hT.fr hFr
    have e70 := hBM.1
    have fin0 : ¬ 0 < (meetB T (I of) a b).1 → K 91 70 = (meetS T (I of) a b).1 ∧ K of = (meetS T (I of) a b).2 ∧ Fr (of :: frS) frF I K := fun q => by
      refine ⟨?_, ?_, hFr.mo (fun x hx => List.mem_cons_of_mem _ hx) (fun x hx => hx)⟩
      · unfold meetS; rw [if_neg q]; show _ = (0 : Int); have := hbk.1; omega
      · rw [eo]; unfold meetS; rw [if_neg q]
    refine y_aln (i := 0) dX12_meet0_55 at91.ne0 rfl rfl ?_
    refine y_geti (z := 70) dX12_meet0_56 frX12_463 cfX12 at91 rfl rfl ?_
    refine x_if_le (tgt := 91) dX12_meet0_59 rfl (fun h59 => ?_) (fun h59 => ?_)
    · refine y_aln (i := 0) dX12_meet0_91 at91.ne0 rfl rfl ?_
      refine y_geti (z := 70) dX12_meet0_92 frX12_463 cfX12 at91 rfl rfl ?_
      refine x_iret dX12_meet0_95 rfl ?_
      first | exact ⟨rfl, fin1⟩ | exact ⟨rfl, fin0 (by omega)⟩
    · refine y_aln (i := 0) dX12_meet0_62 at91.ne0 rfl rfl ?_
      refine y_aln (i := 0) dX12_meet0_63 at91.ne0 rfl rfl ?_
      refine y_getp (z := 74) (v := 128) dX12_meet0_64 frX12_133 cfX12 at91 rfl rfl (wp (v := 128) hW rfl rfl (by decide)) ?_
      refine y_aln (i := 0) dX12_meet0_67 at91.ne0 rfl rfl ?_
      refine y_getp (z := 45) (v := 111) dX12_meet0_68 frX12_81 cfX12 at91 rfl rfl (wp (v := 111) hW rfl rfl (by decide)) ?_
      refine x_callVV (c_X12_copies ar128 ar111 (by decide) (by decide) (by decide)) dX12_meet0_71 lkX12_328 mfX12_copies cfX12 at91 rfl rfl rfl rfl (Nat.le_of_ble_eq_true rfl) (fun n71 I71 P71 hf71 => ?_)
      obtain ⟨rfl, hI71, rfl⟩ := hf71
      have h2 := hbk.2.2 (by omega)
      obtain ⟨h21, h22, h23, h24⟩ := id h2
      have hB2 := hBM.2 (by omega)
      have hg : ∀ j, 0 ≤ j → j < T 0 3 → I71 111 j = OF T (meetB T (I of) a b).2.2.2.1 j := fun j j0 j1 => by rw [hI71, uA_eq, if_pos (by omega)]; exact hB2.2.2.2 j j0 j1
      have hFr71 : Fr frS frF I I71 := by rw [hI71]; exact hFr.ua (by decide) (by decide)
      have hT71 := hT.fr hFr71
      have eo71 : I71 of = I of := hFr71.1 of n91 nS
      have e71 : I71 91 = K 91 := by rw [hI71, uA_ne (by decide)]
      rw [← e71] at hB2
      refine y_aln (i := 0) dX12_meet0_74 at91.ne0 rfl rfl ?_
      refine y_aln (i := 1) dX12_meet0_75 hA.ne0 rfl rfl ?_
      refine y_aln (i := 0) dX12_meet0_76 at91.ne0 rfl rfl ?_
      refine y_geti (z := 71) dX12_meet0_77 frX12_466 cfX12 at91 rfl rfl ?_
      refine y_aln (i := 0) dX12_meet0_80 at91.ne0 rfl rfl ?_
      refine y_geti (z := 72) dX12_meet0_81 frX12_469 cfX12 at91 rfl rfl ?_
      refine y_aln (i := 0) dX12_meet0_84 at91.ne0 rfl rfl ?_
      rw [hB2.1]
      refine y_geti (z := 73) dX12_meet0_85 frX12_472 cfX12 at91 rfl rfl ?_
      rw [hB2.2.1, hB2.2.2.1]
      refine x_callVV (c_X12_trades (a := (meetB T (I of) a b).2.1) (b := (meetB T (I of) a b).2.2.1) (z := (meetB T (I of) a b).2.2.2.2) hW hT71 hF hA (by rw [eo71]; exact hr.rc) (by omega) (by omega) (by omega) (fun j j0 j1 => by rw [hg j j0 j1]; exact OF8 hF h2.2.1 j0 j1)) dX12_meet0_88 lkX12_389 mfX12_trades cfX12 at91 rfl rfl rfl rfl (Nat.le_of_ble_eq_true rfl) (fun n88 I88 P88 hf88 => ?_)
      obtain ⟨rfl, hI88, rfl⟩ := hf88
      have e88 : I88 91 = K 91 := by rw [hI88, uA_ne (Ne.symm n91), e71]
      have fin1 : I88 91 70 = (meetS T (I of) a b).1 ∧ I88 of = (meetS T (I of) a b).2 ∧ Fr (of :: frS) frF I I88 := by
        refine ⟨?_, ?_, ?_⟩
        · rw [e88, e70]; unfold meetS; rw [if_pos (by omega)]
        · rw [hI88, uA_eq, eo71, dealS_congr hF hg]; unfold meetS; rw [if_pos (by omega)]
        · rw [hI88]; exact (hFr71.mo (fun x hx => List.mem_cons_of_mem _ hx) (fun x hx => hx)).ua n91 List.mem_cons_self
      refine y_aln (i := 0) dX12_meet0_91 at91.ne0 rfl rfl ?_
      refine y_geti (z := 70) dX12_meet0_92 frX12_463 cfX12 at91 rfl rfl ?_
      refine x_iret dX12_meet0_95 rfl ?_
      first | exact ⟨rfl, fin1⟩ | exact ⟨rfl, fin0 (by omega)⟩
  refine x_enter mfX12_meet0 rfl (Nat.le_of_ble_eq_true rfl) (fun _ => ?_)
  rcases Int.lt_or_gt_of_ne hab with hq | hq
  · have hmid : ∀ K : Mem, Fr frS frF I K → BM T K (looksS T (I of) a b (0, 0, 0, 0, 0)) → V G mX12_meet0 (d + 3) 0 0 30 [some (.inr (.inl 91)), some (.inr (.inl of)), some (.inl (a)), some (.inl (b))] [] NO K P (qI NO (fun r I' P' => P' = P ∧ r = (meetS T (I of) a b).1 ∧ I' of = (meetS T (I of) a b).2 ∧ Fr (of :: frS) frF I I')) := fun K hFr hBM => by
      have eo : K of = I of := hFr.1 of n91 nS
      have hTK := hT.fr hFr
      refine y_aln (i := 0) dX12_meet0_30 at91.ne0 rfl rfl ?_
      refine y_aln (i := 1) dX12_meet0_31 hA.ne0 rfl rfl ?_
      refine x_iload_n (i := 2) dX12_meet0_32 rfl rfl ?_
      refine x_iload_n (i := 3) dX12_meet0_33 rfl rfl ?_
      refine x_icmp_ge (tgt := 41) dX12_meet0_34 rfl (fun h34 => ?_) (fun h34 => ?_)
      · exact absurd h34 (by omega)
      · refine x_iload_n (i := 3) dX12_meet0_37 rfl rfl ?_
        refine x_goto (tgt := 42) dX12_meet0_38 rfl ?_
        refine x_iload_n (i := 2) dX12_meet0_42 rfl rfl ?_
        refine x_iload_n (i := 3) dX12_meet0_43 rfl rfl ?_
        refine x_icmp_ge (tgt := 51) dX12_meet0_44 rfl (fun h44 => ?_) (fun h44 => ?_)
        · exact absurd h44 (by omega)
        · refine x_iload_n (i := 2) dX12_meet0_47 rfl rfl ?_
          refine x_goto (tgt := 52) dX12_meet0_48 rfl ?_
          refine x_callVV (c_X12_looks hW hTK hF hA n112 (by rw [eo]; exact hr) hb ha (Ne.symm hab) hBM (by rw [eo]; exact bstOK_sym (looksS_ok hF hr ha hb hab (h0 _ _)))) dX12_meet0_52 lkX12_475 mfX12_looks cfX12 at91 rfl rfl rfl rfl (Nat.le_of_ble_eq_true rfl) (fun n52 I52 P52 hf52 => ?_)
          obtain ⟨rfl, p52, fr52, bm52⟩ := hf52
          rw [p52]
          refine x_keep [1, 1, 0, 0] ?_
          exact end1 _ (hFr.tr fr52) (by rw [eo] at bm52; unfold meetB; rw [show max a b = b by omega, show min a b = a by omega]; exact bm52)
          done -- END
    refine y_aln (i := 0) dX12_meet0_0 at91.ne0 rfl rfl ?_
    refine y_ic dX12_meet0_1 ⟨by decide, by decide⟩ ?_
    refine y_puti (z := 70) dX12_meet0_2 frX12_463 cfX12 at91 rfl rfl rfl ?_
    refine y_aln (i := 0) dX12_meet0_5 at91.ne0 rfl rfl ?_
    refine y_aln (i := 1) dX12_meet0_6 hA.ne0 rfl rfl ?_
    refine x_iload_n (i := 2) dX12_meet0_7 rfl rfl ?_
    refine x_iload_n (i := 3) dX12_meet0_8 rfl rfl ?_
    refine x_icmp_ge (tgt := 16) dX12_meet0_9 rfl (fun h9 => ?_) (fun h9 => ?_)
    · exact absurd h9 (by omega)
    · refine x_iload_n (i := 2) dX12_meet0_12 rfl rfl ?_
      refine x_goto (tgt := 17) dX12_meet0_13 rfl ?_
      refine x_iload_n (i := 2) dX12_meet0_17 rfl rfl ?_
      refine x_iload_n (i := 3) dX12_meet0_18 rfl rfl ?_
      refine x_icmp_ge (tgt := 26) dX12_meet0_19 rfl (fun h19 => ?_) (fun h19 => ?_)
      · exact absurd h19 (by omega)
      · refine x_iload_n (i := 3) dX12_meet0_22 rfl rfl ?_
        refine x_goto (tgt := 27) dX12_meet0_23 rfl ?_
        refine x_callVV (c_X12_looks (m := (0, 0, 0, 0, 0)) hW (hT.uf (by decide)) hF hA n112 (by rw [uI_ne n91]; exact hr) ha hb hab ⟨by rw [uI_eq, u1_eq], fun q => absurd q (by show ¬ (0 : Int) < 0; omega)⟩ (by rw [uI_ne n91]; exact h0 _ _)) dX12_meet0_27 lkX12_475 mfX12_looks cfX12 at91 rfl rfl rfl rfl (Nat.le_of_ble_eq_true rfl) (fun n27 I27 P27 hf27 => ?_)
        obtain ⟨rfl, p27, fr27, bm27⟩ := hf27
        rw [p27]
        refine x_keep [1, 1, 1, 1] ?_
        exact hmid _ ((Fr.rf.uf (by decide)).tr fr27) (by rw [uI_ne n91] at bm27; exact bm27)
        done -- END
  · have hmid : ∀ K : Mem, Fr frS frF I K → BM T K (looksS T (I of) b a (0, 0, 0, 0, 0)) → V G mX12_meet0 (d + 3) 0 0 30 [some (.inr (.inl 91)), some (.inr (.inl of)), some (.inl (a)), some (.inl (b))] [] NO K P (qI NO (fun r I' P' => P' = P ∧ r = (meetS T (I of) a b).1 ∧ I' of = (meetS T (I of) a b).2 ∧ Fr (of :: frS) frF I I')) := fun K hFr hBM => by
      have eo : K of = I of := hFr.1 of n91 nS
      have hTK := hT.fr hFr
      refine y_aln (i := 0) dX12_meet0_30 at91.ne0 rfl rfl ?_
      refine y_aln (i := 1) dX12_meet0_31 hA.ne0 rfl rfl ?_
      refine x_iload_n (i := 2) dX12_meet0_32 rfl rfl ?_
      refine x_iload_n (i := 3) dX12_meet0_33 rfl rfl ?_
      refine x_icmp_ge (tgt := 41) dX12_meet0_34 rfl (fun h34 => ?_) (fun h34 => ?_)
      · refine x_iload_n (i := 2) dX12_meet0_41 rfl rfl ?_
        refine x_iload_n (i := 2) dX12_meet0_42 rfl rfl ?_
        refine x_iload_n (i := 3) dX12_meet0_43 rfl rfl ?_
        refine x_icmp_ge (tgt := 51) dX12_meet0_44 rfl (fun h44 => ?_) (fun h44 => ?_)
        · refine x_iload_n (i := 3) dX12_meet0_51 rfl rfl ?_
          refine x_callVV (c_X12_looks hW hTK hF hA n112 (by rw [eo]; exact hr) ha hb hab hBM (by rw [eo]; exact bstOK_sym (looksS_ok hF hr hb ha (Ne.symm hab) (h0 _ _)))) dX12_meet0_52 lkX12_475 mfX12_looks cfX12 at91 rfl rfl rfl rfl (Nat.le_of_ble_eq_true rfl) (fun n52 I52 P52 hf52 => ?_)
          obtain ⟨rfl, p52, fr52, bm52⟩ := hf52
          rw [p52]
          refine x_keep [1, 1, 0, 0] ?_
          exact end1 _ (hFr.tr fr52) (by rw [eo] at bm52; unfold meetB; rw [show max a b = a by omega, show min a b = b by omega]; exact bm52)
          done -- END
        · exact absurd h44 (by omega)
      · exact absurd h34 (by omega)
    refine y_aln (i := 0) dX12_meet0_0 at91.ne0 rfl rfl ?_
    refine y_ic dX12_meet0_1 ⟨by decide, by decide⟩ ?_
    refine y_puti (z := 70) dX12_meet0_2 frX12_463 cfX12 at91 rfl rfl rfl ?_
    refine y_aln (i := 0) dX12_meet0_5 at91.ne0 rfl rfl ?_
    refine y_aln (i := 1) dX12_meet0_6 hA.ne0 rfl rfl ?_
    refine x_iload_n (i := 2) dX12_meet0_7 rfl rfl ?_
    refine x_iload_n (i := 3) dX12_meet0_8 rfl rfl ?_
    refine x_icmp_ge (tgt := 16) dX12_meet0_9 rfl (fun h9 => ?_) (fun h9 => ?_)
    · refine x_iload_n (i := 3) dX12_meet0_16 rfl rfl ?_
      refine x_iload_n (i := 2) dX12_meet0_17 rfl rfl ?_
      refine x_iload_n (i := 3) dX12_meet0_18 rfl rfl ?_
      refine x_icmp_ge (tgt := 26) dX12_meet0_19 rfl (fun h19 => ?_) (fun h19 => ?_)
      · refine x_iload_n (i := 2) dX12_meet0_26 rfl rfl ?_
        refine x_callVV (c_X12_looks (m := (0, 0, 0, 0, 0)) hW (hT.uf (by decide)) hF hA n112 (by rw [uI_ne n91]; exact hr) hb ha (Ne.symm hab) ⟨by rw [uI_eq, u1_eq], fun q => absurd q (by show ¬ (0 : Int) < 0; omega)⟩ (by rw [uI_ne n91]; exact h0 _ _)) dX12_meet0_27 lkX12_475 mfX12_looks cfX12 at91 rfl rfl rfl rfl (Nat.le_of_ble_eq_true rfl) (fun n27 I27 P27 hf27 => ?_)
        obtain ⟨rfl, p27, fr27, bm27⟩ := hf27
        rw [p27]
        refine x_keep [1, 1, 1, 1] ?_
        exact hmid _ ((Fr.rf.uf (by decide)).tr fr27) (by rw [uI_ne n91] at bm27; exact bm27)
        done -- END
      · exact absurd h19 (by omega)
    · exact absurd h9 (by omega)
end

