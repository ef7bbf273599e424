/-! ===== the reference: staying away, the best order ===== -/
section
variable {G : HX} {d : Nat} {I : Mem} {P : Ptr} {T : Tn}
theorem c_X12_still {p m w : Int} (hW : WP P) (hT : MT I T) (hF : WF T) (hr : RW T (I 98)) : Cv G mX12_still (d + 5) 0 0 [.inr (.inl 91), .inl p, .inl m, .inl w] NO I P (qI NO (fun r I' P' => P' = P ∧ r = (stillA T (I 98) p m w).2 ∧ I' 91 0 = (stillA T (I 98) p m w).1 ∧ Fr (129 :: frS) (0 :: frF) I I')) := by
  have hT0 : MT (uI I 91 0 0) T := hT.uf (by decide)
  have fr0 : Fr (129 :: frS) (0 :: frF) I (uI I 91 0 0) := Fr.rf.uf (by decide)
  refine x_enter mfX12_still rfl (Nat.le_of_ble_eq_true rfl) (fun _ => ?_)
  have hN : ∀ (K : Mem) (e : Int), K 91 0 = e → stillA T (I 98) p m w = (e, 0) → Fr (129 :: frS) (0 :: frF) I K → V G mX12_still (d + 5) 0 0 50 [none, none, none, none, none, none, none, none] [] NO K P (qI NO (fun r I' P' => P' = P ∧ r = (stillA T (I 98) p m w).2 ∧ I' 91 0 = (stillA T (I 98) p m w).1 ∧ Fr (129 :: frS) (0 :: frF) I I')) := fun K e h0 hA hFr => by
    refine y_ic dX12_still_50 ⟨by decide, by decide⟩ ?_
    refine x_iret dX12_still_51 rfl ?_
    rw [hA]; exact ⟨rfl, rfl, h0, hFr⟩
  have hL : (0 ≤ p ∧ p < T 0 1) → (0 ≤ w ∧ w ≤ 1) → (1 ≤ m ∧ m ≤ 10) → ∀ (j : Nat) (k : Int) (K : Mem), (11 - k).toNat < j → 0 ≤ k → k ≤ 11 → K 91 0 = 0 → Fr (129 :: frS) (0 :: frF) I K → V G mX12_still (d + 5) 0 0 61 [some (.inr (.inl 91)), some (.inl (p)), some (.inl (m)), some (.inl (w)), some (.inl ((itN (fun w x => stillB T (I 98) p m w x) k (-1, -1)).1)), some (.inl ((itN (fun w x => stillB T (I 98) p m w x) k (-1, -1)).2)), some (.inl (k)), none] [] NO K P (qI NO (fun r I' P' => P' = P ∧ r = (stillA T (I 98) p m w).2 ∧ I' 91 0 = (stillA T (I 98) p m w).1 ∧ Fr (129 :: frS) (0 :: frF) I I')) := by
    intro hp hw hm j
    induction j with
    | zero => intro k K hj; omega
    | succ j ih =>
      intro k K hj hk hk2 h0 hFr
      have hTK := hT.fr hFr
      have e98 : K 98 = I 98 := hFr.1 98 (by decide) (by decide)
      have es := itN_s (fun w x => stillB T (I 98) p m w x) ((-1 : Int), (-1 : Int)) hk
      have ho := stillN_ok (m := m) hF hr hp hk2
      obtain ⟨x, hx⟩ : ∃ x, x = itN (fun w x => stillB T (I 98) p m w x) k ((-1 : Int), (-1 : Int)) := ⟨_, rfl⟩
      rw [← hx] at ho es ⊢
      have nx : ∀ (a b : Int) (K' : Mem), a = (stillB T (I 98) p m k x).1 → b = (stillB T (I 98) p m k x).2 → k < 11 → K' 91 0 = 0 → Fr (129 :: frS) (0 :: frF) I K' → V G mX12_still (d + 5) 0 0 61 [some (.inr (.inl 91)), some (.inl (p)), some (.inl (m)), some (.inl (w)), some (.inl (a)), some (.inl (b)), some (.inl (k + 1)), none] [] NO K' P (qI NO (fun r I' P' => P' = P ∧ r = (stillA T (I 98) p m w).2 ∧ I' 91 0 = (stillA T (I 98) p m w).1 ∧ Fr (129 :: frS) (0 :: frF) I I')) := fun a b K' ha hb hk3 q0 qF => by
        have := ih (k + 1) K' (by omega) (by omega) (by omega) q0 qF
        rw [es, ← ha, ← hb] at this
        exact this
      have hD2 : ∀ (r1 : Rw), RW T r1 → RE (stayR T (I 98) p k) r1 → k < 11 → ∀ (j : Nat) (i : Int) (K' : Mem), (m - i).toNat < j → 0 ≤ i → i ≤ m → K' 129 = itN (fun _ r => (dayS T (-1) r).2) i r1 → K' 91 0 = 0 → Fr (129 :: frS) (0 :: frF) I K' → V G mX12_still (d + 5) 0 0 109 [some (.inr (.inl 91)), some (.inl (p)), some (.inl (m)), some (.inl (w)), some (.inl (x.1)), some (.inl (x.2)), some (.inl (k)), some (.inl (i))] [] NO K' P (qI NO (fun r I' P' => P' = P ∧ r = (stillA T (I 98) p m w).2 ∧ I' 91 0 = (stillA T (I 98) p m w).1 ∧ Fr (129 :: frS) (0 :: frF) I I')) := by
        intro r1 hr1 hre1 hk3 j
        induction j with
        | zero => intro i K' hj; omega
        | succ j ihd =>
          intro i K' hj hi hi2 hK z0 hF2
          have hT2 := hT.fr hF2
          have hro := dayR_ok (w := -1) (n := i) hF hr1
          have hes := stay_s (T := T) (r := r1) (p := -1) hi
          refine x_iload (i := 7) dX12_still_109 rfl ?_
          refine x_iload_n (i := 2) dX12_still_111 rfl rfl ?_
          refine x_icmp_ge (tgt := 131) dX12_still_112 rfl (fun h112 => ?_) (fun h112 => ?_)
          · refine y_aln (i := 0) dX12_still_131 at91.ne0 rfl rfl ?_
            refine y_aln (i := 0) dX12_still_132 at91.ne0 rfl rfl ?_
            refine y_getp (z := 75) (v := 129) dX12_still_133 frX12_136 cfX12 at91 rfl rfl (wp (v := 129) hW rfl rfl (by decide)) ?_
            refine x_iload_n (i := 1) dX12_still_136 rfl rfl ?_
            refine x_callVI (c_X12_bagOf hW hT2 hF ar129 (by rw [hK]; exact hro.rc) hp) dX12_still_137 lkX12_351 mfX12_bagOf cfX12 at91 rfl rfl rfl rfl (Nat.le_of_ble_eq_true rfl) (fun r137 I137 P137 hr137 hf137 => ?_)
            obtain ⟨i137, p137, q137⟩ := hf137
            rw [i137, p137, q137]
            have eb : bagS T (K' 129) p = bagS T (stillR T (I 98) p k m) p := by
              rw [hK, show i = m by omega]
              exact ((RE.dayr hre1 hF).bag hF hp).symm
            rw [eb]
            refine x_istore (i := 7) dX12_still_140 rfl (Nat.le_of_ble_eq_true rfl) ?_
            refine x_iload (i := 7) dX12_still_142 rfl ?_
            refine x_iload (i := 5) dX12_still_144 rfl ?_
            refine x_icmp_le (tgt := 154) dX12_still_146 rfl (fun h146 => ?_) (fun h146 => ?_)
            · refine x_iload (i := 4) dX12_still_154 rfl ?_
              refine x_istore (i := 4) dX12_still_156 rfl (Nat.le_of_ble_eq_true rfl) ?_
              refine x_iload (i := 7) dX12_still_158 rfl ?_
              refine x_iload (i := 5) dX12_still_160 rfl ?_
              refine x_icmp_le (tgt := 170) dX12_still_162 rfl (fun h162 => ?_) (fun h162 => ?_)
              · refine x_iload (i := 5) dX12_still_170 rfl ?_
                refine x_istore (i := 5) dX12_still_172 rfl (Nat.le_of_ble_eq_true rfl) ?_
                refine x_iinc dX12_still_174 rfl ⟨by omega, by omega⟩ rfl (Nat.le_of_ble_eq_true rfl) ?_
                refine x_goto (tgt := 61) dX12_still_177 rfl ?_
                refine x_keep [1, 1, 1, 1, 1, 1, 1, 0] ?_
                refine nx _ _ _ ?_ ?_ hk3 z0 hF2
                · unfold stillB; dsimp only; first | (rw [if_pos (by omega)]; done) | (rw [if_neg (by omega)]; done)
                · unfold stillB; dsimp only; first | (rw [if_pos (by omega)]; done) | (rw [if_neg (by omega)]; done)
              · refine x_iload (i := 7) dX12_still_165 rfl ?_
                refine x_goto (tgt := 172) dX12_still_167 rfl ?_
                refine x_istore (i := 5) dX12_still_172 rfl (Nat.le_of_ble_eq_true rfl) ?_
                refine x_iinc dX12_still_174 rfl ⟨by omega, by omega⟩ rfl (Nat.le_of_ble_eq_true rfl) ?_
                refine x_goto (tgt := 61) dX12_still_177 rfl ?_
                refine x_keep [1, 1, 1, 1, 1, 1, 1, 0] ?_
                refine nx _ _ _ ?_ ?_ hk3 z0 hF2
                · unfold stillB; dsimp only; first | (rw [if_pos (by omega)]; done) | (rw [if_neg (by omega)]; done)
                · unfold stillB; dsimp only; first | (rw [if_pos (by omega)]; done) | (rw [if_neg (by omega)]; done)
            · refine x_iload (i := 6) dX12_still_149 rfl ?_
              refine x_goto (tgt := 156) dX12_still_151 rfl ?_
              refine x_istore (i := 4) dX12_still_156 rfl (Nat.le_of_ble_eq_true rfl) ?_
              refine x_iload (i := 7) dX12_still_158 rfl ?_
              refine x_iload (i := 5) dX12_still_160 rfl ?_
              refine x_icmp_le (tgt := 170) dX12_still_162 rfl (fun h162 => ?_) (fun h162 => ?_)
              · refine x_iload (i := 5) dX12_still_170 rfl ?_
                refine x_istore (i := 5) dX12_still_172 rfl (Nat.le_of_ble_eq_true rfl) ?_
                refine x_iinc dX12_still_174 rfl ⟨by omega, by omega⟩ rfl (Nat.le_of_ble_eq_true rfl) ?_
                refine x_goto (tgt := 61) dX12_still_177 rfl ?_
                refine x_keep [1, 1, 1, 1, 1, 1, 1, 0] ?_
                refine nx _ _ _ ?_ ?_ hk3 z0 hF2
                · unfold stillB; dsimp only; first | (rw [if_pos (by omega)]; done) | (rw [if_neg (by omega)]; done)
                · unfold stillB; dsimp only; first | (rw [if_pos (by omega)]; done) | (rw [if_neg (by omega)]; done)
              · refine x_iload (i := 7) dX12_still_165 rfl ?_
                refine x_goto (tgt := 172) dX12_still_167 rfl ?_
                refine x_istore (i := 5) dX12_still_172 rfl (Nat.le_of_ble_eq_true rfl) ?_
                refine x_iinc dX12_still_174 rfl ⟨by omega, by omega⟩ rfl (Nat.le_of_ble_eq_true rfl) ?_
                refine x_goto (tgt := 61) dX12_still_177 rfl ?_
                refine x_keep [1, 1, 1, 1, 1, 1, 1, 0] ?_
                refine nx _ _ _ ?_ ?_ hk3 z0 hF2
                · unfold stillB; dsimp only; first | (rw [if_pos (by omega)]; done) | (rw [if_neg (by omega)]; done)
                · unfold stillB; dsimp only; first | (rw [if_pos (by omega)]; done) | (rw [if_neg (by omega)]; done)
          · refine y_aln (i := 0) dX12_still_115 at91.ne0 rfl rfl ?_
            refine y_aln (i := 0) dX12_still_116 at91.ne0 rfl rfl ?_
            refine y_getp (z := 75) (v := 129) dX12_still_117 frX12_136 cfX12 at91 rfl rfl (wp (v := 129) hW rfl rfl (by decide)) ?_
            refine y_ic dX12_still_120 ⟨by decide, by decide⟩ ?_
            refine x_callVI (c_X12_day hW hT2 hF ar129 (by decide) (by decide) (by rw [hK]; exact hro)) dX12_still_121 lkX12_482 mfX12_day cfX12 at91 rfl rfl rfl rfl (Nat.le_of_ble_eq_true rfl) (fun r121 I121 P121 hr121 hf121 => ?_)
            obtain ⟨rfl, p121, o121, fr121⟩ := hf121
            refine x_pop dX12_still_124 rfl ?_
            refine x_iinc dX12_still_125 rfl ⟨by omega, by omega⟩ rfl (Nat.le_of_ble_eq_true rfl) ?_
            refine x_goto (tgt := 109) dX12_still_128 rfl ?_
            refine x_keep [1, 1, 1, 1, 1, 1, 1, 1] ?_
            exact ihd _ _ (by omega) (by omega) (by omega) (by rw [o121, hK, hes]) ((fr121.2 0 (by decide)).trans z0) (hF2.tr (fr121.mo (by decide) (by decide)))
      have hD1 : ∀ (r1 : Rw), RW T r1 → RE (I 98) r1 → k < 11 → ∀ (j : Nat) (i : Int) (K' : Mem), (k - i).toNat < j → 0 ≤ i → i ≤ k → K' 129 = itN (fun _ r => (dayS T p r).2) i r1 → K' 91 0 = 0 → Fr (129 :: frS) (0 :: frF) I K' → V G mX12_still (d + 5) 0 0 83 [some (.inr (.inl 91)), some (.inl (p)), some (.inl (m)), some (.inl (w)), some (.inl (x.1)), some (.inl (x.2)), some (.inl (k)), some (.inl (i))] [] NO K' P (qI NO (fun r I' P' => P' = P ∧ r = (stillA T (I 98) p m w).2 ∧ I' 91 0 = (stillA T (I 98) p m w).1 ∧ Fr (129 :: frS) (0 :: frF) I I')) := by
        intro r1 hr1 hre1 hk3 j
        induction j with
        | zero => intro i K' hj; omega
        | succ j ihd =>
          intro i K' hj hi hi2 hK z0 hF2
          have hT2 := hT.fr hF2
          have hro := dayR_ok (w := p) (n := i) hF hr1
          have hes := stay_s (T := T) (r := r1) (p := p) hi
          refine x_iload (i := 7) dX12_still_83 rfl ?_
          refine x_iload (i := 6) dX12_still_85 rfl ?_
          refine x_icmp_ge (tgt := 106) dX12_still_87 rfl (fun h87 => ?_) (fun h87 => ?_)
          · refine y_ic dX12_still_106 ⟨by decide, by decide⟩ ?_
            refine x_istore (i := 7) dX12_still_107 rfl (Nat.le_of_ble_eq_true rfl) ?_
            refine x_keep [1, 1, 1, 1, 1, 1, 1, 1] ?_
            refine hD2 (K' 129) (by rw [hK]; exact hro) ?_ hk3 _ 0 _ (Nat.lt_succ_self _) (by omega) (by omega) (itN_0 _ _).symm z0 hF2
            rw [hK, show i = k by omega]
            exact RE.dayr hre1 hF
          · refine y_aln (i := 0) dX12_still_90 at91.ne0 rfl rfl ?_
            refine y_aln (i := 0) dX12_still_91 at91.ne0 rfl rfl ?_
            refine y_getp (z := 75) (v := 129) dX12_still_92 frX12_136 cfX12 at91 rfl rfl (wp (v := 129) hW rfl rfl (by decide)) ?_
            refine x_iload_n (i := 1) dX12_still_95 rfl rfl ?_
            refine x_callVI (c_X12_day hW hT2 hF ar129 (by decide) (by decide) (by rw [hK]; exact hro)) dX12_still_96 lkX12_482 mfX12_day cfX12 at91 rfl rfl rfl rfl (Nat.le_of_ble_eq_true rfl) (fun r96 I96 P96 hr96 hf96 => ?_)
            obtain ⟨rfl, p96, o96, fr96⟩ := hf96
            refine x_pop dX12_still_99 rfl ?_
            refine x_iinc dX12_still_100 rfl ⟨by omega, by omega⟩ rfl (Nat.le_of_ble_eq_true rfl) ?_
            refine x_goto (tgt := 83) dX12_still_103 rfl ?_
            refine x_keep [1, 1, 1, 1, 1, 1, 1, 1] ?_
            exact ihd _ _ (by omega) (by omega) (by omega) (by rw [o96, hK, hes]) ((fr96.2 0 (by decide)).trans z0) (hF2.tr (fr96.mo (by decide) (by decide)))
      refine x_iload (i := 6) dX12_still_61 rfl ?_
      refine y_bi dX12_still_63 ⟨by decide, by decide⟩ ?_
      refine x_icmp_gt (tgt := 180) dX12_still_65 rfl (fun h65 => ?_) (fun h65 => ?_)
      · refine x_iload_n (i := 3) dX12_still_180 rfl rfl ?_
        refine x_if_ne (tgt := 189) dX12_still_181 rfl (fun h181 => ?_) (fun h181 => ?_)
        · refine x_iload (i := 5) dX12_still_189 rfl ?_
          refine x_iret dX12_still_191 rfl ?_
          refine ⟨rfl, ?_, ?_, hFr⟩
          · unfold stillA
            rw [cif_pos ⟨hp, hw⟩, if_pos hm]
            dsimp only
            unfold stillS
            first | (rw [if_pos (by omega), hx, show k = 11 by omega]; done) | (rw [if_neg (by omega), hx, show k = 11 by omega]; done)
          · unfold stillA
            rw [cif_pos ⟨hp, hw⟩, if_pos hm]
            exact h0
        · refine x_iload (i := 4) dX12_still_184 rfl ?_
          refine x_goto (tgt := 191) dX12_still_186 rfl ?_
          refine x_iret dX12_still_191 rfl ?_
          refine ⟨rfl, ?_, ?_, hFr⟩
          · unfold stillA
            rw [cif_pos ⟨hp, hw⟩, if_pos hm]
            dsimp only
            unfold stillS
            first | (rw [if_pos (by omega), hx, show k = 11 by omega]; done) | (rw [if_neg (by omega), hx, show k = 11 by omega]; done)
          · unfold stillA
            rw [cif_pos ⟨hp, hw⟩, if_pos hm]
            exact h0
      · refine y_aln (i := 0) dX12_still_68 at91.ne0 rfl rfl ?_
        refine y_aln (i := 0) dX12_still_69 at91.ne0 rfl rfl ?_
        refine y_getp (z := 14) (v := 98) dX12_still_70 frX12_38 cfX12 at91 rfl rfl (wp (v := 98) hW rfl rfl (by decide)) ?_
        refine y_aln (i := 0) dX12_still_73 at91.ne0 rfl rfl ?_
        refine y_getp (z := 75) (v := 129) dX12_still_74 frX12_136 cfX12 at91 rfl rfl (wp (v := 129) hW rfl rfl (by decide)) ?_
        refine x_callVV (c_X12_copies ar98 ar129 (by decide) (by decide) (by decide)) dX12_still_77 lkX12_328 mfX12_copies cfX12 at91 rfl rfl rfl rfl (Nat.le_of_ble_eq_true rfl) (fun n77 I77 P77 hf77 => ?_)
        obtain ⟨rfl, hI77, rfl⟩ := hf77
        have re77 : RE (I 98) (I77 129) := fun c h0 h1 => by rw [hI77, uA_eq, if_pos (by omega), e98]
        refine y_ic dX12_still_80 ⟨by decide, by decide⟩ ?_
        refine x_istore (i := 7) dX12_still_81 rfl (Nat.le_of_ble_eq_true rfl) ?_
        refine x_keep [1, 1, 1, 1, 1, 1, 1, 1] ?_
        exact hD1 _ (re77.rw hr) re77 (by omega) _ 0 _ (Nat.lt_succ_self _) (by omega) (by omega) (itN_0 _ _).symm (by rw [hI77, uA_ne (by decide)]; exact h0) (by rw [hI77]; exact hFr.ua (by decide) (by decide))
  refine y_aln (i := 0) dX12_still_0 at91.ne0 rfl rfl ?_
  refine y_ic dX12_still_1 ⟨by decide, by decide⟩ ?_
  refine y_puti (z := 0) dX12_still_2 frX12_184 cfX12 at91 rfl rfl rfl ?_
  refine y_aln (i := 0) dX12_still_5 at91.ne0 rfl rfl ?_
  refine x_iload_n (i := 1) dX12_still_6 rfl rfl ?_
  refine x_callVI (c_X12_isPerson hW hT0 (by rw [uI_eq, u1_eq])) dX12_still_7 lkX12_362 mfX12_isPerson cfX12 at91 rfl rfl rfl rfl (Nat.le_of_ble_eq_true rfl) (fun r7 I7 P7 hr7 hf7 => ?_)
  obtain ⟨rfl, hr7⟩ := hf7
  refine x_if_eq (tgt := 50) dX12_still_10 rfl (fun h10 => ?_) (fun h10 => ?_)
  · obtain ⟨-, no, hI7⟩ := hr7.resolve_left (fun q => by have := q.1; omega)
    refine x_keep [0, 0, 0, 0, 0, 0, 0, 0] ?_
    first | exact hN _ 1 (by rw [hI7, uI_eq, u1_eq]) (cif_neg (fun q => no q.1)) (by rw [hI7]; exact fr0.uf (by decide)) | exact hN _ 1 (by rw [uI_eq]; exact u1_eq) (cif_neg (fun q => by have := q.2; omega)) (fr0.uf (by decide)) | exact hN _ 2 (by rw [uI_eq, u1_eq]) ((cif_pos ⟨op, by omega⟩).trans (if_neg (by omega))) (fr0.uf (by decide))
  · obtain ⟨-, op, hI7⟩ := hr7.resolve_right (fun q => by have := q.1; omega)
    rw [hI7]
    refine y_aln (i := 0) dX12_still_13 at91.ne0 rfl rfl ?_
    refine x_iload_n (i := 3) dX12_still_14 rfl rfl ?_
    refine x_if_eq (tgt := 23) dX12_still_15 rfl (fun h15 => ?_) (fun h15 => ?_)
    · refine y_ic dX12_still_23 ⟨by decide, by decide⟩ ?_
      refine x_goto (tgt := 28) dX12_still_24 rfl ?_
      refine y_ic dX12_still_28 ⟨by decide, by decide⟩ ?_
      refine x_callVI (c_X12_right2 hW (by first | rw [uI_eq, u1_eq] | assumption) (by omega) (by decide)) dX12_still_29 lkX12_309 mfX12_right cfX12 at91 rfl rfl rfl rfl (Nat.le_of_ble_eq_true rfl) (fun r29 I29 P29 hr29 hf29 => ?_)
      obtain ⟨rfl, e29, i29⟩ := hf29
      rw [i29]
      refine x_if_eq (tgt := 50) dX12_still_32 rfl (fun h32 => ?_) (fun h32 => ?_)
      · rw [ifn_0 (by omega)]
        refine x_keep [0, 0, 0, 0, 0, 0, 0, 0] ?_
        first | exact hN _ 1 (by rw [hI7, uI_eq, u1_eq]) (cif_neg (fun q => no q.1)) (by rw [hI7]; exact fr0.uf (by decide)) | exact hN _ 1 (by rw [uI_eq]; exact u1_eq) (cif_neg (fun q => by have := q.2; omega)) (fr0.uf (by decide)) | exact hN _ 2 (by rw [uI_eq, u1_eq]) ((cif_pos ⟨op, by omega⟩).trans (if_neg (by omega))) (fr0.uf (by decide))
      · rw [ifn_1 (by omega)]
        refine y_aln (i := 0) dX12_still_35 at91.ne0 rfl rfl ?_
        refine x_iload_n (i := 2) dX12_still_36 rfl rfl ?_
        refine y_ic dX12_still_37 ⟨by decide, by decide⟩ ?_
        refine y_bi dX12_still_38 ⟨by decide, by decide⟩ ?_
        refine x_callSI (c_X12_within) dX12_still_40 lkX12_354 mfX12_within rfl rfl rfl (Nat.le_of_ble_eq_true rfl) (fun r40 I40 P40 hr40 hf40 => ?_)
        obtain ⟨i40, p40, q40⟩ := hf40
        rw [i40, p40]
        refine y_ic dX12_still_43 ⟨by decide, by decide⟩ ?_
        refine x_callVI (c_X12_right2 hW (by first | rw [uI_eq, u1_eq] | assumption) (by omega) (by decide)) dX12_still_44 lkX12_309 mfX12_right cfX12 at91 rfl rfl rfl rfl (Nat.le_of_ble_eq_true rfl) (fun r44 I44 P44 hr44 hf44 => ?_)
        obtain ⟨rfl, e44, i44⟩ := hf44
        rw [i44]
        refine x_if_ne (tgt := 52) dX12_still_47 rfl (fun h47 => ?_) (fun h47 => ?_)
        · rw [ifn_1 (by omega)]
          refine y_ic dX12_still_52 ⟨by decide, by decide⟩ ?_
          refine x_istore (i := 4) dX12_still_53 rfl (Nat.le_of_ble_eq_true rfl) ?_
          refine y_ic dX12_still_55 ⟨by decide, by decide⟩ ?_
          refine x_istore (i := 5) dX12_still_56 rfl (Nat.le_of_ble_eq_true rfl) ?_
          refine y_ic dX12_still_58 ⟨by decide, by decide⟩ ?_
          refine x_istore (i := 6) dX12_still_59 rfl (Nat.le_of_ble_eq_true rfl) ?_
          refine x_keep [1, 1, 1, 1, 1, 1, 1, 0] ?_
          exact hL op (by omega) (by omega) _ 0 _ (Nat.lt_succ_self _) (by omega) (by omega) (by rw [uI_eq, u1_eq]) fr0
        · rw [ifn_0 (by omega)]
          refine x_keep [0, 0, 0, 0, 0, 0, 0, 0] ?_
          first | exact hN _ 1 (by rw [hI7, uI_eq, u1_eq]) (cif_neg (fun q => no q.1)) (by rw [hI7]; exact fr0.uf (by decide)) | exact hN _ 1 (by rw [uI_eq]; exact u1_eq) (cif_neg (fun q => by have := q.2; omega)) (fr0.uf (by decide)) | exact hN _ 2 (by rw [uI_eq, u1_eq]) ((cif_pos ⟨op, by omega⟩).trans (if_neg (by omega))) (fr0.uf (by decide))
    · refine x_iload_n (i := 3) dX12_still_18 rfl rfl ?_
      refine y_ic dX12_still_19 ⟨by decide, by decide⟩ ?_
      refine x_icmp_ne (tgt := 27) dX12_still_20 rfl (fun h20 => ?_) (fun h20 => ?_)
      · refine y_ic dX12_still_27 ⟨by decide, by decide⟩ ?_
        refine y_ic dX12_still_28 ⟨by decide, by decide⟩ ?_
        refine x_callVI (c_X12_right2 hW (by first | rw [uI_eq, u1_eq] | assumption) (by omega) (by decide)) dX12_still_29 lkX12_309 mfX12_right cfX12 at91 rfl rfl rfl rfl (Nat.le_of_ble_eq_true rfl) (fun r29 I29 P29 hr29 hf29 => ?_)
        obtain ⟨rfl, e29, i29⟩ := hf29
        rw [i29]
        refine x_if_eq (tgt := 50) dX12_still_32 rfl (fun h32 => ?_) (fun h32 => ?_)
        · rw [ifn_0 (by omega)]
          refine x_keep [0, 0, 0, 0, 0, 0, 0, 0] ?_
          first | exact hN _ 1 (by rw [hI7, uI_eq, u1_eq]) (cif_neg (fun q => no q.1)) (by rw [hI7]; exact fr0.uf (by decide)) | exact hN _ 1 (by rw [uI_eq]; exact u1_eq) (cif_neg (fun q => by have := q.2; omega)) (fr0.uf (by decide)) | exact hN _ 2 (by rw [uI_eq, u1_eq]) ((cif_pos ⟨op, by omega⟩).trans (if_neg (by omega))) (fr0.uf (by decide))
        · rw [ifn_1 (by omega)]
          refine y_aln (i := 0) dX12_still_35 at91.ne0 rfl rfl ?_
          refine x_iload_n (i := 2) dX12_still_36 rfl rfl ?_
          refine y_ic dX12_still_37 ⟨by decide, by decide⟩ ?_
          refine y_bi dX12_still_38 ⟨by decide, by decide⟩ ?_
          refine x_callSI (c_X12_within) dX12_still_40 lkX12_354 mfX12_within rfl rfl rfl (Nat.le_of_ble_eq_true rfl) (fun r40 I40 P40 hr40 hf40 => ?_)
          obtain ⟨i40, p40, q40⟩ := hf40
          rw [i40, p40]
          refine y_ic dX12_still_43 ⟨by decide, by decide⟩ ?_
          refine x_callVI (c_X12_right2 hW (by first | rw [uI_eq, u1_eq] | assumption) (by omega) (by decide)) dX12_still_44 lkX12_309 mfX12_right cfX12 at91 rfl rfl rfl rfl (Nat.le_of_ble_eq_true rfl) (fun r44 I44 P44 hr44 hf44 => ?_)
          obtain ⟨rfl, e44, i44⟩ := hf44
          rw [i44]
          refine x_if_ne (tgt := 52) dX12_still_47 rfl (fun h47 => ?_) (fun h47 => ?_)
          · rw [ifn_1 (by omega)]
            refine y_ic dX12_still_52 ⟨by decide, by decide⟩ ?_
            refine x_istore (i := 4) dX12_still_53 rfl (Nat.le_of_ble_eq_true rfl) ?_
            refine y_ic dX12_still_55 ⟨by decide, by decide⟩ ?_
            refine x_istore (i := 5) dX12_still_56 rfl (Nat.le_of_ble_eq_true rfl) ?_
            refine y_ic dX12_still_58 ⟨by decide, by decide⟩ ?_
            refine x_istore (i := 6) dX12_still_59 rfl (Nat.le_of_ble_eq_true rfl) ?_
            refine x_keep [1, 1, 1, 1, 1, 1, 1, 0] ?_
            exact hL op (by omega) (by omega) _ 0 _ (Nat.lt_succ_self _) (by omega) (by omega) (by rw [uI_eq, u1_eq]) fr0
          · rw [ifn_0 (by omega)]
            refine x_keep [0, 0, 0, 0, 0, 0, 0, 0] ?_
            first | exact hN _ 1 (by rw [hI7, uI_eq, u1_eq]) (cif_neg (fun q => no q.1)) (by rw [hI7]; exact fr0.uf (by decide)) | exact hN _ 1 (by rw [uI_eq]; exact u1_eq) (cif_neg (fun q => by have := q.2; omega)) (fr0.uf (by decide)) | exact hN _ 2 (by rw [uI_eq, u1_eq]) ((cif_pos ⟨op, by omega⟩).trans (if_neg (by omega))) (fr0.uf (by decide))
      · refine y_ic dX12_still_23 ⟨by decide, by decide⟩ ?_
        refine x_goto (tgt := 28) dX12_still_24 rfl ?_
        refine y_ic dX12_still_28 ⟨by decide, by decide⟩ ?_
        refine x_callVI (c_X12_right2 hW (by first | rw [uI_eq, u1_eq] | assumption) (by omega) (by decide)) dX12_still_29 lkX12_309 mfX12_right cfX12 at91 rfl rfl rfl rfl (Nat.le_of_ble_eq_true rfl) (fun r29 I29 P29 hr29 hf29 => ?_)
        obtain ⟨rfl, e29, i29⟩ := hf29
        rw [i29]
        refine x_if_eq (tgt := 50) dX12_still_32 rfl (fun h32 => ?_) (fun h32 => ?_)
        · rw [ifn_0 (by omega)]
          refine x_keep [0, 0, 0, 0, 0, 0, 0, 0] ?_
          first | exact hN _ 1 (by rw [hI7, uI_eq, u1_eq]) (cif_neg (fun q => no q.1)) (by rw [hI7]; exact fr0.uf (by decide)) | exact hN _ 1 (by rw [uI_eq]; exact u1_eq) (cif_neg (fun q => by have := q.2; omega)) (fr0.uf (by decide)) | exact hN _ 2 (by rw [uI_eq, u1_eq]) ((cif_pos ⟨op, by omega⟩).trans (if_neg (by omega))) (fr0.uf (by decide))
        · rw [ifn_1 (by omega)]
          refine y_aln (i := 0) dX12_still_35 at91.ne0 rfl rfl ?_
          refine x_iload_n (i := 2) dX12_still_36 rfl rfl ?_
          refine y_ic dX12_still_37 ⟨by decide, by decide⟩ ?_
          refine y_bi dX12_still_38 ⟨by decide, by decide⟩ ?_
          refine x_callSI (c_X12_within) dX12_still_40 lkX12_354 mfX12_within rfl rfl rfl (Nat.le_of_ble_eq_true rfl) (fun r40 I40 P40 hr40 hf40 => ?_)
          obtain ⟨i40, p40, q40⟩ := hf40
          rw [i40, p40]
          refine y_ic dX12_still_43 ⟨by decide, by decide⟩ ?_
          refine x_callVI (c_X12_right2 hW (by first | rw [uI_eq, u1_eq] | assumption) (by omega) (by decide)) dX12_still_44 lkX12_309 mfX12_right cfX12 at91 rfl rfl rfl rfl (Nat.le_of_ble_eq_true rfl) (fun r44 I44 P44 hr44 hf44 => ?_)
          obtain ⟨rfl, e44, i44⟩ := hf44
          rw [i44]
          refine x_if_ne (tgt := 52) dX12_still_47 rfl (fun h47 => ?_) (fun h47 => ?_)
          · rw [ifn_1 (by omega)]
            refine y_ic dX12_still_52 ⟨by decide, by decide⟩ ?_
            refine x_istore (i := 4) dX12_still_53 rfl (Nat.le_of_ble_eq_true rfl) ?_
            refine y_ic dX12_still_55 ⟨by decide, by decide⟩ ?_
            refine x_istore (i := 5) dX12_still_56 rfl (Nat.le_of_ble_eq_true rfl) ?_
            refine y_ic dX12_still_58 ⟨by decide, by decide⟩ ?_
            refine x_istore (i := 6) dX12_still_59 rfl (Nat.le_of_ble_eq_true rfl) ?_
            refine x_keep [1, 1, 1, 1, 1, 1, 1, 0] ?_
            exact hL op (by omega) (by omega) _ 0 _ (Nat.lt_succ_self _) (by omega) (by omega) (by rw [uI_eq, u1_eq]) fr0
          · rw [ifn_0 (by omega)]
            refine x_keep [0, 0, 0, 0, 0, 0, 0, 0] ?_
            first | exact hN _ 1 (by rw [hI7, uI_eq, u1_eq]) (cif_neg (fun q => no q.1)) (by rw [hI7]; exact fr0.uf (by decide)) | exact hN _ 1 (by rw [uI_eq]; exact u1_eq) (cif_neg (fun q => by have := q.2; omega)) (fr0.uf (by decide)) | exact hN _ 2 (by rw [uI_eq, u1_eq]) ((cif_pos ⟨op, by omega⟩).trans (if_neg (by omega))) (fr0.uf (by decide))
end

