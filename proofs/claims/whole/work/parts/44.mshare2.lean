/-! ===== the reference: the best share ===== -/
theorem itr_RW {T : Tn} {r : Rw} (hT : WF T) (hr : RW T r) (h1 : 1 ≤ T 0 1) {k : Int} (hk : 0 ≤ k ∧ k < wayW (T 0 1) (LfS T r)) : VSh (T 0 1) (LfS T r) (itr (T 0 1) (LfS T r) k (m0S (T 0 1) (LfS T r))) ∧ RW T (itr (T 0 1) (LfS T r) k (m0S (T 0 1) (LfS T r))) := by
  have h := itr_V h1 (fun x x0 x1 => (LfS_nn hT hr x x0 x1).1) hk
  exact ⟨h, VSh_RW hT hr h⟩
theorem shN_ok {T : Tn} {r : Rw} (hT : WF T) (hr : RW T r) (h1 : 1 ≤ T 0 1) {k : Int} (hk : 0 ≤ k ∧ k ≤ wayW (T 0 1) (LfS T r)) : (-1 ≤ (shN T r k).1 ∧ (shN T r k).1 ≤ 76100000) ∧ (0 ≤ (shN T r k).2.1 ∧ (shN T r k).2.1 ≤ 456600000) ∧ (1 ≤ k → 0 ≤ (shN T r k).1) := by
  refine int_ind (p := fun k => k ≤ wayW (T 0 1) (LfS T r) → (-1 ≤ (shN T r k).1 ∧ (shN T r k).1 ≤ 76100000) ∧ (0 ≤ (shN T r k).2.1 ∧ (shN T r k).2.1 ≤ 456600000) ∧ (1 ≤ k → 0 ≤ (shN T r k).1)) (fun _ => ⟨⟨Int.le_refl _, by show (-1 : Int) ≤ 76100000; decide⟩, ⟨Int.le_refl _, by show (0 : Int) ≤ 456600000; decide⟩, fun q => absurd q (by decide)⟩) (fun k hk ih hh => ?_) k hk.1 hk.2
  have h := ih (by omega)
  have hb := shB_bd (y := shN T r k) hT (itr_RW hT hr h1 ⟨hk, show k < wayW (T 0 1) (LfS T r) by omega⟩).2 h1 ⟨h.1, h.2.1⟩
  rw [shN_s hk]
  exact ⟨⟨by omega, hb.1.2⟩, hb.2, fun _ => hb.1.1⟩
abbrev shF : List Int := 0 :: 89 :: frF
abbrev shL : List Nat := 129 :: 142 :: 143 :: frS
section
variable {G : HX} {d : Nat} {I : Mem} {P : Ptr} {T : Tn}
theorem c_X12_share {w : Int} (hW : WP P) (hT : MT I T) (hF : WF T) (hr : RW T (I 98)) : Cv G mX12_share (d + 5) 0 0 [.inr (.inl 91), .inl w] NO I P (qI NO (fun r I' P' => P' = P ∧ ((¬ (w = 0 ∨ w = 1) ∧ r = 0 ∧ I' = uI (uI I 91 0 0) 91 0 1) ∨ ((w = 0 ∨ w = 1) ∧ I' 91 0 = 0 ∧ ((T 0 1 = 0 ∧ r = -1 ∧ Fr [] [0] I I') ∨ (1 ≤ T 0 1 ∧ 1500 < wayW (T 0 1) (LfS T (I 98)) ∧ r = -2 ∧ Fr [] [0] I I') ∨ (1 ≤ T 0 1 ∧ wayW (T 0 1) (LfS T (I 98)) ≤ 1500 ∧ r = (if w = 0 then (shS T (I 98)).1 else (shS T (I 98)).2.1) ∧ I' 91 89 = 1 ∧ RE (I' 142) (shS T (I 98)).2.2 ∧ Fr shL shF I I')))))) := by
  have hT0 : MT (uI I 91 0 0) T := hT.uf (by decide)
  have f1 := hF.1
  have f2 := hF.2.1
  have e98 : uI I 91 0 0 98 = I 98 := uI_ne (by decide)
  refine x_enter mfX12_share rfl (Nat.le_of_ble_eq_true rfl) (fun _ => ?_)
  have hL : (w = 0 ∨ w = 1) → 1 ≤ T 0 1 → wayW (T 0 1) (LfS T (I 98)) ≤ 1500 → ∀ (j : Nat) (k more : Int) (K : Mem), (wayW (T 0 1) (LfS T (I 98)) - k).toNat < j → ((more = 1 ∧ 0 ≤ k ∧ k < wayW (T 0 1) (LfS T (I 98)) ∧ ∀ c, 0 ≤ c → c < 48 → K 143 c = itr (T 0 1) (LfS T (I 98)) k (m0S (T 0 1) (LfS T (I 98))) c) ∨ (more = 0 ∧ k = wayW (T 0 1) (LfS T (I 98)) ∧ 1 ≤ k)) → (1 ≤ k → RE (K 142) (shN T (I 98) k).2.2) → K 91 0 = 0 → Fr shL shF I K → V G mX12_share (d + 5) 0 0 86 [some (.inr (.inl 91)), some (.inl (w)), some (.inl ((shN T (I 98) k).1)), some (.inl ((shN T (I 98) k).2.1)), some (.inl (more)), none, none] [] NO K P (qI NO (fun r I' P' => P' = P ∧ ((¬ (w = 0 ∨ w = 1) ∧ r = 0 ∧ I' = uI (uI I 91 0 0) 91 0 1) ∨ ((w = 0 ∨ w = 1) ∧ I' 91 0 = 0 ∧ ((T 0 1 = 0 ∧ r = -1 ∧ Fr [] [0] I I') ∨ (1 ≤ T 0 1 ∧ 1500 < wayW (T 0 1) (LfS T (I 98)) ∧ r = -2 ∧ Fr [] [0] I I') ∨ (1 ≤ T 0 1 ∧ wayW (T 0 1) (LfS T (I 98)) ≤ 1500 ∧ r = (if w = 0 then (shS T (I 98)).1 else (shS T (I 98)).2.1) ∧ I' 91 89 = 1 ∧ RE (I' 142) (shS T (I 98)).2.2 ∧ Fr shL shF I I')))))) := by
    intro hw h1p h15 j
    induction j with
    | zero =>
      intro k more K hj hc hbest z0 hFr
      omega
    | succ j ih =>
      intro k more K hj hc hbest z0 hFr
      have hall := sh_all (K := T 0 1) (L := LfS T (I 98)) h1p (fun x x0 x1 => (LfS_nn hF hr x x0 x1).1)
      have hk2 : 0 ≤ k ∧ k ≤ wayW (T 0 1) (LfS T (I 98)) := by omega
      have hso := shN_ok hF hr h1p hk2
      have es := shN_s (T := T) (r := I 98) hk2.1
      have hfin : k = wayW (T 0 1) (LfS T (I 98)) → shS T (I 98) = shN T (I 98) k := fun q => by unfold shS; rw [q]
      obtain ⟨y, hy⟩ : ∃ y, y = shN T (I 98) k := ⟨_, rfl⟩
      rw [← hy] at hso es hbest hfin ⊢
      have hE : more = 1 → k < wayW (T 0 1) (LfS T (I 98)) → ∀ (y' : Sy) (K' : Mem), y' = shB T (itr (T 0 1) (LfS T (I 98)) k (m0S (T 0 1) (LfS T (I 98)))) y → RE (K' 142) y'.2.2 → (∀ c, 0 ≤ c → c < 48 → K' 143 c = itr (T 0 1) (LfS T (I 98)) k (m0S (T 0 1) (LfS T (I 98))) c) → K' 91 0 = 0 → Fr shL shF I K' → V G mX12_share (d + 5) 0 0 220 [some (.inr (.inl 91)), some (.inl (w)), some (.inl (y'.1)), some (.inl (y'.2.1)), none, none, none] [] NO K' P (qI NO (fun r I' P' => P' = P ∧ ((¬ (w = 0 ∨ w = 1) ∧ r = 0 ∧ I' = uI (uI I 91 0 0) 91 0 1) ∨ ((w = 0 ∨ w = 1) ∧ I' 91 0 = 0 ∧ ((T 0 1 = 0 ∧ r = -1 ∧ Fr [] [0] I I') ∨ (1 ≤ T 0 1 ∧ 1500 < wayW (T 0 1) (LfS T (I 98)) ∧ r = -2 ∧ Fr [] [0] I I') ∨ (1 ≤ T 0 1 ∧ wayW (T 0 1) (LfS T (I 98)) ≤ 1500 ∧ r = (if w = 0 then (shS T (I 98)).1 else (shS T (I 98)).2.1) ∧ I' 91 89 = 1 ∧ RE (I' 142) (shS T (I 98)).2.2 ∧ Fr shL shF I I')))))) := fun hm hk y' K' hy' hre hrow z0 hFr => by
        have hTK := hT.fr hFr
        have k98 : K' 98 = I 98 := hFr.1 98 (by decide) (by decide)
        have hV := itr_RW hF hr h1p ⟨hk2.1, hk⟩
        refine y_aln (i := 0) dX12_share_220 at91.ne0 rfl rfl ?_
        refine x_callVI (c_X12_sharesOn (m := itr (T 0 1) (LfS T (I 98)) k (m0S (T 0 1) (LfS T (I 98)))) hW hTK hF (by rw [k98]; exact hr) h1p (by rw [k98]; exact hV.1) hrow) dX12_share_221 lkX12_534 mfX12_sharesOn cfX12 at91 rfl rfl rfl rfl (Nat.le_of_ble_eq_true rfl) (fun r221 I221 P221 hr221 hf221 => ?_)
        rw [k98] at hf221
        obtain ⟨rfl, fr221, h221⟩ := hf221
        refine x_istore (i := 4) dX12_share_224 rfl (Nat.le_of_ble_eq_true rfl) ?_
        refine x_goto (tgt := 86) dX12_share_226 rfl ?_
        refine x_keep [1, 1, 1, 1, 1, 0, 0] ?_
        have := ih (k + 1) r221 I221 (by omega) (by
          rcases h221 with ⟨q1, q2, q3⟩ | ⟨q1, q2⟩
          · have : k ≠ wayW (T 0 1) (LfS T (I 98)) - 1 := fun q => q2 (by rw [q]; exact hall.2.2)
            exact Or.inl ⟨q1, by omega, by omega, fun c c0 c1 => by rw [itr_s hk2.1]; exact q3 c c0 c1⟩
          · have : ¬ k < wayW (T 0 1) (LfS T (I 98)) - 1 := fun q => hall.2.1 k hk2.1 q q2
            exact Or.inr ⟨q1, by omega, by omega⟩) (fun _ => by rw [es, ← hy', fr221.1 142 (by decide) (by decide)]; exact hre) ((fr221.2 0 (by decide)).trans z0) (hFr.tr (fr221.mo (by decide) (by decide)))
        rw [es, ← hy'] at this
        exact this
      have hM : more = 1 → k < wayW (T 0 1) (LfS T (I 98)) → ∀ (j : Nat) (p : Int) (K : Mem), (T 0 1 - p).toNat < j → 1 ≤ p → p ≤ T 0 1 → RE (K 129) (dayS T (-1) (itr (T 0 1) (LfS T (I 98)) k (m0S (T 0 1) (LfS T (I 98))))).2 → (1 ≤ k → RE (K 142) y.2.2) → (∀ c, 0 ≤ c → c < 48 → K 143 c = itr (T 0 1) (LfS T (I 98)) k (m0S (T 0 1) (LfS T (I 98))) c) → K 91 0 = 0 → Fr shL shF I K → V G mX12_share (d + 5) 0 0 127 [some (.inr (.inl 91)), some (.inl (w)), some (.inl (y.1)), some (.inl (y.2.1)), none, some (.inl (lowN T (dayS T (-1) (itr (T 0 1) (LfS T (I 98)) k (m0S (T 0 1) (LfS T (I 98))))).2 p)), some (.inl (p))] [] NO K P (qI NO (fun r I' P' => P' = P ∧ ((¬ (w = 0 ∨ w = 1) ∧ r = 0 ∧ I' = uI (uI I 91 0 0) 91 0 1) ∨ ((w = 0 ∨ w = 1) ∧ I' 91 0 = 0 ∧ ((T 0 1 = 0 ∧ r = -1 ∧ Fr [] [0] I I') ∨ (1 ≤ T 0 1 ∧ 1500 < wayW (T 0 1) (LfS T (I 98)) ∧ r = -2 ∧ Fr [] [0] I I') ∨ (1 ≤ T 0 1 ∧ wayW (T 0 1) (LfS T (I 98)) ≤ 1500 ∧ r = (if w = 0 then (shS T (I 98)).1 else (shS T (I 98)).2.1) ∧ I' 91 89 = 1 ∧ RE (I' 142) (shS T (I 98)).2.2 ∧ Fr shL shF I I')))))) := by
        intro hm hk j
        induction j with
        | zero => intro p K hj; omega
        | succ j ihp =>
          intro p K hj hp hp2 hre hbest hrow z0 hFr
          have hV := itr_RW hF hr h1p ⟨hk2.1, hk⟩
          have hdo := (dayS_ok (w := -1) hF hV.2).1
          obtain ⟨m, hm0⟩ : ∃ m, m = itr (T 0 1) (LfS T (I 98)) k (m0S (T 0 1) (LfS T (I 98))) := ⟨_, rfl⟩
          obtain ⟨D, hD⟩ : ∃ D, D = (dayS T (-1) m).2 := ⟨_, rfl⟩
          rw [← hm0] at hre hdo hrow ⊢
          rw [← hD] at hre hdo ⊢
          have hTK := hT.fr hFr
          have k1 : K 91 1 = T 0 1 := hTK.1 1 (by decide) (by decide)
          have hlo := lowN_bd (n := p) hF hdo.rc h1p hp2
          have els := lowN_s (T := T) (r := D) (n := p) (by omega)
          have elow : p = T 0 1 → lowS T D = lowN T D p := fun q => by unfold lowS; rw [q]
          have hwb := worthS_bd hF hdo.rc
          have hsh : shB T m y = if y.1 < lowS T D ∨ (lowS T D = y.1 ∧ y.2.1 < worthS T D) then (lowS T D, worthS T D, m) else y := by rw [hD]; rfl
          refine x_iload (i := 6) dX12_share_127 rfl ?_
          refine y_aln (i := 0) dX12_share_129 at91.ne0 rfl rfl ?_
          refine y_geti (z := 1) dX12_share_130 frX12_316 cfX12 at91 rfl rfl ?_
          refine x_icmp_ge (tgt := 174) dX12_share_133 rfl (fun h133 => ?_) (fun h133 => ?_)
          · refine y_aln (i := 0) dX12_share_174 at91.ne0 rfl rfl ?_
            refine y_aln (i := 0) dX12_share_175 at91.ne0 rfl rfl ?_
            refine y_getp (z := 75) (v := 129) dX12_share_176 frX12_136 cfX12 at91 rfl rfl (wp (v := 129) hW rfl rfl (by decide)) ?_
            refine x_callVI (c_X12_allWorth hW hTK hF ar129 (hre.sy.rc hdo.rc)) dX12_share_179 lkX12_368 mfX12_allWorth cfX12 at91 rfl rfl rfl rfl (Nat.le_of_ble_eq_true rfl) (fun r179 I179 P179 hr179 hf179 => ?_)
            obtain ⟨i179, p179, q179⟩ := hf179
            rw [i179, p179, q179]
            rw [hre.worth hF]
            have elo := elow (by omega)
            refine x_istore (i := 6) dX12_share_182 rfl (Nat.le_of_ble_eq_true rfl) ?_
            refine x_iload (i := 5) dX12_share_184 rfl ?_
            refine x_iload_n (i := 2) dX12_share_186 rfl rfl ?_
            refine x_icmp_gt (tgt := 202) dX12_share_187 rfl (fun h187 => ?_) (fun h187 => ?_)
            · refine x_iload (i := 5) dX12_share_202 rfl ?_
              refine x_istore_n (i := 2) dX12_share_204 rfl rfl (Nat.le_of_ble_eq_true rfl) ?_
              refine x_iload (i := 6) dX12_share_205 rfl ?_
              refine x_istore_n (i := 3) dX12_share_207 rfl rfl (Nat.le_of_ble_eq_true rfl) ?_
              refine y_aln (i := 0) dX12_share_208 at91.ne0 rfl rfl ?_
              refine y_aln (i := 0) dX12_share_209 at91.ne0 rfl rfl ?_
              refine y_getp (z := 91) (v := 143) dX12_share_210 frX12_178 cfX12 at91 rfl rfl (wp (v := 143) hW rfl rfl (by decide)) ?_
              refine y_aln (i := 0) dX12_share_213 at91.ne0 rfl rfl ?_
              refine y_getp (z := 90) (v := 142) dX12_share_214 frX12_175 cfX12 at91 rfl rfl (wp (v := 142) hW rfl rfl (by decide)) ?_
              refine x_callVV (c_X12_copies ar143 ar142 (by decide) (by decide) (by decide)) dX12_share_217 lkX12_328 mfX12_copies cfX12 at91 rfl rfl rfl rfl (Nat.le_of_ble_eq_true rfl) (fun n217 I217 P217 hf217 => ?_)
              obtain ⟨rfl, hI217, rfl⟩ := hf217
              have hbet : shB T m y = (lowN T D p, worthS T D, m) := by rw [hsh, elo, if_pos (by omega)]
              refine x_keep [1, 1, 1, 1, 0, 0, 0] ?_
              first | (have z := hbet; exact hE hm hk (lowN T D p, worthS T D, m) I217 (by rw [← hm0]; exact hbet.symm) (fun c c0 c1 => by rw [hI217, uA_eq, if_pos ⟨c0, c1⟩]; exact hrow c c0 c1) (fun c c0 c1 => by rw [hI217, uA_ne (by decide), ← hm0]; exact hrow c c0 c1) (by rw [hI217, uA_ne (by decide)]; exact z0) (by rw [hI217]; exact hFr.ua (by decide) (by decide))) | (have z := hwor; exact hE hm hk y K (by rw [← hm0]; exact hwor.symm) (hbest hk1) (by rw [← hm0]; exact hrow) z0 hFr)
            · refine x_iload (i := 5) dX12_share_190 rfl ?_
              refine x_iload_n (i := 2) dX12_share_192 rfl rfl ?_
              refine x_icmp_ne (tgt := 220) dX12_share_193 rfl (fun h193 => ?_) (fun h193 => ?_)
              · have hwor : shB T m y = y := by rw [hsh, elo, if_neg (by omega)]
                have hk1 : 1 ≤ k := by
                  by_cases q : 1 ≤ k
                  · exact q
                  · have : y = shN T (I 98) 0 := by rw [hy, show k = 0 by omega]
                    have e0 : y.1 = -1 := by rw [this]; rfl
                    omega
                refine x_keep [1, 1, 1, 1, 0, 0, 0] ?_
                first | (have z := hbet; exact hE hm hk (lowN T D p, worthS T D, m) I217 (by rw [← hm0]; exact hbet.symm) (fun c c0 c1 => by rw [hI217, uA_eq, if_pos ⟨c0, c1⟩]; exact hrow c c0 c1) (fun c c0 c1 => by rw [hI217, uA_ne (by decide), ← hm0]; exact hrow c c0 c1) (by rw [hI217, uA_ne (by decide)]; exact z0) (by rw [hI217]; exact hFr.ua (by decide) (by decide))) | (have z := hwor; exact hE hm hk y K (by rw [← hm0]; exact hwor.symm) (hbest hk1) (by rw [← hm0]; exact hrow) z0 hFr)
              · refine x_iload (i := 6) dX12_share_196 rfl ?_
                refine x_iload_n (i := 3) dX12_share_198 rfl rfl ?_
                refine x_icmp_le (tgt := 220) dX12_share_199 rfl (fun h199 => ?_) (fun h199 => ?_)
                · have hwor : shB T m y = y := by rw [hsh, elo, if_neg (by omega)]
                  have hk1 : 1 ≤ k := by
                    by_cases q : 1 ≤ k
                    · exact q
                    · have : y = shN T (I 98) 0 := by rw [hy, show k = 0 by omega]
                      have e0 : y.1 = -1 := by rw [this]; rfl
                      omega
                  refine x_keep [1, 1, 1, 1, 0, 0, 0] ?_
                  first | (have z := hbet; exact hE hm hk (lowN T D p, worthS T D, m) I217 (by rw [← hm0]; exact hbet.symm) (fun c c0 c1 => by rw [hI217, uA_eq, if_pos ⟨c0, c1⟩]; exact hrow c c0 c1) (fun c c0 c1 => by rw [hI217, uA_ne (by decide), ← hm0]; exact hrow c c0 c1) (by rw [hI217, uA_ne (by decide)]; exact z0) (by rw [hI217]; exact hFr.ua (by decide) (by decide))) | (have z := hwor; exact hE hm hk y K (by rw [← hm0]; exact hwor.symm) (hbest hk1) (by rw [← hm0]; exact hrow) z0 hFr)
                · refine x_iload (i := 5) dX12_share_202 rfl ?_
                  refine x_istore_n (i := 2) dX12_share_204 rfl rfl (Nat.le_of_ble_eq_true rfl) ?_
                  refine x_iload (i := 6) dX12_share_205 rfl ?_
                  refine x_istore_n (i := 3) dX12_share_207 rfl rfl (Nat.le_of_ble_eq_true rfl) ?_
                  refine y_aln (i := 0) dX12_share_208 at91.ne0 rfl rfl ?_
                  refine y_aln (i := 0) dX12_share_209 at91.ne0 rfl rfl ?_
                  refine y_getp (z := 91) (v := 143) dX12_share_210 frX12_178 cfX12 at91 rfl rfl (wp (v := 143) hW rfl rfl (by decide)) ?_
                  refine y_aln (i := 0) dX12_share_213 at91.ne0 rfl rfl ?_
                  refine y_getp (z := 90) (v := 142) dX12_share_214 frX12_175 cfX12 at91 rfl rfl (wp (v := 142) hW rfl rfl (by decide)) ?_
                  refine x_callVV (c_X12_copies ar143 ar142 (by decide) (by decide) (by decide)) dX12_share_217 lkX12_328 mfX12_copies cfX12 at91 rfl rfl rfl rfl (Nat.le_of_ble_eq_true rfl) (fun n217 I217 P217 hf217 => ?_)
                  obtain ⟨rfl, hI217, rfl⟩ := hf217
                  have hbet : shB T m y = (lowN T D p, worthS T D, m) := by rw [hsh, elo, if_pos (by omega)]
                  refine x_keep [1, 1, 1, 1, 0, 0, 0] ?_
                  first | (have z := hbet; exact hE hm hk (lowN T D p, worthS T D, m) I217 (by rw [← hm0]; exact hbet.symm) (fun c c0 c1 => by rw [hI217, uA_eq, if_pos ⟨c0, c1⟩]; exact hrow c c0 c1) (fun c c0 c1 => by rw [hI217, uA_ne (by decide), ← hm0]; exact hrow c c0 c1) (by rw [hI217, uA_ne (by decide)]; exact z0) (by rw [hI217]; exact hFr.ua (by decide) (by decide))) | (have z := hwor; exact hE hm hk y K (by rw [← hm0]; exact hwor.symm) (hbest hk1) (by rw [← hm0]; exact hrow) z0 hFr)
          · refine y_aln (i := 0) dX12_share_136 at91.ne0 rfl rfl ?_
            refine y_aln (i := 0) dX12_share_137 at91.ne0 rfl rfl ?_
            refine y_getp (z := 75) (v := 129) dX12_share_138 frX12_136 cfX12 at91 rfl rfl (wp (v := 129) hW rfl rfl (by decide)) ?_
            refine x_iload (i := 6) dX12_share_141 rfl ?_
            refine x_callVI (c_X12_bagOf hW hTK hF ar129 (hre.sy.rc hdo.rc) ⟨by omega, by omega⟩) dX12_share_143 lkX12_351 mfX12_bagOf cfX12 at91 rfl rfl rfl rfl (Nat.le_of_ble_eq_true rfl) (fun r143 I143 P143 hr143 hf143 => ?_)
            obtain ⟨i143, p143, q143⟩ := hf143
            rw [i143, p143, q143]
            rw [hre.bag hF ⟨by omega, by omega⟩]
            refine x_iload (i := 5) dX12_share_146 rfl ?_
            refine x_icmp_ge (tgt := 164) dX12_share_148 rfl (fun h148 => ?_) (fun h148 => ?_)
            · refine x_iload (i := 5) dX12_share_164 rfl ?_
              refine x_istore (i := 5) dX12_share_166 rfl (Nat.le_of_ble_eq_true rfl) ?_
              refine x_iinc dX12_share_168 rfl ⟨by omega, by omega⟩ rfl (Nat.le_of_ble_eq_true rfl) ?_
              refine x_goto (tgt := 127) dX12_share_171 rfl ?_
              refine x_keep [1, 1, 1, 1, 0, 1, 1] ?_
              have := ihp (p + 1) K (by omega) (by omega) (by omega) (by rw [← hm0, ← hD]; exact hre) hbest (by rw [← hm0]; exact hrow) z0 hFr
              rw [← hm0, ← hD, els] at this
              first | (rw [if_pos (by omega)] at this; exact this) | (rw [if_neg (by omega)] at this; exact this)
            · refine y_aln (i := 0) dX12_share_151 at91.ne0 rfl rfl ?_
              refine y_aln (i := 0) dX12_share_152 at91.ne0 rfl rfl ?_
              refine y_getp (z := 75) (v := 129) dX12_share_153 frX12_136 cfX12 at91 rfl rfl (wp (v := 129) hW rfl rfl (by decide)) ?_
              refine x_iload (i := 6) dX12_share_156 rfl ?_
              refine x_callVI (c_X12_bagOf hW hTK hF ar129 (hre.sy.rc hdo.rc) ⟨by omega, by omega⟩) dX12_share_158 lkX12_351 mfX12_bagOf cfX12 at91 rfl rfl rfl rfl (Nat.le_of_ble_eq_true rfl) (fun r158 I158 P158 hr158 hf158 => ?_)
              obtain ⟨i158, p158, q158⟩ := hf158
              rw [i158, p158, q158]
              rw [hre.bag hF ⟨by omega, by omega⟩]
              refine x_goto (tgt := 166) dX12_share_161 rfl ?_
              refine x_istore (i := 5) dX12_share_166 rfl (Nat.le_of_ble_eq_true rfl) ?_
              refine x_iinc dX12_share_168 rfl ⟨by omega, by omega⟩ rfl (Nat.le_of_ble_eq_true rfl) ?_
              refine x_goto (tgt := 127) dX12_share_171 rfl ?_
              refine x_keep [1, 1, 1, 1, 0, 1, 1] ?_
              have := ihp (p + 1) K (by omega) (by omega) (by omega) (by rw [← hm0, ← hD]; exact hre) hbest (by rw [← hm0]; exact hrow) z0 hFr
              rw [← hm0, ← hD, els] at this
              first | (rw [if_pos (by omega)] at this; exact this) | (rw [if_neg (by omega)] at this; exact this)
      refine x_iload (i := 4) dX12_share_86 rfl ?_
      refine x_if_eq (tgt := 229) dX12_share_88 rfl (fun h88 => ?_) (fun h88 => ?_)
      · have hc0 := hc.resolve_left (fun q => by have := q.1; omega)
        have hfy := hfin hc0.2.1
        refine y_aln (i := 0) dX12_share_229 at91.ne0 rfl rfl ?_
        refine y_ic dX12_share_230 ⟨by decide, by decide⟩ ?_
        refine y_putz (z := 89) dX12_share_231 frX12_341 cfX12 at91 rfl rfl rfl (by omega) ?_
        refine x_iload_n (i := 1) dX12_share_234 rfl rfl ?_
        refine x_if_ne (tgt := 242) dX12_share_235 rfl (fun h235 => ?_) (fun h235 => ?_)
        · refine x_iload_n (i := 3) dX12_share_242 rfl rfl ?_
          refine x_iret dX12_share_243 rfl ?_
          refine ⟨rfl, Or.inr ⟨hw, by rw [uI_eq, u1_ne (by decide)]; exact z0, Or.inr (Or.inr ⟨h1p, h15, ?_, by rw [uI_eq, u1_eq], by rw [uI_ne (by decide), hfy]; exact hbest hc0.2.2, hFr.uf (by decide)⟩)⟩⟩
          rw [hfy]
          first | (rw [if_pos (by omega)]; done) | (rw [if_neg (by omega)]; done)
        · refine x_iload_n (i := 2) dX12_share_238 rfl rfl ?_
          refine x_goto (tgt := 243) dX12_share_239 rfl ?_
          refine x_iret dX12_share_243 rfl ?_
          refine ⟨rfl, Or.inr ⟨hw, by rw [uI_eq, u1_ne (by decide)]; exact z0, Or.inr (Or.inr ⟨h1p, h15, ?_, by rw [uI_eq, u1_eq], by rw [uI_ne (by decide), hfy]; exact hbest hc0.2.2, hFr.uf (by decide)⟩)⟩⟩
          rw [hfy]
          first | (rw [if_pos (by omega)]; done) | (rw [if_neg (by omega)]; done)
      · have hc1 := hc.resolve_right (fun q => by have := q.1; omega)
        have hV := itr_RW hF hr h1p ⟨hk2.1, hc1.2.2.1⟩
        refine y_aln (i := 0) dX12_share_91 at91.ne0 rfl rfl ?_
        refine y_aln (i := 0) dX12_share_92 at91.ne0 rfl rfl ?_
        refine y_getp (z := 91) (v := 143) dX12_share_93 frX12_178 cfX12 at91 rfl rfl (wp (v := 143) hW rfl rfl (by decide)) ?_
        refine y_aln (i := 0) dX12_share_96 at91.ne0 rfl rfl ?_
        refine y_getp (z := 75) (v := 129) dX12_share_97 frX12_136 cfX12 at91 rfl rfl (wp (v := 129) hW rfl rfl (by decide)) ?_
        refine x_callVV (c_X12_copies ar143 ar129 (by decide) (by decide) (by decide)) dX12_share_100 lkX12_328 mfX12_copies cfX12 at91 rfl rfl rfl rfl (Nat.le_of_ble_eq_true rfl) (fun n100 I100 P100 hf100 => ?_)
        obtain ⟨rfl, hI100, rfl⟩ := hf100
        have re100 : RE (I100 129) (itr (T 0 1) (LfS T (I 98)) k (m0S (T 0 1) (LfS T (I 98)))) := fun c c0 c1 => by rw [hI100, uA_eq, if_pos ⟨c0, c1⟩]; exact hc1.2.2.2 c c0 c1
        have hFr1 : Fr shL shF I I100 := by rw [hI100]; exact hFr.ua (by decide) (by decide)
        refine y_aln (i := 0) dX12_share_103 at91.ne0 rfl rfl ?_
        refine y_aln (i := 0) dX12_share_104 at91.ne0 rfl rfl ?_
        refine y_getp (z := 75) (v := 129) dX12_share_105 frX12_136 cfX12 at91 rfl rfl (wp (v := 129) hW rfl rfl (by decide)) ?_
        refine y_ic dX12_share_108 ⟨by decide, by decide⟩ ?_
        refine x_callVI (c_X12_day hW (hT.fr hFr1) hF ar129 (by decide) (by decide) (re100.sy.rw hV.2)) dX12_share_109 lkX12_482 mfX12_day cfX12 at91 rfl rfl rfl rfl (Nat.le_of_ble_eq_true rfl) (fun r109 I109 P109 hr109 hf109 => ?_)
        obtain ⟨rfl, p109, o109, fr109⟩ := hf109
        have hre : RE (I109 129) (dayS T (-1) (itr (T 0 1) (LfS T (I 98)) k (m0S (T 0 1) (LfS T (I 98))))).2 := by rw [o109]; exact (RE.day re100 hF).2
        have hdo := (dayS_ok (w := -1) hF hV.2).1
        have hFr2 : Fr shL shF I I109 := hFr1.tr (fr109.mo (by decide) (by decide))
        refine x_pop dX12_share_112 rfl ?_
        refine y_aln (i := 0) dX12_share_113 at91.ne0 rfl rfl ?_
        refine y_aln (i := 0) dX12_share_114 at91.ne0 rfl rfl ?_
        refine y_getp (z := 75) (v := 129) dX12_share_115 frX12_136 cfX12 at91 rfl rfl (wp (v := 129) hW rfl rfl (by decide)) ?_
        refine y_ic dX12_share_118 ⟨by decide, by decide⟩ ?_
        refine x_callVI (c_X12_bagOf hW (hT.fr hFr2) hF ar129 (hre.sy.rc hdo.rc) ⟨by decide, by omega⟩) dX12_share_119 lkX12_351 mfX12_bagOf cfX12 at91 rfl rfl rfl rfl (Nat.le_of_ble_eq_true rfl) (fun r119 I119 P119 hr119 hf119 => ?_)
        obtain ⟨i119, p119, q119⟩ := hf119
        rw [i119, p119, q119]
        rw [hre.bag hF ⟨by decide, by omega⟩]
        refine x_istore (i := 5) dX12_share_122 rfl (Nat.le_of_ble_eq_true rfl) ?_
        refine y_ic dX12_share_124 ⟨by decide, by decide⟩ ?_
        refine x_istore (i := 6) dX12_share_125 rfl (Nat.le_of_ble_eq_true rfl) ?_
        refine x_keep [1, 1, 1, 1, 0, 1, 1] ?_
        have := hM hc1.1 hc1.2.2.1 _ 1 I109 (Nat.lt_succ_self _) (by decide) h1p hre (fun q => by rw [fr109.1 142 (by decide) (by decide), hI100, uA_ne (by decide)]; exact hbest q) (fun c c0 c1 => by rw [fr109.1 143 (by decide) (by decide), hI100, uA_ne (by decide)]; exact hc1.2.2.2 c c0 c1) (by rw [fr109.2 0 (by decide), hI100, uA_ne (by decide)]; exact z0) hFr2
        rw [lowN_1] at this
        exact this
  have hZ : (w = 0 ∨ w = 1) → 1 ≤ T 0 1 → wayW (T 0 1) (LfS T (I 98)) ≤ 1500 → ∀ (j : Nat) (k : Int) (K : Mem), (48 - k).toNat < j → 0 ≤ k → k ≤ 48 → (∀ c, 0 ≤ c → c < k → K 143 c = 0) → K 91 0 = 0 → Fr shL shF I K → V G mX12_share (d + 5) 0 0 54 [some (.inr (.inl 91)), some (.inl (w)), some (.inl (k)), none, none, none, none] [] NO K P (qI NO (fun r I' P' => P' = P ∧ ((¬ (w = 0 ∨ w = 1) ∧ r = 0 ∧ I' = uI (uI I 91 0 0) 91 0 1) ∨ ((w = 0 ∨ w = 1) ∧ I' 91 0 = 0 ∧ ((T 0 1 = 0 ∧ r = -1 ∧ Fr [] [0] I I') ∨ (1 ≤ T 0 1 ∧ 1500 < wayW (T 0 1) (LfS T (I 98)) ∧ r = -2 ∧ Fr [] [0] I I') ∨ (1 ≤ T 0 1 ∧ wayW (T 0 1) (LfS T (I 98)) ≤ 1500 ∧ r = (if w = 0 then (shS T (I 98)).1 else (shS T (I 98)).2.1) ∧ I' 91 89 = 1 ∧ RE (I' 142) (shS T (I 98)).2.2 ∧ Fr shL shF I I')))))) := by
    intro hw h1p h15 j
    induction j with
    | zero => intro k K hj; omega
    | succ j ih =>
      intro k K hj hk hk2 hc z0 hFr
      have hTK := hT.fr hFr
      have k98 : K 98 = I 98 := hFr.1 98 (by decide) (by decide)
      refine x_iload_n (i := 2) dX12_share_54 rfl rfl ?_
      refine y_bi dX12_share_55 ⟨by decide, by decide⟩ ?_
      refine x_icmp_ge (tgt := 73) dX12_share_57 rfl (fun h57 => ?_) (fun h57 => ?_)
      · refine y_aln (i := 0) dX12_share_73 at91.ne0 rfl rfl ?_
        refine y_ic dX12_share_74 ⟨by decide, by decide⟩ ?_
        refine y_ic dX12_share_75 ⟨by decide, by decide⟩ ?_
        refine x_callVV (c_X12_deals (m := fun _ => 0) hW hTK hF (by rw [k98]; exact hr) ⟨by decide, by omega⟩ ⟨by decide, by omega⟩ (by omega) (fun c c0 c1 => by omega) (by
          rw [k98]
          exact ⟨fun c c0 c1 => by omega, fun x x0 x1 => by
            unfold rsS
            rw [show owS (8 * 0 + 0) x = 0 by unfold owS; omega]
            have := (LfS_nn hF hr x x0 x1).1
            show 0 ≤ LfS T (I 98) x - 0
            omega⟩)) dX12_share_76 lkX12_525 mfX12_deals cfX12 at91 rfl rfl rfl rfl (Nat.le_of_ble_eq_true rfl) (fun n76 I76 P76 hf76 => ?_)
        rw [k98] at hf76
        obtain ⟨rfl, rfl, fr76, v76, o76⟩ := hf76
        have hV0 := m0S_V (K := T 0 1) (L := LfS T (I 98)) h1p (fun x x0 x1 => (LfS_nn hF hr x x0 x1).1)
        have hall := sh_all (K := T 0 1) (L := LfS T (I 98)) h1p (fun x x0 x1 => (LfS_nn hF hr x x0 x1).1)
        refine y_ic dX12_share_79 ⟨by decide, by decide⟩ ?_
        refine x_istore_n (i := 2) dX12_share_80 rfl rfl (Nat.le_of_ble_eq_true rfl) ?_
        refine y_ic dX12_share_81 ⟨by decide, by decide⟩ ?_
        refine x_istore_n (i := 3) dX12_share_82 rfl rfl (Nat.le_of_ble_eq_true rfl) ?_
        refine y_ic dX12_share_83 ⟨by decide, by decide⟩ ?_
        refine x_istore (i := 4) dX12_share_84 rfl (Nat.le_of_ble_eq_true rfl) ?_
        refine x_keep [1, 1, 1, 1, 1, 0, 0] ?_
        refine hL hw h1p h15 _ 0 1 I76 (Nat.lt_succ_self _) (Or.inl ⟨rfl, Int.le_refl _, by omega, fun c c0 c1 => ?_⟩) (fun q => absurd q (by decide)) ((fr76.2 0 (by decide)).trans z0) (hFr.tr (fr76.mo (by decide) (by decide)))
        show I76 143 c = m0S (T 0 1) (LfS T (I 98)) c
        by_cases q1 : c < 8 * T 0 1 ∧ c % 8 < T 0 2
        · rw [v76 c c0 q1.1 q1.2]; rfl
        · rw [o76 c (by omega), hc c c0 (by omega)]
          by_cases q2 : c < 8 * T 0 1
          · have a2 := VSh_z hV0 (x := c % 8) ⟨by omega, by omega⟩ (LfS_z hF hr ⟨by omega, by omega⟩) (p := c / 8) (by omega)
            rw [show 8 * (c / 8) + c % 8 = c by omega] at a2
            exact a2.symm
          · exact (hV0.2.2 c (by omega)).symm
      · refine y_aln (i := 0) dX12_share_60 at91.ne0 rfl rfl ?_
        refine y_getp (z := 91) (v := 143) dX12_share_61 frX12_178 cfX12 at91 rfl rfl (wp (v := 143) hW rfl rfl (by decide)) ?_
        refine x_iload_n (i := 2) dX12_share_64 rfl rfl ?_
        refine y_ic dX12_share_65 ⟨by decide, by decide⟩ ?_
        refine x_iast dX12_share_66 ar143 ⟨by omega, by omega⟩ ?_
        refine x_iinc dX12_share_67 rfl ⟨by omega, by omega⟩ rfl (Nat.le_of_ble_eq_true rfl) ?_
        refine x_goto (tgt := 54) dX12_share_70 rfl ?_
        refine x_keep [1, 1, 1, 0, 0, 0, 0] ?_
        refine ih (k + 1) _ (by omega) (by omega) (by omega) (fun c c0 c1 => ?_) (by rw [uI_ne (by decide)]; exact z0) (hFr.ui (by decide) (by decide))
        rw [uI_eq]
        by_cases e : c = k
        · rw [e, u1_eq]
        · rw [u1_ne e]; exact hc c c0 (by omega)
  have e1 : uI I 91 0 0 91 1 = T 0 1 := hT0.1 1 (by decide) (by decide)
  refine y_aln (i := 0) dX12_share_0 at91.ne0 rfl rfl ?_
  refine y_ic dX12_share_1 ⟨by decide, by decide⟩ ?_
  refine y_puti (z := 0) dX12_share_2 frX12_184 cfX12 at91 rfl rfl rfl ?_
  refine y_aln (i := 0) dX12_share_5 at91.ne0 rfl rfl ?_
  refine x_iload_n (i := 1) dX12_share_6 rfl rfl ?_
  refine x_if_eq (tgt := 15) dX12_share_7 rfl (fun h7 => ?_) (fun h7 => ?_)
  · refine y_ic dX12_share_15 ⟨by decide, by decide⟩ ?_
    refine x_goto (tgt := 20) dX12_share_16 rfl ?_
    refine y_ic dX12_share_20 ⟨by decide, by decide⟩ ?_
    refine x_callVI (c_X12_right hW z_0 (by omega) (by decide)) dX12_share_21 lkX12_309 mfX12_right cfX12 at91 rfl rfl rfl rfl (Nat.le_of_ble_eq_true rfl) (fun r21 I21 P21 hr21 hf21 => ?_)
    obtain ⟨rfl, h21⟩ := hf21
    refine x_if_ne (tgt := 29) dX12_share_24 rfl (fun h24 => ?_) (fun h24 => ?_)
    · obtain ⟨a1, a2, a3⟩ := h21.resolve_right (fun q => by have := q.2.1; omega)
      rw [a3]
      refine y_aln (i := 0) dX12_share_29 at91.ne0 rfl rfl ?_
      refine y_geti (z := 1) dX12_share_30 frX12_316 cfX12 at91 rfl rfl ?_
      refine x_if_ne (tgt := 38) dX12_share_33 rfl (fun h33 => ?_) (fun h33 => ?_)
      · refine y_aln (i := 0) dX12_share_38 at91.ne0 rfl rfl ?_
        refine x_callVL (c_X12_waysToShare hW hT0 hF (by rw [e98]; exact hr) (by omega)) dX12_share_39 lkX12_530 mfX12_waysToShare cfX12 at91 rfl rfl rfl rfl (Nat.le_of_ble_eq_true rfl) (fun r39 I39 P39 hr39 hf39 => ?_)
        obtain ⟨i39, p39, q39⟩ := hf39
        rw [i39, p39]
        rw [e98] at q39
        refine y_ldc2 dX12_share_42 klX12_528 (show _ = oL (1500) from rfl) ⟨by decide, by decide⟩ ?_
        refine x_lcmp dX12_share_45 ?_
        refine x_if_le (tgt := 52) dX12_share_46 rfl (fun h46 => ?_) (fun h46 => ?_)
        · have hle : wayW (T 0 1) (LfS T (I 98)) ≤ 1500 := q39.mp (Int.not_lt.mp (fun q => absurd (cmpI_gt.mpr q) (by omega)))
          refine y_ic dX12_share_52 ⟨by decide, by decide⟩ ?_
          refine x_istore_n (i := 2) dX12_share_53 rfl rfl (Nat.le_of_ble_eq_true rfl) ?_
          refine x_keep [1, 1, 1, 0, 0, 0, 0] ?_
          exact hZ (by omega) (by omega) hle _ 0 _ (Nat.lt_succ_self _) (by decide) (by decide) (fun c c0 c1 => by omega) (by rw [uI_eq, u1_eq]) (Fr.rf.uf (by decide))
        · have hgt : 1500 < wayW (T 0 1) (LfS T (I 98)) := Int.not_le.mp (fun q => absurd (cmpI_gt.mp h46) (Int.not_lt.mpr (q39.mpr q)))
          refine y_bi dX12_share_49 ⟨by decide, by decide⟩ ?_
          refine x_iret dX12_share_51 rfl ?_
          exact ⟨rfl, Or.inr ⟨by omega, by rw [uI_eq, u1_eq], Or.inr (Or.inl ⟨by omega, hgt, rfl, Fr.rf.uf (by decide)⟩)⟩⟩
      · refine y_ic dX12_share_36 ⟨by decide, by decide⟩ ?_
        refine x_iret dX12_share_37 rfl ?_
        exact ⟨rfl, Or.inr ⟨by omega, by rw [uI_eq, u1_eq], Or.inl ⟨by omega, rfl, Fr.rf.uf (by decide)⟩⟩⟩
    · obtain ⟨a1, a2, a3⟩ := h21.resolve_left (fun q => by have := q.2.1; omega)
      refine y_ic dX12_share_27 ⟨by decide, by decide⟩ ?_
      refine x_iret dX12_share_28 rfl ?_
      first | exact ⟨rfl, Or.inl ⟨by omega, rfl, a3⟩⟩ | exact absurd a1 (by decide)
  · refine x_iload_n (i := 1) dX12_share_10 rfl rfl ?_
    refine y_ic dX12_share_11 ⟨by decide, by decide⟩ ?_
    refine x_icmp_ne (tgt := 19) dX12_share_12 rfl (fun h12 => ?_) (fun h12 => ?_)
    · refine y_ic dX12_share_19 ⟨by decide, by decide⟩ ?_
      refine y_ic dX12_share_20 ⟨by decide, by decide⟩ ?_
      refine x_callVI (c_X12_right hW z_0 (by omega) (by decide)) dX12_share_21 lkX12_309 mfX12_right cfX12 at91 rfl rfl rfl rfl (Nat.le_of_ble_eq_true rfl) (fun r21 I21 P21 hr21 hf21 => ?_)
      obtain ⟨rfl, h21⟩ := hf21
      refine x_if_ne (tgt := 29) dX12_share_24 rfl (fun h24 => ?_) (fun h24 => ?_)
      · obtain ⟨a1, a2, a3⟩ := h21.resolve_right (fun q => by have := q.2.1; omega)
        rw [a3]
        refine y_aln (i := 0) dX12_share_29 at91.ne0 rfl rfl ?_
        refine y_geti (z := 1) dX12_share_30 frX12_316 cfX12 at91 rfl rfl ?_
        refine x_if_ne (tgt := 38) dX12_share_33 rfl (fun h33 => ?_) (fun h33 => ?_)
        · refine y_aln (i := 0) dX12_share_38 at91.ne0 rfl rfl ?_
          refine x_callVL (c_X12_waysToShare hW hT0 hF (by rw [e98]; exact hr) (by omega)) dX12_share_39 lkX12_530 mfX12_waysToShare cfX12 at91 rfl rfl rfl rfl (Nat.le_of_ble_eq_true rfl) (fun r39 I39 P39 hr39 hf39 => ?_)
          obtain ⟨i39, p39, q39⟩ := hf39
          rw [i39, p39]
          rw [e98] at q39
          refine y_ldc2 dX12_share_42 klX12_528 (show _ = oL (1500) from rfl) ⟨by decide, by decide⟩ ?_
          refine x_lcmp dX12_share_45 ?_
          refine x_if_le (tgt := 52) dX12_share_46 rfl (fun h46 => ?_) (fun h46 => ?_)
          · have hle : wayW (T 0 1) (LfS T (I 98)) ≤ 1500 := q39.mp (Int.not_lt.mp (fun q => absurd (cmpI_gt.mpr q) (by omega)))
            refine y_ic dX12_share_52 ⟨by decide, by decide⟩ ?_
            refine x_istore_n (i := 2) dX12_share_53 rfl rfl (Nat.le_of_ble_eq_true rfl) ?_
            refine x_keep [1, 1, 1, 0, 0, 0, 0] ?_
            exact hZ (by omega) (by omega) hle _ 0 _ (Nat.lt_succ_self _) (by decide) (by decide) (fun c c0 c1 => by omega) (by rw [uI_eq, u1_eq]) (Fr.rf.uf (by decide))
          · have hgt : 1500 < wayW (T 0 1) (LfS T (I 98)) := Int.not_le.mp (fun q => absurd (cmpI_gt.mp h46) (Int.not_lt.mpr (q39.mpr q)))
            refine y_bi dX12_share_49 ⟨by decide, by decide⟩ ?_
            refine x_iret dX12_share_51 rfl ?_
            exact ⟨rfl, Or.inr ⟨by omega, by rw [uI_eq, u1_eq], Or.inr (Or.inl ⟨by omega, hgt, rfl, Fr.rf.uf (by decide)⟩)⟩⟩
        · refine y_ic dX12_share_36 ⟨by decide, by decide⟩ ?_
          refine x_iret dX12_share_37 rfl ?_
          exact ⟨rfl, Or.inr ⟨by omega, by rw [uI_eq, u1_eq], Or.inl ⟨by omega, rfl, Fr.rf.uf (by decide)⟩⟩⟩
      · obtain ⟨a1, a2, a3⟩ := h21.resolve_left (fun q => by have := q.2.1; omega)
        refine y_ic dX12_share_27 ⟨by decide, by decide⟩ ?_
        refine x_iret dX12_share_28 rfl ?_
        first | exact ⟨rfl, Or.inl ⟨by omega, rfl, a3⟩⟩ | exact absurd a1 (by decide)
    · refine y_ic dX12_share_15 ⟨by decide, by decide⟩ ?_
      refine x_goto (tgt := 20) dX12_share_16 rfl ?_
      refine y_ic dX12_share_20 ⟨by decide, by decide⟩ ?_
      refine x_callVI (c_X12_right hW z_0 (by omega) (by decide)) dX12_share_21 lkX12_309 mfX12_right cfX12 at91 rfl rfl rfl rfl (Nat.le_of_ble_eq_true rfl) (fun r21 I21 P21 hr21 hf21 => ?_)
      obtain ⟨rfl, h21⟩ := hf21
      refine x_if_ne (tgt := 29) dX12_share_24 rfl (fun h24 => ?_) (fun h24 => ?_)
      · obtain ⟨a1, a2, a3⟩ := h21.resolve_right (fun q => by have := q.2.1; omega)
        rw [a3]
        refine y_aln (i := 0) dX12_share_29 at91.ne0 rfl rfl ?_
        refine y_geti (z := 1) dX12_share_30 frX12_316 cfX12 at91 rfl rfl ?_
        refine x_if_ne (tgt := 38) dX12_share_33 rfl (fun h33 => ?_) (fun h33 => ?_)
        · refine y_aln (i := 0) dX12_share_38 at91.ne0 rfl rfl ?_
          refine x_callVL (c_X12_waysToShare hW hT0 hF (by rw [e98]; exact hr) (by omega)) dX12_share_39 lkX12_530 mfX12_waysToShare cfX12 at91 rfl rfl rfl rfl (Nat.le_of_ble_eq_true rfl) (fun r39 I39 P39 hr39 hf39 => ?_)
          obtain ⟨i39, p39, q39⟩ := hf39
          rw [i39, p39]
          rw [e98] at q39
          refine y_ldc2 dX12_share_42 klX12_528 (show _ = oL (1500) from rfl) ⟨by decide, by decide⟩ ?_
          refine x_lcmp dX12_share_45 ?_
          refine x_if_le (tgt := 52) dX12_share_46 rfl (fun h46 => ?_) (fun h46 => ?_)
          · have hle : wayW (T 0 1) (LfS T (I 98)) ≤ 1500 := q39.mp (Int.not_lt.mp (fun q => absurd (cmpI_gt.mpr q) (by omega)))
            refine y_ic dX12_share_52 ⟨by decide, by decide⟩ ?_
            refine x_istore_n (i := 2) dX12_share_53 rfl rfl (Nat.le_of_ble_eq_true rfl) ?_
            refine x_keep [1, 1, 1, 0, 0, 0, 0] ?_
            exact hZ (by omega) (by omega) hle _ 0 _ (Nat.lt_succ_self _) (by decide) (by decide) (fun c c0 c1 => by omega) (by rw [uI_eq, u1_eq]) (Fr.rf.uf (by decide))
          · have hgt : 1500 < wayW (T 0 1) (LfS T (I 98)) := Int.not_le.mp (fun q => absurd (cmpI_gt.mp h46) (Int.not_lt.mpr (q39.mpr q)))
            refine y_bi dX12_share_49 ⟨by decide, by decide⟩ ?_
            refine x_iret dX12_share_51 rfl ?_
            exact ⟨rfl, Or.inr ⟨by omega, by rw [uI_eq, u1_eq], Or.inr (Or.inl ⟨by omega, hgt, rfl, Fr.rf.uf (by decide)⟩)⟩⟩
        · refine y_ic dX12_share_36 ⟨by decide, by decide⟩ ?_
          refine x_iret dX12_share_37 rfl ?_
          exact ⟨rfl, Or.inr ⟨by omega, by rw [uI_eq, u1_eq], Or.inl ⟨by omega, rfl, Fr.rf.uf (by decide)⟩⟩⟩
      · obtain ⟨a1, a2, a3⟩ := h21.resolve_left (fun q => by have := q.2.1; omega)
        refine y_ic dX12_share_27 ⟨by decide, by decide⟩ ?_
        refine x_iret dX12_share_28 rfl ?_
        first | exact ⟨rfl, Or.inl ⟨by omega, rfl, a3⟩⟩ | exact absurd a1 (by decide)
end

