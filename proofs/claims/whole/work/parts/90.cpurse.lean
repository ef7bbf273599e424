/-! ===== the class: the purse once more, with what stays; the best share ===== -/
theorem RE.low {T : Tn} {r r' : Rw} (h : RE r r') (hT : WF T) (h1 : 1 ≤ T 0 1) : lowS T r = lowS T r' := by
  unfold lowS lowN
  rw [h.bag hT ⟨Int.le_refl 0, by omega⟩]
  exact itN_congr (fun p v h0 hp => by rw [h.bag hT ⟨h0, hp⟩])
section
variable {G : HX} {d : Nat} {I : Mem} {P : Ptr} {T : Tn}
theorem c_X5_fillB {so f m : Int} {b : Rw} (hW : WP P) (hs : I 77 2 = so) (h8 : 1 ≤ so ∧ so ≤ 8) (hr : ∀ s, 0 ≤ s → s < so → 0 ≤ I 78 s ∧ I 78 s ≤ 960) (hf : 0 ≤ f ∧ f ≤ so) (hm : 0 ≤ m) (hb : ∀ s, 0 ≤ s → s < f → I 79 s = b s) : Cv G mX5_fill (d + 1) 0 0 [.inr (.inl 77), .inl f, .inl m] NO I P (qV (fun n I' P' => n = NO ∧ P' = P ∧ (∀ a, a ≠ 79 → I' a = I a) ∧ (∀ s, 0 ≤ s → s < so → I' 79 s = fillS so (I 78) f m b s) ∧ ∀ c, so ≤ c → I' 79 c = I 79 c)) := by
  refine x_enter mfX5_fill rfl (Nat.le_of_ble_eq_true rfl) (fun _ => ?_)
  refine x_rng 2 rfl (fun hrm => ?_)
  obtain ⟨hrm1, hrm2⟩ := hrm
  have hL : ∀ (j : Nat) (s : Int) (K : Mem), (s + 1).toNat < j → f - 1 ≤ s → s < so → (∀ c, K 79 c = if s < c ∧ c < so then min (I 78 c) (remS so (I 78) m (so - 1 - c)) else I 79 c) → (∀ q, q ≠ 79 → K q = I q) → V G mX5_fill (d + 1) 0 0 10 [some (.inr (.inl 77)), some (.inl (f)), none, some (.inl (remS so (I 78) m (so - 1 - s))), some (.inl (s))] [] NO K P (qV (fun n I' P' => n = NO ∧ P' = P ∧ (∀ a, a ≠ 79 → I' a = I a) ∧ (∀ s, 0 ≤ s → s < so → I' 79 s = fillS so (I 78) f m b s) ∧ ∀ c, so ≤ c → I' 79 c = I 79 c)) := by
    intro j
    induction j with
    | zero => intro s K hj; omega
    | succ j ih =>
      intro s K hj hs hs2 hK hKo
      have hbd := remS_bd (so := so) (fu := I 78) (m := m) (i := so - 1 - s) hm (by omega) (fun t t0 t1 => (hr t (by omega) (by omega)).1)
      have e78 : K 78 = I 78 := hKo 78 (by decide)
      have e79 : ∀ v, uI K 79 s v 79 s = v := fun v => by rw [uI_eq, u1_eq]
      have es : s - 1 < so → remS so (I 78) m (so - 1 - (s - 1)) = remS so (I 78) m (so - 1 - s) - min (I 78 s) (remS so (I 78) m (so - 1 - s)) := fun _ => by
        rw [show so - 1 - (s - 1) = so - 1 - s + 1 by omega, remS_s (by omega), show so - 1 - (so - 1 - s) = s by omega]
      obtain ⟨l, hl⟩ : ∃ l, l = remS so (I 78) m (so - 1 - s) := ⟨_, rfl⟩
      rw [← hl] at hbd es ⊢
      have h78 : f ≤ s → 0 ≤ I 78 s ∧ I 78 s ≤ 960 := fun q => hr s (by omega) (by omega)
      have nx : ∀ w, w = min (I 78 s) l → f ≤ s → V G mX5_fill (d + 1) 0 0 10 [some (.inr (.inl 77)), some (.inl (f)), none, some (.inl (l - w)), some (.inl (s - 1))] [] NO (uI K 79 s w) P (qV (fun n I' P' => n = NO ∧ P' = P ∧ (∀ a, a ≠ 79 → I' a = I a) ∧ (∀ s, 0 ≤ s → s < so → I' 79 s = fillS so (I 78) f m b s) ∧ ∀ c, so ≤ c → I' 79 c = I 79 c)) := fun w hw q => by
        have := ih (s - 1) (uI K 79 s w) (by omega) (by omega) (by omega) (fun c => by
          rw [uI_eq]
          by_cases ec : c = s
          · rw [ec, u1_eq, if_pos (by omega), ← hl]; exact hw
          · rw [u1_ne ec, hK]
            by_cases e : s < c ∧ c < so
            · rw [if_pos e, if_pos (by omega)]
            · rw [if_neg e, if_neg (by omega)]) (fun q hq => by rw [uI_ne hq]; exact hKo q hq)
        rw [es (by omega), ← hw] at this
        exact this
      have hret : s < f → ∀ t, 0 ≤ t → t < so → K 79 t = fillS so (I 78) f m b t := fun q t t0 t1 => by
        unfold fillS
        rw [hK]
        by_cases e : f ≤ t
        · rw [if_pos (by omega), if_pos e]
        · rw [if_neg (by omega), if_neg e]; exact hb t t0 (by omega)
      refine x_iload (i := 4) dX5_fill_10 rfl ?_
      refine x_iload_n (i := 1) dX5_fill_12 rfl rfl ?_
      refine x_icmp_lt (tgt := 50) dX5_fill_13 rfl (fun h13 => ?_) (fun h13 => ?_)
      · refine x_vret dX5_fill_50 rfl ?_
        exact ⟨rfl, rfl, hKo, hret (by omega), fun c hc => by rw [hK, if_neg (by omega)]⟩
      · have h78' := h78 (by omega)
        refine y_aln (i := 0) dX5_fill_16 at77.ne0 rfl rfl ?_
        refine y_getp (z := 1) (v := 79) dX5_fill_17 frX5_15 cfX5 at77 rfl rfl (wp (v := 79) hW rfl rfl (by decide)) ?_
        refine x_iload (i := 4) dX5_fill_20 rfl ?_
        refine y_aln (i := 0) dX5_fill_22 at77.ne0 rfl rfl ?_
        refine y_getp (z := 0) (v := 78) dX5_fill_23 frX5_9 cfX5 at77 rfl rfl (wp (v := 78) hW rfl rfl (by decide)) ?_
        refine x_iload (i := 4) dX5_fill_26 rfl ?_
        refine x_iald dX5_fill_28 ar78 ⟨by omega, by omega⟩ ?_
        rw [e78]
        refine x_iload_n (i := 3) dX5_fill_29 rfl rfl ?_
        refine y_min dX5_fill_30 jkX5_37 (by omega) (Nat.le_of_ble_eq_true rfl) ?_
        refine x_iast dX5_fill_33 ar79 ⟨by omega, by omega⟩ ?_
        refine x_iload_n (i := 3) dX5_fill_34 rfl rfl ?_
        refine y_aln (i := 0) dX5_fill_35 at77.ne0 rfl rfl ?_
        refine y_getp (z := 1) (v := 79) dX5_fill_36 frX5_15 cfX5 at77 rfl rfl (wp (v := 79) hW rfl rfl (by decide)) ?_
        refine x_iload (i := 4) dX5_fill_39 rfl ?_
        refine x_iald dX5_fill_41 ar79 ⟨by omega, by omega⟩ ?_
        rw [e79]
        refine x_isub dX5_fill_42 ⟨by omega, by omega⟩ ?_
        refine x_istore_n (i := 3) dX5_fill_43 rfl rfl (Nat.le_of_ble_eq_true rfl) ?_
        refine x_iinc dX5_fill_44 rfl ⟨by omega, by omega⟩ rfl (Nat.le_of_ble_eq_true rfl) ?_
        refine x_goto (tgt := 10) dX5_fill_47 rfl ?_
        refine x_keep [1, 1, 0, 1, 1] ?_
        exact nx _ rfl (by omega)
  refine x_iload_n (i := 2) dX5_fill_0 rfl rfl ?_
  refine x_istore_n (i := 3) dX5_fill_1 rfl rfl (Nat.le_of_ble_eq_true rfl) ?_
  refine y_aln (i := 0) dX5_fill_2 at77.ne0 rfl rfl ?_
  refine y_geti (z := 2) dX5_fill_3 frX5_30 cfX5 at77 rfl rfl ?_
  rw [hs]
  refine y_ic dX5_fill_6 ⟨by decide, by decide⟩ ?_
  refine x_isub dX5_fill_7 ⟨by omega, by omega⟩ ?_
  refine x_istore (i := 4) dX5_fill_8 rfl (Nat.le_of_ble_eq_true rfl) ?_
  refine x_keep [1, 1, 0, 1, 1] ?_
  have := hL _ (so - 1) I (Nat.lt_succ_self _) (by omega) (by omega) (fun c => by rw [if_neg (by omega)]) (fun _ _ => rfl)
  rw [show so - 1 - (so - 1) = 0 by omega, remS_0] at this
  exact this
theorem c_X5_goOnB {so : Int} {b : Rw} (hW : WP P) (hs : I 77 2 = so) (h8 : 1 ≤ so ∧ so ≤ 8) (hr : ∀ s, 0 ≤ s → s < so → 0 ≤ I 78 s ∧ I 78 s ≤ 960) (hb : BG so (I 78) b) (hK : ∀ s, 0 ≤ s → s < so → I 79 s = b s) : Cv G mX5_goOn (d + 2) 0 0 [.inr (.inl 77)] NO I P (qI NO (fun r I' P' => P' = P ∧ (∀ a, a ≠ 79 → I' a = I a) ∧ ((r = 1 ∧ nbI so (I 78) b ≠ -1 ∧ ∀ s, 0 ≤ s → s < so → I' 79 s = nbS so (I 78) b s) ∨ (r = 0 ∧ nbI so (I 78) b = -1)) ∧ ∀ c, so ≤ c → I' 79 c = I 79 c)) := by
  refine x_enter mfX5_goOn rfl (Nat.le_of_ble_eq_true rfl) (fun _ => ?_)
  have hlb : ∀ i, 0 ≤ i → i ≤ so → (0 ≤ latS so b i ∧ latS so b i ≤ latS so (I 78) i) ∧ latS so (I 78) i ≤ 960 * i := fun i i0 i1 => ⟨latS_le hb ⟨i0, i1⟩, (sumN_bd (f := fun j => I 78 (so - 1 - j)) (n := i) (lo := 0) (hi := 960) i0 (fun j j0 j1 => hr (so - 1 - j) (by omega) (by omega))).2⟩
  have hL : ∀ (j : Nat) (s : Int), (s + 1).toNat < j → -1 ≤ s → s ≤ so - 1 → (∀ x, s < x → x < so → ¬ (0 < latS so b (so - 1 - x) ∧ b x < I 78 x)) → V G mX5_goOn (d + 2) 0 0 9 [some (.inr (.inl 77)), some (.inl (latS so b (so - 1 - s))), some (.inl (s))] [] NO I P (qI NO (fun r I' P' => P' = P ∧ (∀ a, a ≠ 79 → I' a = I a) ∧ ((r = 1 ∧ nbI so (I 78) b ≠ -1 ∧ ∀ s, 0 ≤ s → s < so → I' 79 s = nbS so (I 78) b s) ∨ (r = 0 ∧ nbI so (I 78) b = -1)) ∧ ∀ c, so ≤ c → I' 79 c = I 79 c)) := by
    intro j
    induction j with
    | zero => intro s hj; omega
    | succ j ih =>
      intro s hj hs1 hs2 hno
      have hl := hlb (so - 1 - s) (by omega) (by omega)
      have es : 0 ≤ s → latS so b (so - 1 - (s - 1)) = latS so b (so - 1 - s) + b s := fun _ => by
        rw [show so - 1 - (s - 1) = so - 1 - s + 1 by omega, latS_s (by omega), show so - 1 - (so - 1 - s) = s by omega]
      have hcs : 0 ≤ s → (0 ≤ b s ∧ b s ≤ I 78 s) ∧ I 78 s ≤ 960 ∧ I 79 s = b s := fun q => ⟨hb s q (by omega), (hr s (by omega) (by omega)).2, hK s q (by omega)⟩
      have hfound : 0 ≤ s → 0 < latS so b (so - 1 - s) → b s < I 78 s → nbI so (I 78) b = s := fun q q1 q2 => lastS_is ⟨q, by omega⟩ ⟨q1, q2⟩ hno
      have hnb : nbI so (I 78) b = s → nbS so (I 78) b = fillS so (I 78) (s + 1) (latS so b (so - 1 - s) - 1) (u1 b s (b s + 1)) := fun q => by unfold nbS; rw [q]
      obtain ⟨l, hl0⟩ : ∃ l, l = latS so b (so - 1 - s) := ⟨_, rfl⟩
      rw [← hl0] at hl es hfound hnb ⊢
      have hstep : 0 ≤ s → ¬ (0 < l ∧ b s < I 78 s) → V G mX5_goOn (d + 2) 0 0 54 [some (.inr (.inl 77)), some (.inl (l)), some (.inl (s))] [] NO I P (qI NO (fun r I' P' => P' = P ∧ (∀ a, a ≠ 79 → I' a = I a) ∧ ((r = 1 ∧ nbI so (I 78) b ≠ -1 ∧ ∀ s, 0 ≤ s → s < so → I' 79 s = nbS so (I 78) b s) ∨ (r = 0 ∧ nbI so (I 78) b = -1)) ∧ ∀ c, so ≤ c → I' 79 c = I 79 c)) := fun q0 q => by
        have hc := hcs q0
        have es' := es q0
        refine x_iload_n (i := 1) dX5_goOn_54 rfl rfl ?_
        refine y_aln (i := 0) dX5_goOn_55 at77.ne0 rfl rfl ?_
        refine y_getp (z := 1) (v := 79) dX5_goOn_56 frX5_15 cfX5 at77 rfl rfl (wp (v := 79) hW rfl rfl (by decide)) ?_
        refine x_iload_n (i := 2) dX5_goOn_59 rfl rfl ?_
        refine x_iald dX5_goOn_60 ar79 ⟨by omega, by omega⟩ ?_
        rw [hc.2.2]
        refine x_iadd dX5_goOn_61 ⟨by omega, by omega⟩ ?_
        refine x_istore_n (i := 1) dX5_goOn_62 rfl rfl (Nat.le_of_ble_eq_true rfl) ?_
        refine x_iinc dX5_goOn_63 rfl ⟨by omega, by omega⟩ rfl (Nat.le_of_ble_eq_true rfl) ?_
        refine x_goto (tgt := 9) dX5_goOn_66 rfl ?_
        refine x_keep [1, 1, 1] ?_
        have := ih (s - 1) (by omega) (by omega) (by omega) (fun x x0 x1 => by
          by_cases e : x = s
          · rw [e, ← hl0]; exact q
          · exact hno x (by omega) x1)
        rw [es'] at this
        exact this
      refine x_iload_n (i := 2) dX5_goOn_9 rfl rfl ?_
      refine x_if_lt (tgt := 69) dX5_goOn_10 rfl (fun h10 => ?_) (fun h10 => ?_)
      · refine y_ic dX5_goOn_69 ⟨by decide, by decide⟩ ?_
        refine x_zret dX5_goOn_70 (by omega) rfl ?_
        exact ⟨rfl, fun _ _ => rfl, Or.inr ⟨rfl, lastS_no (fun x x0 x1 => hno x (by omega) x1)⟩, fun _ _ => rfl⟩
      · have hc := hcs (by omega)
        refine x_iload_n (i := 1) dX5_goOn_13 rfl rfl ?_
        refine x_if_le (tgt := 54) dX5_goOn_14 rfl (fun h14 => ?_) (fun h14 => ?_)
        · refine x_keep [1, 1, 1] ?_
          exact hstep (by omega) (by omega)
        · refine y_aln (i := 0) dX5_goOn_17 at77.ne0 rfl rfl ?_
          refine y_getp (z := 1) (v := 79) dX5_goOn_18 frX5_15 cfX5 at77 rfl rfl (wp (v := 79) hW rfl rfl (by decide)) ?_
          refine x_iload_n (i := 2) dX5_goOn_21 rfl rfl ?_
          refine x_iald dX5_goOn_22 ar79 ⟨by omega, by omega⟩ ?_
          rw [hc.2.2]
          refine y_aln (i := 0) dX5_goOn_23 at77.ne0 rfl rfl ?_
          refine y_getp (z := 0) (v := 78) dX5_goOn_24 frX5_9 cfX5 at77 rfl rfl (wp (v := 78) hW rfl rfl (by decide)) ?_
          refine x_iload_n (i := 2) dX5_goOn_27 rfl rfl ?_
          refine x_iald dX5_goOn_28 ar78 ⟨by omega, by omega⟩ ?_
          refine x_icmp_ge (tgt := 54) dX5_goOn_29 rfl (fun h29 => ?_) (fun h29 => ?_)
          · refine x_keep [1, 1, 1] ?_
            exact hstep (by omega) (by omega)
          · have hi := hfound (by omega) (by omega) (by omega)
            have e77 : uI I 79 s (b s + 1) 77 = I 77 := uI_ne (by decide)
            have e78 : uI I 79 s (b s + 1) 78 = I 78 := uI_ne (by decide)
            refine y_aln (i := 0) dX5_goOn_32 at77.ne0 rfl rfl ?_
            refine y_getp (z := 1) (v := 79) dX5_goOn_33 frX5_15 cfX5 at77 rfl rfl (wp (v := 79) hW rfl rfl (by decide)) ?_
            refine x_iload_n (i := 2) dX5_goOn_36 rfl rfl ?_
            refine x_dup2 dX5_goOn_37 rfl rfl ?_
            refine x_iald dX5_goOn_38 ar79 ⟨by omega, by omega⟩ ?_
            rw [hc.2.2]
            refine y_ic dX5_goOn_39 ⟨by decide, by decide⟩ ?_
            refine x_iadd dX5_goOn_40 ⟨by omega, by omega⟩ ?_
            refine x_iast dX5_goOn_41 ar79 ⟨by omega, by omega⟩ ?_
            refine y_aln (i := 0) dX5_goOn_42 at77.ne0 rfl rfl ?_
            refine x_iload_n (i := 2) dX5_goOn_43 rfl rfl ?_
            refine y_ic dX5_goOn_44 ⟨by decide, by decide⟩ ?_
            refine x_iadd dX5_goOn_45 ⟨by omega, by omega⟩ ?_
            refine x_iload_n (i := 1) dX5_goOn_46 rfl rfl ?_
            refine y_ic dX5_goOn_47 ⟨by decide, by decide⟩ ?_
            refine x_isub dX5_goOn_48 ⟨by omega, by omega⟩ ?_
            refine x_callVV (c_X5_fillB (so := so) (b := u1 b s (b s + 1)) hW (by rw [e77]; exact hs) h8 (by rw [e78]; exact hr) ⟨by omega, by omega⟩ (by omega) (fun t t0 t1 => by
              rw [uI_eq]
              unfold u1
              split
              · rfl
              · exact hK t t0 (by omega))) dX5_goOn_49 lkX5_43 mfX5_fill cfX5 at77 rfl rfl rfl rfl (Nat.le_of_ble_eq_true rfl) (fun n49 I49 P49 hf49 => ?_)
            rw [e78] at hf49
            obtain ⟨rfl, rfl, fr49, v49, w49⟩ := hf49
            refine y_ic dX5_goOn_52 ⟨by decide, by decide⟩ ?_
            refine x_zret dX5_goOn_53 (by omega) rfl ?_
            refine ⟨rfl, fun a ha => by rw [fr49 a ha, uI_ne ha], Or.inl ⟨rfl, by omega, fun t t0 t1 => ?_⟩, fun c hc => by rw [w49 c hc, uI_eq, u1_ne (by omega)]⟩
            rw [hnb hi]; exact v49 t t0 t1
  refine y_ic dX5_goOn_0 ⟨by decide, by decide⟩ ?_
  refine x_istore_n (i := 1) dX5_goOn_1 rfl rfl (Nat.le_of_ble_eq_true rfl) ?_
  refine y_aln (i := 0) dX5_goOn_2 at77.ne0 rfl rfl ?_
  refine y_geti (z := 2) dX5_goOn_3 frX5_30 cfX5 at77 rfl rfl ?_
  rw [hs]
  refine y_ic dX5_goOn_6 ⟨by decide, by decide⟩ ?_
  refine x_isub dX5_goOn_7 ⟨by omega, by omega⟩ ?_
  refine x_istore_n (i := 2) dX5_goOn_8 rfl rfl (Nat.le_of_ble_eq_true rfl) ?_
  refine x_keep [1, 1, 1] ?_
  have := hL _ (so - 1) (Nat.lt_succ_self _) (by omega) (by omega) (fun x x0 x1 => by omega)
  rw [show so - 1 - (so - 1) = 0 by omega, latS_0] at this
  exact this
theorem c_X11_share {t : Nat} {w : Int} (hW : WP P) (hM : MK I P 46 t (t + 13) T) (h1t : P 1 2 = t) (hF : WF T) (hr : RW T (I 47)) : Cv G mX11_share (d + 8) 1 6 [.inr (.inl 1), .inl w] NO I P (qX NO (fun r I' P' => (PK P P' ∧ (w = 0 ∨ w = 1)) ∧ ((T 0 1 = 0 ∧ r = -1 ∧ I' = I) ∨ (1 ≤ T 0 1 ∧ 1500 < wayW (T 0 1) (LfS T (I 47)) ∧ r = -2 ∧ Fc sS0 I I') ∨ (1 ≤ T 0 1 ∧ wayW (T 0 1) (LfS T (I 47)) ≤ 1500 ∧ r = (if w = 0 then (shS T (I 47)).1 else (shS T (I 47)).2.1) ∧ I' 85 7 = 1 ∧ (∀ k, k ≠ 7 → I' 85 k = I 85 k) ∧ RE (I' 89) (shS T (I 47)).2.2 ∧ Fc sSH I I'))) (fun c I' P' => (I' = I ∧ P' = P) ∧ ¬ (w = 0 ∨ w = 1) ∧ c = tEN)) := by
  obtain ⟨hq, hTo, hLo, hpt, hpl, hca, hcl⟩ := id hM
  have wT := wp_T hW hTo
  have e0 : I t 0 = T 0 1 := hca.1
  have f1 := hF.1
  refine x_enter mfX11_share rfl (Nat.le_of_ble_eq_true rfl) (fun _ => ?_)
  have hL : (w = 0 ∨ w = 1) → 1 ≤ T 0 1 → wayW (T 0 1) (LfS T (I 47)) ≤ 1500 → ∀ (j : Nat) (k a b : Int) (K : Mem) (R : Ptr), (wayW (T 0 1) (LfS T (I 47)) - k).toNat < j → 0 ≤ k → k ≤ wayW (T 0 1) (LfS T (I 47)) → ((k = 0 ∧ a = -1 ∧ b = -1) ∨ (1 ≤ k ∧ a = (shN T (I 47) k).1 ∧ b = (shN T (I 47) k).2.1 ∧ K 85 7 = 1 ∧ RE (K 89) (shN T (I 47) k).2.2)) → (k < wayW (T 0 1) (LfS T (I 47)) → ∀ c, 0 ≤ c → c < 48 → K 81 c = itr (T 0 1) (LfS T (I 47)) k (m0S (T 0 1) (LfS T (I 47))) c) → SHC K (T 0 1) (T 0 2) (LfS T (I 47)) → (∀ i, i ≠ 7 → K 85 i = I 85 i) → PK P R → Fc sSH I K → V G mX11_share (d + 8) 1 6 70 [some (.inr (.inl 1)), some (.inl (w)), some (.inl (wayW (T 0 1) (LfS T (I 47)))), some (.inl (a)), some (.inl (b)), some (.inl (k)), none, none] [] NO K R (qX NO (fun r I' P' => (PK P P' ∧ (w = 0 ∨ w = 1)) ∧ ((T 0 1 = 0 ∧ r = -1 ∧ I' = I) ∨ (1 ≤ T 0 1 ∧ 1500 < wayW (T 0 1) (LfS T (I 47)) ∧ r = -2 ∧ Fc sS0 I I') ∨ (1 ≤ T 0 1 ∧ wayW (T 0 1) (LfS T (I 47)) ≤ 1500 ∧ r = (if w = 0 then (shS T (I 47)).1 else (shS T (I 47)).2.1) ∧ I' 85 7 = 1 ∧ (∀ k, k ≠ 7 → I' 85 k = I 85 k) ∧ RE (I' 89) (shS T (I 47)).2.2 ∧ Fc sSH I I'))) (fun c I' P' => (I' = I ∧ P' = P) ∧ ¬ (w = 0 ∨ w = 1) ∧ c = tEN)) := by
    intro hw h1p h15 j
    have hall := sh_all (K := T 0 1) (L := LfS T (I 47)) h1p (fun x x0 x1 => (LfS_nn hF hr x x0 x1).1)
    induction j with
    | zero => intro k a b K R hj; omega
    | succ j ih =>
      intro k a b K R hj hk hk2 hab hrow hS k85 hP kF
      have hWR := hP.1
      have hMK := hM.pk hP kF sSH_tl
      have k47 : K 47 = I 47 := kF 47 (by unfold sSH; omega)
      have es := shN_s (T := T) (r := I 47) hk
      have hso := shN_ok hF hr h1p ⟨hk, hk2⟩
      have hB : k < wayW (T 0 1) (LfS T (I 47)) → ∀ (m : Rw) (K' : Mem) (R' : Ptr), m = itr (T 0 1) (LfS T (I 47)) k (m0S (T 0 1) (LfS T (I 47))) → PK P R' → MK K' R' 48 t (t + 13) T → RE m (K' 49) → (∀ a, a ≠ 49 → K' a = K a) → V G mX11_share (d + 8) 1 6 94 [some (.inr (.inl 1)), some (.inl (w)), some (.inl (wayW (T 0 1) (LfS T (I 47)))), some (.inl (a)), some (.inl (b)), some (.inl (k)), none, none] [] NO K' R' (qX NO (fun r I' P' => (PK P P' ∧ (w = 0 ∨ w = 1)) ∧ ((T 0 1 = 0 ∧ r = -1 ∧ I' = I) ∨ (1 ≤ T 0 1 ∧ 1500 < wayW (T 0 1) (LfS T (I 47)) ∧ r = -2 ∧ Fc sS0 I I') ∨ (1 ≤ T 0 1 ∧ wayW (T 0 1) (LfS T (I 47)) ≤ 1500 ∧ r = (if w = 0 then (shS T (I 47)).1 else (shS T (I 47)).2.1) ∧ I' 85 7 = 1 ∧ (∀ k, k ≠ 7 → I' 85 k = I 85 k) ∧ RE (I' 89) (shS T (I 47)).2.2 ∧ Fc sSH I I'))) (fun c I' P' => (I' = I ∧ P' = P) ∧ ¬ (w = 0 ∨ w = 1) ∧ c = tEN)) := fun hkw m K' R' hm hP' hM48 kre kK => by
        have hW2 := hP'.1
        have hV := itr_RW hF hr h1p ⟨hk, hkw⟩
        rw [← hm] at hV
        have hdo := (dayS_ok (w := -1) hF hV.2).1
        have hdr := (RE.day (w := -1) kre hF).2
        obtain ⟨D, hD⟩ : ∃ D, D = (dayS T (-1) m).2 := ⟨_, rfl⟩
        rw [← hD] at hdo hdr
        have b1 : 0 ≤ lowS T D ∧ lowS T D ≤ 76100000 := lowN_bd (n := T 0 1) hF hdo.rc h1p (Int.le_refl _)
        have b2 := worthS_bd hF hdo.rc
        have hrow' := hrow hkw
        rw [← hm] at hrow'
        obtain ⟨y, hy⟩ : ∃ y, y = shN T (I 47) k := ⟨_, rfl⟩
        rw [← hy] at hab hso
        have y0 : k = 0 → y.1 = -1 := fun e => by rw [hy, e]; rfl
        have ha2 : (k = 0 ∧ a = -1 ∧ b = -1) ∨ (1 ≤ k ∧ a = y.1 ∧ b = y.2.1) := hab.imp id (fun z => ⟨z.1, z.2.1, z.2.2.1⟩)
        have hsh : shB T m y = if y.1 < lowS T D ∨ (lowS T D = y.1 ∧ y.2.1 < worthS T D) then (lowS T D, worthS T D, m) else y := by rw [hD]; rfl
        have fin : ∀ (z : Sy) (K2 : Mem), z = shB T m y → K2 85 7 = 1 → RE (K2 89) z.2.2 → K2 81 = K 81 → K2 80 = K 80 → K2 82 = K 82 → (∀ i, i ≠ 7 → K2 85 i = I 85 i) → Fc sSH I K2 → V G mX11_share (d + 8) 1 6 161 [some (.inr (.inl 1)), some (.inl (w)), some (.inl (wayW (T 0 1) (LfS T (I 47)))), some (.inl (z.1)), some (.inl (z.2.1)), some (.inl (k)), none, none] [] NO K2 R' (qX NO (fun r I' P' => (PK P P' ∧ (w = 0 ∨ w = 1)) ∧ ((T 0 1 = 0 ∧ r = -1 ∧ I' = I) ∨ (1 ≤ T 0 1 ∧ 1500 < wayW (T 0 1) (LfS T (I 47)) ∧ r = -2 ∧ Fc sS0 I I') ∨ (1 ≤ T 0 1 ∧ wayW (T 0 1) (LfS T (I 47)) ≤ 1500 ∧ r = (if w = 0 then (shS T (I 47)).1 else (shS T (I 47)).2.1) ∧ I' 85 7 = 1 ∧ (∀ k, k ≠ 7 → I' 85 k = I 85 k) ∧ RE (I' 89) (shS T (I 47)).2.2 ∧ Fc sSH I I'))) (fun c I' P' => (I' = I ∧ P' = P) ∧ ¬ (w = 0 ∨ w = 1) ∧ c = tEN)) := fun z K2 hz z7 zre z81 z80 z82 z85 zF => by
          have hS2 := hS.fr z80 z82
          refine y_aln (i := 0) dX11_share_161 at1.ne0 rfl rfl ?_
          refine y_getp (z := 15) (v := 80) dX11_share_162 frX11_86 cfX11 at1 rfl rfl (wp (v := 80) hW2 rfl rfl (by decide)) ?_
          refine x_callVV (c_X8_goOn (m := m) hW2 hS2 (by rw [z81]; exact hrow') hV.1) dX11_share_165 lkX11_389 mfX8_goOn cfX8 at80 rfl rfl rfl rfl (Nat.le_of_ble_eq_true rfl) (fun n165 I165 P165 hf165 => ?_)
          obtain ⟨rfl, rfl, o165, w165⟩ := hf165
          refine x_iinc dX11_share_168 rfl ⟨by omega, by omega⟩ rfl (Nat.le_of_ble_eq_true rfl) ?_
          refine x_goto (tgt := 70) dX11_share_171 rfl ?_
          refine x_keep [1, 1, 1, 1, 1, 1, 0, 0] ?_
          refine ih (k + 1) _ _ I165 _ (by omega) (by omega) (by omega) (Or.inr ⟨by omega, ?_, ?_, by rw [o165 85 (by decide)]; exact z7, ?_⟩) (fun hk9 c c0 c1 => ?_) (hS2.fr (o165 80 (by decide)) (o165 82 (by decide))) (fun i hi => by rw [o165 85 (by decide)]; exact z85 i hi) hP' (fun a ha => by rw [o165 a (fun e => ha (by unfold sSH; omega))]; exact zF a ha)
          · rw [es, ← hy, ← hm, hz]
          · rw [es, ← hy, ← hm, hz]
          · rw [es, ← hy, ← hm, ← hz, o165 89 (by decide)]; exact zre
          · rw [itr_s hk, ← hm]
            exact w165 (by rw [hm]; exact hall.2.1 k hk (by omega)) c c0 c1
        refine y_aln (i := 0) dX11_share_94 at1.ne0 rfl rfl ?_
        refine y_getp (z := 10) (v := 48) dX11_share_95 frX11_50 cfX11 at1 rfl rfl (wp (v := 48) hW2 rfl rfl (by decide)) ?_
        refine y_ic dX11_share_98 ⟨by decide, by decide⟩ ?_
        refine x_callVI (c_X3_passDay hW2 hM48 hF (kre.rw hV.2)) dX11_share_99 lkX11_327 mfX3_passDay cfX3 at48 rfl rfl rfl rfl (Nat.le_of_ble_eq_true rfl) (fun r99 I99 P99 hr99 hf99 => ?_)
        obtain ⟨rfl, p99, o99, f99⟩ := hf99
        have e49 : RE D (I99 49) := by rw [show I99 49 = (dayS T (-1) (K' (48 + 1))).2 from o99]; exact hdr
        have rc99 : RC (I99 (48 + 1)) := e49.rc hdo.rc
        have o9 : ∀ a, a ≠ 48 → a ≠ 49 → I99 a = K a := fun a h1 h2 => (f99 a (by unfold sM; omega)).trans (kK a h2)
        have F99 : Fc sSH I I99 := fun a ha => by rw [o9 a (fun e => ha (Or.inl e)) (fun e => ha (Or.inr (Or.inl e)))]; exact kF a ha
        have ew : worthS T (I99 (48 + 1)) = worthS T D := (e49.worth hF).symm
        have el : lowS T (I99 (48 + 1)) = lowS T D := (e49.low hF h1p).symm
        refine x_pop dX11_share_102 rfl ?_
        refine y_aln (i := 0) dX11_share_103 at1.ne0 rfl rfl ?_
        refine y_getp (z := 10) (v := 48) dX11_share_104 frX11_50 cfX11 at1 rfl rfl (wp (v := 48) hW2 rfl rfl (by decide)) ?_
        refine x_callVI (c_X3_allWorth hW2 (hM48.fq f99) hF rc99) dX11_share_107 lkX11_187 mfX3_allWorth cfX3 at48 rfl rfl rfl rfl (Nat.le_of_ble_eq_true rfl) (fun r107 I107 P107 hr107 hf107 => ?_)
        obtain ⟨i107, p107, q107⟩ := hf107
        rw [i107, p107, q107]
        rw [ew]
        refine x_istore (i := 6) dX11_share_110 rfl (Nat.le_of_ble_eq_true rfl) ?_
        refine y_aln (i := 0) dX11_share_112 at1.ne0 rfl rfl ?_
        refine y_getp (z := 10) (v := 48) dX11_share_113 frX11_50 cfX11 at1 rfl rfl (wp (v := 48) hW2 rfl rfl (by decide)) ?_
        refine x_callVI (c_X3_leastWorth hW2 (hM48.fq f99) hF rc99 h1p) dX11_share_116 lkX11_383 mfX3_leastWorth cfX3 at48 rfl rfl rfl rfl (Nat.le_of_ble_eq_true rfl) (fun r116 I116 P116 hr116 hf116 => ?_)
        obtain ⟨i116, p116, q116⟩ := hf116
        rw [i116, p116, q116]
        rw [el]
        refine x_istore (i := 7) dX11_share_119 rfl (Nat.le_of_ble_eq_true rfl) ?_
        refine x_iload (i := 7) dX11_share_121 rfl ?_
        refine x_iload_n (i := 3) dX11_share_123 rfl rfl ?_
        refine x_icmp_gt (tgt := 140) dX11_share_124 rfl (fun h124 => ?_) (fun h124 => ?_)
        · refine x_iload (i := 7) dX11_share_140 rfl ?_
          refine x_istore_n (i := 3) dX11_share_142 rfl rfl (Nat.le_of_ble_eq_true rfl) ?_
          refine x_iload (i := 6) dX11_share_143 rfl ?_
          refine x_istore (i := 4) dX11_share_145 rfl (Nat.le_of_ble_eq_true rfl) ?_
          refine y_aln (i := 0) dX11_share_147 at1.ne0 rfl rfl ?_
          refine y_getp (z := 17) (v := 85) dX11_share_148 frX11_100 cfX11 at1 rfl rfl (wp (v := 85) hW2 rfl rfl (by decide)) ?_
          refine y_aln (i := 0) dX11_share_151 at1.ne0 rfl rfl ?_
          refine y_getp (z := 15) (v := 80) dX11_share_152 frX11_86 cfX11 at1 rfl rfl (wp (v := 80) hW2 rfl rfl (by decide)) ?_
          refine y_getp (z := 0) (v := 81) dX11_share_155 frX11_378 cfX8 at80 rfl rfl (wp (v := 81) hW2 rfl rfl (by decide)) ?_
          refine x_callVV (c_X1_keepShare hW2 ar81) dX11_share_158 lkX11_386 mfX1_keepShare cfX1 at85 rfl rfl rfl rfl (Nat.le_of_ble_eq_true rfl) (fun n158 I158 P158 hf158 => ?_)
          obtain ⟨rfl, rfl, o1, o2, o3, o4⟩ := hf158
          have hbx : shB T m y = (lowS T D, worthS T D, m) := by rw [hsh]; exact if_pos (by omega)
          refine x_keep [1, 1, 1, 1, 1, 1, 0, 0] ?_
          first | (have z := hbx; exact fin (lowS T D, worthS T D, m) I158 hbx.symm o3 (fun c c0 c1 => by rw [o4 c c0 c1, o9 81 (by decide) (by decide)]; exact hrow' c c0 c1) ((o1 81 (by decide) (by decide)).trans (o9 81 (by decide) (by decide))) ((o1 80 (by decide) (by decide)).trans (o9 80 (by decide) (by decide))) ((o1 82 (by decide) (by decide)).trans (o9 82 (by decide) (by decide))) (fun i hi => by rw [o2 i hi, o9 85 (by decide) (by decide)]; exact k85 i hi) (fun a ha => by rw [o1 a (fun e => ha (by unfold sSH; omega)) (fun e => ha (by unfold sSH; omega))]; exact F99 a ha)) | (have z := hbw; have := fin y I99 hbw.symm (by rw [o9 85 (by decide) (by decide)]; exact g0.2.2.2.1) (by rw [o9 89 (by decide) (by decide)]; exact g0.2.2.2.2) (o9 81 (by decide) (by decide)) (o9 80 (by decide) (by decide)) (o9 82 (by decide) (by decide)) (fun i hi => by rw [o9 85 (by decide) (by decide)]; exact k85 i hi) F99; rw [← g0.2.1, ← g0.2.2.1] at this; exact this)
        · refine x_iload (i := 7) dX11_share_127 rfl ?_
          refine x_iload_n (i := 3) dX11_share_129 rfl rfl ?_
          refine x_icmp_ne (tgt := 161) dX11_share_130 rfl (fun h130 => ?_) (fun h130 => ?_)
          · have g0 := hab.resolve_left (fun z => by have := z.2.1; omega)
            have hbw : shB T m y = y := by rw [hsh]; exact if_neg (by omega)
            refine x_keep [1, 1, 1, 1, 1, 1, 0, 0] ?_
            first | (have z := hbx; exact fin (lowS T D, worthS T D, m) I158 hbx.symm o3 (fun c c0 c1 => by rw [o4 c c0 c1, o9 81 (by decide) (by decide)]; exact hrow' c c0 c1) ((o1 81 (by decide) (by decide)).trans (o9 81 (by decide) (by decide))) ((o1 80 (by decide) (by decide)).trans (o9 80 (by decide) (by decide))) ((o1 82 (by decide) (by decide)).trans (o9 82 (by decide) (by decide))) (fun i hi => by rw [o2 i hi, o9 85 (by decide) (by decide)]; exact k85 i hi) (fun a ha => by rw [o1 a (fun e => ha (by unfold sSH; omega)) (fun e => ha (by unfold sSH; omega))]; exact F99 a ha)) | (have z := hbw; have := fin y I99 hbw.symm (by rw [o9 85 (by decide) (by decide)]; exact g0.2.2.2.1) (by rw [o9 89 (by decide) (by decide)]; exact g0.2.2.2.2) (o9 81 (by decide) (by decide)) (o9 80 (by decide) (by decide)) (o9 82 (by decide) (by decide)) (fun i hi => by rw [o9 85 (by decide) (by decide)]; exact k85 i hi) F99; rw [← g0.2.1, ← g0.2.2.1] at this; exact this)
          · refine x_iload (i := 6) dX11_share_133 rfl ?_
            refine x_iload (i := 4) dX11_share_135 rfl ?_
            refine x_icmp_le (tgt := 161) dX11_share_137 rfl (fun h137 => ?_) (fun h137 => ?_)
            · have g0 := hab.resolve_left (fun z => by have := z.2.1; omega)
              have hbw : shB T m y = y := by rw [hsh]; exact if_neg (by omega)
              refine x_keep [1, 1, 1, 1, 1, 1, 0, 0] ?_
              first | (have z := hbx; exact fin (lowS T D, worthS T D, m) I158 hbx.symm o3 (fun c c0 c1 => by rw [o4 c c0 c1, o9 81 (by decide) (by decide)]; exact hrow' c c0 c1) ((o1 81 (by decide) (by decide)).trans (o9 81 (by decide) (by decide))) ((o1 80 (by decide) (by decide)).trans (o9 80 (by decide) (by decide))) ((o1 82 (by decide) (by decide)).trans (o9 82 (by decide) (by decide))) (fun i hi => by rw [o2 i hi, o9 85 (by decide) (by decide)]; exact k85 i hi) (fun a ha => by rw [o1 a (fun e => ha (by unfold sSH; omega)) (fun e => ha (by unfold sSH; omega))]; exact F99 a ha)) | (have z := hbw; have := fin y I99 hbw.symm (by rw [o9 85 (by decide) (by decide)]; exact g0.2.2.2.1) (by rw [o9 89 (by decide) (by decide)]; exact g0.2.2.2.2) (o9 81 (by decide) (by decide)) (o9 80 (by decide) (by decide)) (o9 82 (by decide) (by decide)) (fun i hi => by rw [o9 85 (by decide) (by decide)]; exact k85 i hi) F99; rw [← g0.2.1, ← g0.2.2.1] at this; exact this)
            · refine x_iload (i := 7) dX11_share_140 rfl ?_
              refine x_istore_n (i := 3) dX11_share_142 rfl rfl (Nat.le_of_ble_eq_true rfl) ?_
              refine x_iload (i := 6) dX11_share_143 rfl ?_
              refine x_istore (i := 4) dX11_share_145 rfl (Nat.le_of_ble_eq_true rfl) ?_
              refine y_aln (i := 0) dX11_share_147 at1.ne0 rfl rfl ?_
              refine y_getp (z := 17) (v := 85) dX11_share_148 frX11_100 cfX11 at1 rfl rfl (wp (v := 85) hW2 rfl rfl (by decide)) ?_
              refine y_aln (i := 0) dX11_share_151 at1.ne0 rfl rfl ?_
              refine y_getp (z := 15) (v := 80) dX11_share_152 frX11_86 cfX11 at1 rfl rfl (wp (v := 80) hW2 rfl rfl (by decide)) ?_
              refine y_getp (z := 0) (v := 81) dX11_share_155 frX11_378 cfX8 at80 rfl rfl (wp (v := 81) hW2 rfl rfl (by decide)) ?_
              refine x_callVV (c_X1_keepShare hW2 ar81) dX11_share_158 lkX11_386 mfX1_keepShare cfX1 at85 rfl rfl rfl rfl (Nat.le_of_ble_eq_true rfl) (fun n158 I158 P158 hf158 => ?_)
              obtain ⟨rfl, rfl, o1, o2, o3, o4⟩ := hf158
              have hbx : shB T m y = (lowS T D, worthS T D, m) := by rw [hsh]; exact if_pos (by omega)
              refine x_keep [1, 1, 1, 1, 1, 1, 0, 0] ?_
              first | (have z := hbx; exact fin (lowS T D, worthS T D, m) I158 hbx.symm o3 (fun c c0 c1 => by rw [o4 c c0 c1, o9 81 (by decide) (by decide)]; exact hrow' c c0 c1) ((o1 81 (by decide) (by decide)).trans (o9 81 (by decide) (by decide))) ((o1 80 (by decide) (by decide)).trans (o9 80 (by decide) (by decide))) ((o1 82 (by decide) (by decide)).trans (o9 82 (by decide) (by decide))) (fun i hi => by rw [o2 i hi, o9 85 (by decide) (by decide)]; exact k85 i hi) (fun a ha => by rw [o1 a (fun e => ha (by unfold sSH; omega)) (fun e => ha (by unfold sSH; omega))]; exact F99 a ha)) | (have z := hbw; have := fin y I99 hbw.symm (by rw [o9 85 (by decide) (by decide)]; exact g0.2.2.2.1) (by rw [o9 89 (by decide) (by decide)]; exact g0.2.2.2.2) (o9 81 (by decide) (by decide)) (o9 80 (by decide) (by decide)) (o9 82 (by decide) (by decide)) (fun i hi => by rw [o9 85 (by decide) (by decide)]; exact k85 i hi) F99; rw [← g0.2.1, ← g0.2.2.1] at this; exact this)
      refine x_iload (i := 5) dX11_share_70 rfl ?_
      refine x_iload_n (i := 2) dX11_share_72 rfl rfl ?_
      refine x_icmp_ge (tgt := 174) dX11_share_73 rfl (fun h73 => ?_) (fun h73 => ?_)
      · refine x_iload_n (i := 1) dX11_share_174 rfl rfl ?_
        refine x_if_ne (tgt := 182) dX11_share_175 rfl (fun h175 => ?_) (fun h175 => ?_)
        · refine x_iload (i := 4) dX11_share_182 rfl ?_
          refine x_iretX dX11_share_184 rfl ?_
          have ek : k = wayW (T 0 1) (LfS T (I 47)) := by omega
          have g0 := hab.resolve_left (fun z => by have := z.1; have := hall.1; omega)
          have hfy : shS T (I 47) = shN T (I 47) k := by unfold shS; rw [ek]
          refine ⟨⟨hP, hw⟩, Or.inr (Or.inr ⟨h1p, h15, ?_, g0.2.2.2.1, k85, by rw [hfy]; exact g0.2.2.2.2, kF⟩)⟩
          rw [hfy]
          first | (rw [if_pos (by omega)]; exact g0.2.1) | (rw [if_neg (by omega)]; exact g0.2.2.1)
        · refine x_iload_n (i := 3) dX11_share_178 rfl rfl ?_
          refine x_goto (tgt := 184) dX11_share_179 rfl ?_
          refine x_iretX dX11_share_184 rfl ?_
          have ek : k = wayW (T 0 1) (LfS T (I 47)) := by omega
          have g0 := hab.resolve_left (fun z => by have := z.1; have := hall.1; omega)
          have hfy : shS T (I 47) = shN T (I 47) k := by unfold shS; rw [ek]
          refine ⟨⟨hP, hw⟩, Or.inr (Or.inr ⟨h1p, h15, ?_, g0.2.2.2.1, k85, by rw [hfy]; exact g0.2.2.2.2, kF⟩)⟩
          rw [hfy]
          first | (rw [if_pos (by omega)]; exact g0.2.1) | (rw [if_neg (by omega)]; exact g0.2.2.1)
      · refine y_aln (i := 0) dX11_share_76 at1.ne0 rfl rfl ?_
        refine y_getp (z := 10) (v := 48) dX11_share_77 frX11_50 cfX11 at1 rfl rfl (wp (v := 48) hWR rfl rfl (by decide)) ?_
        refine y_aln (i := 0) dX11_share_80 at1.ne0 rfl rfl ?_
        refine y_getp (z := 9) (v := 46) dX11_share_81 frX11_46 cfX11 at1 rfl rfl (wp (v := 46) hWR rfl rfl (by decide)) ?_
        refine y_aln (i := 0) dX11_share_84 at1.ne0 rfl rfl ?_
        refine y_getp (z := 15) (v := 80) dX11_share_85 frX11_86 cfX11 at1 rfl rfl (wp (v := 80) hWR rfl rfl (by decide)) ?_
        refine y_getp (z := 0) (v := 81) dX11_share_88 frX11_378 cfX8 at80 rfl rfl (wp (v := 81) hWR rfl rfl (by decide)) ?_
        refine x_callVV (c_X3_takeRow (q := 48) hWR isM48 hMK (by decide) ar81 (by decide)) dX11_share_91 lkX11_379 mfX3_takeRow cfX3 at48 rfl rfl rfl rfl (Nat.le_of_ble_eq_true rfl) (fun n91 I91 P91 hf91 => ?_)
        obtain ⟨rfl, rfl, hI91⟩ := hf91
        have F91 : Fc (sM 48) K I91 := by rw [hI91]; exact Fc.rf.ua (Or.inr rfl)
        obtain ⟨y1, y2, y3⟩ := trl hWR hMK isM48 (by decide) F91
        refine x_keep [1, 1, 1, 1, 1, 1, 0, 0] ?_
        refine hB (by omega) _ _ _ rfl (hP.tr y1) y2 (fun c c0 c1 => ?_) (fun a ha => by rw [hI91]; exact uA_ne ha)
        rw [hI91]
        show _ = (if 0 ≤ c ∧ c < 48 then K 81 c else K 49 c)
        rw [if_pos ⟨c0, c1⟩]
        exact (hrow (by omega) c c0 c1).symm
  refine x_iload_n (i := 1) dX11_share_0 rfl rfl ?_
  refine x_if_eq (tgt := 20) dX11_share_1 rfl (fun h1 => ?_) (fun h1 => ?_)
  · refine y_aln (i := 0) dX11_share_20 at1.ne0 rfl rfl ?_
    refine y_getp (z := 2) (v := t) dX11_share_21 frX11_16 cfX11 at1 rfl rfl h1t ?_
    refine y_geti (z := 0) dX11_share_24 frX11_134 cfX10 hTo.at rfl rfl ?_
    refine y_ic dX11_share_27 ⟨by decide, by decide⟩ ?_
    refine x_icmp_ge (tgt := 33) dX11_share_28 rfl (fun h28 => ?_) (fun h28 => ?_)
    · refine y_aln (i := 0) dX11_share_33 at1.ne0 rfl rfl ?_
      refine y_getp (z := 15) (v := 80) dX11_share_34 frX11_86 cfX11 at1 rfl rfl (wp (v := 80) hW rfl rfl (by decide)) ?_
      refine y_aln (i := 0) dX11_share_37 at1.ne0 rfl rfl ?_
      refine y_getp (z := 9) (v := 46) dX11_share_38 frX11_46 cfX11 at1 rfl rfl (wp (v := 46) hW rfl rfl (by decide)) ?_
      refine x_callVV (c_X8_begin hW hM hF hr (by omega)) dX11_share_41 lkX11_373 mfX8_begin cfX8 at80 rfl rfl rfl rfl (Nat.le_of_ble_eq_true rfl) (fun n41 I41 P41 hf41 => ?_)
      obtain ⟨rfl, rfl, o41, s41, r41⟩ := hf41
      rw [show I (46 + 1) = I 47 from rfl] at s41 r41
      have F41 : Fc sS0 I I41 := fun a ha => o41 a (fun e => ha (by unfold sS0; omega)) (fun e => ha (by unfold sS0; omega)) (fun e => ha (by unfold sS0; omega))
      refine y_aln (i := 0) dX11_share_44 at1.ne0 rfl rfl ?_
      refine y_getp (z := 15) (v := 80) dX11_share_45 frX11_86 cfX11 at1 rfl rfl (wp (v := 80) hW rfl rfl (by decide)) ?_
      refine x_callVI (c_X8_ways hW s41) dX11_share_48 lkX11_375 mfX8_ways cfX8 at80 rfl rfl rfl rfl (Nat.le_of_ble_eq_true rfl) (fun r48 I48 P48 hr48 hf48 => ?_)
      obtain ⟨i48, p48, q48⟩ := hf48
      rw [i48, p48]
      refine x_istore_n (i := 2) dX11_share_51 rfl rfl (Nat.le_of_ble_eq_true rfl) ?_
      refine x_iload_n (i := 2) dX11_share_52 rfl rfl ?_
      refine y_si dX11_share_53 ⟨by decide, by decide⟩ ?_
      refine x_icmp_le (tgt := 62) dX11_share_56 rfl (fun h56 => ?_) (fun h56 => ?_)
      · refine y_ic dX11_share_62 ⟨by decide, by decide⟩ ?_
        refine x_istore_n (i := 3) dX11_share_63 rfl rfl (Nat.le_of_ble_eq_true rfl) ?_
        refine y_ic dX11_share_64 ⟨by decide, by decide⟩ ?_
        refine x_istore (i := 4) dX11_share_65 rfl (Nat.le_of_ble_eq_true rfl) ?_
        refine y_ic dX11_share_67 ⟨by decide, by decide⟩ ?_
        refine x_istore (i := 5) dX11_share_68 rfl (Nat.le_of_ble_eq_true rfl) ?_
        refine x_keep [1, 1, 1, 1, 1, 1, 0, 0] ?_
        have e48 : r48 = wayW (T 0 1) (LfS T (I 47)) := by rcases q48 with q | q <;> omega
        rw [e48]
        exact hL (by omega) (by omega) (by omega) _ 0 (-1) (-1) I41 _ (Nat.lt_succ_self _) (Int.le_refl 0) (by have := sh_all (K := T 0 1) (L := LfS T (I 47)) (by omega) (fun x x0 x1 => (LfS_nn hF hr x x0 x1).1); omega) (Or.inl ⟨rfl, rfl, rfl⟩) (fun _ => r41) s41 (fun i hi => congrFun (o41 85 (by decide) (by decide) (by decide)) i) (PK.rf hW) (F41.mo (fun a ha => by unfold sS0 at ha; unfold sSH; omega))
      · refine y_bi dX11_share_59 ⟨by decide, by decide⟩ ?_
        refine x_iretX dX11_share_61 rfl ?_
        exact ⟨⟨PK.rf hW, by omega⟩, Or.inr (Or.inl ⟨by omega, by rcases q48 with q | q <;> omega, rfl, F41⟩)⟩
    · refine y_ic dX11_share_31 ⟨by decide, by decide⟩ ?_
      refine x_iretX dX11_share_32 rfl ?_
      exact ⟨⟨PK.rf hW, by omega⟩, Or.inl ⟨by omega, rfl, rfl⟩⟩
  · refine x_iload_n (i := 1) dX11_share_4 rfl rfl ?_
    refine y_ic dX11_share_5 ⟨by decide, by decide⟩ ?_
    refine x_icmp_eq (tgt := 20) dX11_share_6 rfl (fun h6 => ?_) (fun h6 => ?_)
    · refine y_aln (i := 0) dX11_share_20 at1.ne0 rfl rfl ?_
      refine y_getp (z := 2) (v := t) dX11_share_21 frX11_16 cfX11 at1 rfl rfl h1t ?_
      refine y_geti (z := 0) dX11_share_24 frX11_134 cfX10 hTo.at rfl rfl ?_
      refine y_ic dX11_share_27 ⟨by decide, by decide⟩ ?_
      refine x_icmp_ge (tgt := 33) dX11_share_28 rfl (fun h28 => ?_) (fun h28 => ?_)
      · refine y_aln (i := 0) dX11_share_33 at1.ne0 rfl rfl ?_
        refine y_getp (z := 15) (v := 80) dX11_share_34 frX11_86 cfX11 at1 rfl rfl (wp (v := 80) hW rfl rfl (by decide)) ?_
        refine y_aln (i := 0) dX11_share_37 at1.ne0 rfl rfl ?_
        refine y_getp (z := 9) (v := 46) dX11_share_38 frX11_46 cfX11 at1 rfl rfl (wp (v := 46) hW rfl rfl (by decide)) ?_
        refine x_callVV (c_X8_begin hW hM hF hr (by omega)) dX11_share_41 lkX11_373 mfX8_begin cfX8 at80 rfl rfl rfl rfl (Nat.le_of_ble_eq_true rfl) (fun n41 I41 P41 hf41 => ?_)
        obtain ⟨rfl, rfl, o41, s41, r41⟩ := hf41
        rw [show I (46 + 1) = I 47 from rfl] at s41 r41
        have F41 : Fc sS0 I I41 := fun a ha => o41 a (fun e => ha (by unfold sS0; omega)) (fun e => ha (by unfold sS0; omega)) (fun e => ha (by unfold sS0; omega))
        refine y_aln (i := 0) dX11_share_44 at1.ne0 rfl rfl ?_
        refine y_getp (z := 15) (v := 80) dX11_share_45 frX11_86 cfX11 at1 rfl rfl (wp (v := 80) hW rfl rfl (by decide)) ?_
        refine x_callVI (c_X8_ways hW s41) dX11_share_48 lkX11_375 mfX8_ways cfX8 at80 rfl rfl rfl rfl (Nat.le_of_ble_eq_true rfl) (fun r48 I48 P48 hr48 hf48 => ?_)
        obtain ⟨i48, p48, q48⟩ := hf48
        rw [i48, p48]
        refine x_istore_n (i := 2) dX11_share_51 rfl rfl (Nat.le_of_ble_eq_true rfl) ?_
        refine x_iload_n (i := 2) dX11_share_52 rfl rfl ?_
        refine y_si dX11_share_53 ⟨by decide, by decide⟩ ?_
        refine x_icmp_le (tgt := 62) dX11_share_56 rfl (fun h56 => ?_) (fun h56 => ?_)
        · refine y_ic dX11_share_62 ⟨by decide, by decide⟩ ?_
          refine x_istore_n (i := 3) dX11_share_63 rfl rfl (Nat.le_of_ble_eq_true rfl) ?_
          refine y_ic dX11_share_64 ⟨by decide, by decide⟩ ?_
          refine x_istore (i := 4) dX11_share_65 rfl (Nat.le_of_ble_eq_true rfl) ?_
          refine y_ic dX11_share_67 ⟨by decide, by decide⟩ ?_
          refine x_istore (i := 5) dX11_share_68 rfl (Nat.le_of_ble_eq_true rfl) ?_
          refine x_keep [1, 1, 1, 1, 1, 1, 0, 0] ?_
          have e48 : r48 = wayW (T 0 1) (LfS T (I 47)) := by rcases q48 with q | q <;> omega
          rw [e48]
          exact hL (by omega) (by omega) (by omega) _ 0 (-1) (-1) I41 _ (Nat.lt_succ_self _) (Int.le_refl 0) (by have := sh_all (K := T 0 1) (L := LfS T (I 47)) (by omega) (fun x x0 x1 => (LfS_nn hF hr x x0 x1).1); omega) (Or.inl ⟨rfl, rfl, rfl⟩) (fun _ => r41) s41 (fun i hi => congrFun (o41 85 (by decide) (by decide) (by decide)) i) (PK.rf hW) (F41.mo (fun a ha => by unfold sS0 at ha; unfold sSH; omega))
        · refine y_bi dX11_share_59 ⟨by decide, by decide⟩ ?_
          refine x_iretX dX11_share_61 rfl ?_
          exact ⟨⟨PK.rf hW, by omega⟩, Or.inr (Or.inl ⟨by omega, by rcases q48 with q | q <;> omega, rfl, F41⟩)⟩
      · refine y_ic dX11_share_31 ⟨by decide, by decide⟩ ?_
        refine x_iretX dX11_share_32 rfl ?_
        exact ⟨⟨PK.rf hW, by omega⟩, Or.inl ⟨by omega, rfl, rfl⟩⟩
    · refine xnNW (text := "a share has a least worth and one of all") rfl rfl (by decide +kernel) (Nat.le_of_ble_eq_true rfl) (by omega) (by decide) (by decide) dX11_share_9 dX11_share_12 dX11_share_13 dX11_share_16 dX11_share_19 ?_
      exact ⟨⟨rfl, rfl⟩, by omega, rfl⟩
end

