/-! ===== the class: the poorest way to a wish, the tape, a new town ===== -/
abbrev sPO : Nat → Prop := fun a => sY a ∨ a = 48 ∨ a = 49 ∨ a = 77 ∨ a = 78 ∨ a = 79
abbrev sPK : Nat → Prop := fun a => sPO a ∨ a = 85 ∨ a = 87
theorem sPO_tl : ∀ a, sPO a → ¬ inTL a := fun a ha => by
  unfold sPO sY at ha
  unfold inTL
  omega
def fdC (a b c d e j : Int) : Int := bcS (if j < 4 then a else if j < 8 then b else if j < 12 then c else if j < 16 then d else e) (24 - 8 * (j % 4))
theorem fdC_by {a b c d e j : Int} : fdS a b c d e j = fdC a b c d e j ∨ fdS a b c d e j = fdC a b c d e j + 256 := bcS_by (by omega)
theorem MK.own {I J : Mem} {P P' : Ptr} {q t : Nat} {T : Tn} (h : MK I P q t (t + 13) T) (hP : P' q = P q) (hn : ∀ a, t ≤ a → a ≤ t + 18 → J a = I a) : MK J P' q t (t + 13) T := by
  obtain ⟨hq, hTo, hLo, hpt, hpl, hca, hcl⟩ := h
  refine ⟨hq, hTo, hLo, by rw [hP]; exact hpt, by rw [hP]; exact hpl, ?_, ?_⟩
  · unfold CA
    rw [hn t (by omega) (by omega), hn (t + 2) (by omega) (by omega), hn (t + 3) (by omega) (by omega), hn (t + 4) (by omega) (by omega), hn (t + 5) (by omega) (by omega), hn (t + 6) (by omega) (by omega), hn (t + 7) (by omega) (by omega), hn (t + 8) (by omega) (by omega), hn (t + 9) (by omega) (by omega), hn (t + 10) (by omega) (by omega), hn (t + 11) (by omega) (by omega), hn (t + 12) (by omega) (by omega)]
    exact hca
  · unfold CL CLo
    rw [hn (t + 13) (by omega) (by omega), hn (t + 13 + 1) (by omega) (by omega), hn (t + 13 + 2) (by omega) (by omega), hn (t + 13 + 3) (by omega) (by omega), hn (t + 13 + 4) (by omega) (by omega), hn (t + 13 + 5) (by omega) (by omega)]
    exact hcl
abbrev sTE (g : Nat) : Nat → Prop := fun a => a = 1 ∨ sD g a
abbrev sTW (g : Nat) : Nat → Prop := fun a => a = 1 ∨ sD g a ∨ a = 47 ∨ a = 85
section
variable {G : HX} {d : Nat} {I : Mem} {P : Ptr} {T : Tn}
theorem c_X11_put {v : Int} (hW : WP P) (ht : 0 ≤ I 1 1 ∧ I 1 1 + 4 ≤ 700) : Cv G mX11_put d 0 0 [.inr (.inl 1), .inl v] NO I P (qV (fun n' I' P' => n' = NO ∧ P' = P ∧ (∀ a, a ≠ 1 → a ≠ 2 → I' a = I a) ∧ I' 1 = u1 (I 1) 1 (I 1 1 + 4) ∧ ∀ c, I' 2 c = if I 1 1 ≤ c ∧ c < I 1 1 + 4 then bcS v (24 - 8 * (c - I 1 1)) else I 2 c)) := by
  obtain ⟨t, ht0⟩ : ∃ t, t = I 1 1 := ⟨_, rfl⟩
  rw [← ht0] at ht
  refine x_enter mfX11_put rfl (Nat.le_of_ble_eq_true rfl) (fun _ => ?_)
  have hL : ∀ (j : Nat) (k : Int) (K : Mem), (4 - k).toNat < j → 0 ≤ k → k ≤ 4 → K 1 = u1 (I 1) 1 (t + k) → (∀ c, K 2 c = if t ≤ c ∧ c < t + k then bcS v (24 - 8 * (c - t)) else I 2 c) → (∀ a, a ≠ 1 → a ≠ 2 → K a = I a) → V G mX11_put d 0 0 3 [some (.inr (.inl 1)), some (.inl (v)), some (.inl (24 - 8 * k))] [] NO K P (qV (fun n' I' P' => n' = NO ∧ P' = P ∧ (∀ a, a ≠ 1 → a ≠ 2 → I' a = I a) ∧ I' 1 = u1 (I 1) 1 (I 1 1 + 4) ∧ ∀ c, I' 2 c = if I 1 1 ≤ c ∧ c < I 1 1 + 4 then bcS v (24 - 8 * (c - I 1 1)) else I 2 c)) := by
    intro j
    induction j with
    | zero => intro k K hj; omega
    | succ j ih =>
      intro k K hj hk hk2 h1 hc hFr
      have h11 : K 1 1 = t + k := by rw [h1, u1_eq]
      have hb := bcS_bd v (24 - 8 * k)
      refine x_iload_n (i := 2) dX11_put_3 rfl rfl ?_
      refine x_if_lt (tgt := 46) dX11_put_4 rfl (fun h4 => ?_) (fun h4 => ?_)
      · refine x_vret dX11_put_46 rfl ?_
        rw [← ht0]
        exact ⟨rfl, rfl, hFr, by rw [h1, show k = 4 by omega], fun c => by rw [hc, show k = 4 by omega]⟩
      · refine y_aln (i := 0) dX11_put_7 at1.ne0 rfl rfl ?_
        refine y_geti (z := 1) dX11_put_8 frX11_104 cfX11 at1 rfl rfl ?_
        refine y_si dX11_put_11 ⟨by decide, by decide⟩ ?_
        rw [h11]
        refine x_icmp_ge (tgt := 46) dX11_put_14 rfl (fun h14 => ?_) (fun h14 => ?_)
        · refine x_vret dX11_put_46 rfl ?_
          rw [← ht0]
          exact ⟨rfl, rfl, hFr, by rw [h1, show k = 4 by omega], fun c => by rw [hc, show k = 4 by omega]⟩
        · refine y_aln (i := 0) dX11_put_17 at1.ne0 rfl rfl ?_
          refine y_getp (z := 0) (v := 2) dX11_put_18 frX11_9 cfX11 at1 rfl rfl (wp (v := 2) hW rfl rfl (by decide)) ?_
          refine y_aln (i := 0) dX11_put_21 at1.ne0 rfl rfl ?_
          refine y_geti (z := 1) dX11_put_22 frX11_104 cfX11 at1 rfl rfl ?_
          rw [h11]
          refine x_iload_n (i := 1) dX11_put_25 rfl rfl ?_
          refine x_iload_n (i := 2) dX11_put_26 rfl rfl ?_
          refine y_iushr dX11_put_27 ?_
          refine x_i2b (bcS v (24 - 8 * k)) dX11_put_28 (bcS_c _ _) ⟨by omega, by omega⟩ ?_
          refine x_bast dX11_put_29 ar2 ⟨by omega, by omega⟩ (by omega) ?_
          refine y_aln (i := 0) dX11_put_30 at1.ne0 rfl rfl ?_
          refine x_dup dX11_put_31 rfl ?_
          refine y_geti (z := 1) dX11_put_32 frX11_104 cfX11 at1 rfl rfl ?_
          rw [uI_ne (by decide), h11]
          refine y_ic dX11_put_35 ⟨by decide, by decide⟩ ?_
          refine x_iadd dX11_put_36 ⟨by omega, by omega⟩ ?_
          refine y_puti (z := 1) dX11_put_37 frX11_104 cfX11 at1 rfl rfl rfl ?_
          refine x_iinc dX11_put_40 rfl ⟨by omega, by omega⟩ rfl (Nat.le_of_ble_eq_true rfl) ?_
          refine x_goto (tgt := 3) dX11_put_43 rfl ?_
          refine x_keep [1, 1, 1] ?_
          obtain ⟨J, hJ⟩ : ∃ J, J = uI (uI K 2 (t + k) (bcS v (24 - 8 * k))) 1 1 (t + k + 1) := ⟨_, rfl⟩
          rw [← hJ]
          have := ih (k + 1) J (by omega) (by omega) (by omega) (by
            rw [hJ, uI_eq, uI_ne (by decide), h1]
            funext i
            unfold u1
            split
            · omega
            · rfl) (fun c => by
            rw [hJ, uI_ne (by decide), uI_eq]
            by_cases e : c = t + k
            · rw [e, u1_eq, if_pos (by omega), show t + k - t = k by omega]
            · rw [u1_ne e, hc]
              by_cases q : t ≤ c ∧ c < t + k
              · rw [if_pos q, if_pos (by omega)]
              · rw [if_neg q, if_neg (by omega)]) (fun a a1 a2 => by rw [hJ, uI_ne a1, uI_ne a2]; exact hFr a a1 a2)
          rw [show 24 - 8 * (k + 1) = 24 - 8 * k + -8 by omega] at this
          exact this
  refine y_bi dX11_put_0 ⟨by decide, by decide⟩ ?_
  refine x_istore_n (i := 2) dX11_put_2 rfl rfl (Nat.le_of_ble_eq_true rfl) ?_
  refine x_keep [1, 1, 1] ?_
  exact hL _ 0 I (Nat.lt_succ_self _) (by decide) (by decide) (by rw [Int.add_zero, ht0]; funext i; unfold u1; split; (next e => rw [e]); rfl) (fun c => by rw [if_neg (by omega)]) (fun _ _ _ => rfl)
theorem c_X11_feed {a b c x e : Int} (hW : WP P) (ht : 0 ≤ I 1 1 ∧ I 1 1 ≤ 700) : Cv G mX11_feed (d + 1) 0 0 [.inr (.inl 1), .inl a, .inl b, .inl c, .inl x, .inl e] NO I P (qI NO (fun r I' P' => P' = P ∧ ((700 < I 1 1 + 20 ∧ r = -1 ∧ I' = I) ∨ (I 1 1 + 20 ≤ 700 ∧ r = I 1 1 + 20 ∧ I' 1 = u1 (I 1) 1 (I 1 1 + 20) ∧ (∀ a, a ≠ 1 → a ≠ 2 → I' a = I a) ∧ ∀ j, I' 2 j = if I 1 1 ≤ j ∧ j < I 1 1 + 20 then fdC a b c x e (j - I 1 1) else I 2 j)))) := by
  have uu : ∀ (f : Int → Int) (v w : Int), u1 (u1 f 1 v) 1 w = u1 f 1 w := fun f v w => by funext i; unfold u1; split <;> rfl
  refine x_enter mfX11_feed rfl (Nat.le_of_ble_eq_true rfl) (fun _ => ?_)
  refine y_aln (i := 0) dX11_feed_0 at1.ne0 rfl rfl ?_
  refine y_geti (z := 1) dX11_feed_1 frX11_104 cfX11 at1 rfl rfl ?_
  refine y_bi dX11_feed_4 ⟨by decide, by decide⟩ ?_
  refine x_iadd dX11_feed_6 ⟨by omega, by omega⟩ ?_
  refine y_si dX11_feed_7 ⟨by decide, by decide⟩ ?_
  refine x_icmp_le (tgt := 15) dX11_feed_10 rfl (fun h10 => ?_) (fun h10 => ?_)
  · refine y_aln (i := 0) dX11_feed_15 at1.ne0 rfl rfl ?_
    refine x_iload_n (i := 1) dX11_feed_16 rfl rfl ?_
    refine x_callVV (c_X11_put hW (by omega)) dX11_feed_17 lkX11_107 mfX11_put cfX11 at1 rfl rfl rfl rfl (Nat.le_of_ble_eq_true rfl) (fun n17 I17 P17 hf17 => ?_)
    obtain ⟨rfl, rfl, o17, p17, w17⟩ := hf17
    have t17 : I17 1 1 = I 1 1 + 4 := by rw [p17, u1_eq]
    refine y_aln (i := 0) dX11_feed_20 at1.ne0 rfl rfl ?_
    refine x_iload_n (i := 2) dX11_feed_21 rfl rfl ?_
    refine x_callVV (c_X11_put hW (by omega)) dX11_feed_22 lkX11_107 mfX11_put cfX11 at1 rfl rfl rfl rfl (Nat.le_of_ble_eq_true rfl) (fun n22 I22 P22 hf22 => ?_)
    obtain ⟨rfl, rfl, o22, p22, w22⟩ := hf22
    rw [t17] at p22 w22
    have t22 : I22 1 1 = I 1 1 + 4 + 4 := by rw [p22, u1_eq]
    refine y_aln (i := 0) dX11_feed_25 at1.ne0 rfl rfl ?_
    refine x_iload_n (i := 3) dX11_feed_26 rfl rfl ?_
    refine x_callVV (c_X11_put hW (by omega)) dX11_feed_27 lkX11_107 mfX11_put cfX11 at1 rfl rfl rfl rfl (Nat.le_of_ble_eq_true rfl) (fun n27 I27 P27 hf27 => ?_)
    obtain ⟨rfl, rfl, o27, p27, w27⟩ := hf27
    rw [t22] at p27 w27
    have t27 : I27 1 1 = I 1 1 + 4 + 4 + 4 := by rw [p27, u1_eq]
    refine y_aln (i := 0) dX11_feed_30 at1.ne0 rfl rfl ?_
    refine x_iload (i := 4) dX11_feed_31 rfl ?_
    refine x_callVV (c_X11_put hW (by omega)) dX11_feed_33 lkX11_107 mfX11_put cfX11 at1 rfl rfl rfl rfl (Nat.le_of_ble_eq_true rfl) (fun n33 I33 P33 hf33 => ?_)
    obtain ⟨rfl, rfl, o33, p33, w33⟩ := hf33
    rw [t27] at p33 w33
    have t33 : I33 1 1 = I 1 1 + 4 + 4 + 4 + 4 := by rw [p33, u1_eq]
    refine y_aln (i := 0) dX11_feed_36 at1.ne0 rfl rfl ?_
    refine x_iload (i := 5) dX11_feed_37 rfl ?_
    refine x_callVV (c_X11_put hW (by omega)) dX11_feed_39 lkX11_107 mfX11_put cfX11 at1 rfl rfl rfl rfl (Nat.le_of_ble_eq_true rfl) (fun n39 I39 P39 hf39 => ?_)
    obtain ⟨rfl, rfl, o39, p39, w39⟩ := hf39
    rw [t33] at p39 w39
    have t39 : I39 1 1 = I 1 1 + 20 := by rw [p39, u1_eq]; omega
    refine y_aln (i := 0) dX11_feed_42 at1.ne0 rfl rfl ?_
    refine y_geti (z := 1) dX11_feed_43 frX11_104 cfX11 at1 rfl rfl ?_
    rw [t39]
    refine x_iret dX11_feed_46 rfl ?_
    refine ⟨rfl, Or.inr ⟨by omega, rfl, by rw [p39, p33, p27, p22, p17, uu, uu, uu, uu, show I 1 1 + 4 + 4 + 4 + 4 + 4 = I 1 1 + 20 by omega], fun a a1 a2 => by rw [o39 a a1 a2, o33 a a1 a2, o27 a a1 a2, o22 a a1 a2, o17 a a1 a2], fun j => ?_⟩⟩
    rw [w39, w33, w27, w22, w17]
    unfold fdC
    by_cases q0 : I 1 1 ≤ j ∧ j < I 1 1 + 20
    · rw [if_pos q0]
      by_cases q5 : I 1 1 + 16 ≤ j
      · rw [if_pos (by omega), if_neg (by omega), if_neg (by omega), if_neg (by omega), if_neg (by omega)]
        congr 1
        omega
      · rw [if_neg (by omega)]
        by_cases q4 : I 1 1 + 12 ≤ j
        · rw [if_pos (by omega), if_neg (by omega), if_neg (by omega), if_neg (by omega), if_pos (by omega)]
          congr 1
          omega
        · rw [if_neg (by omega)]
          by_cases q3 : I 1 1 + 8 ≤ j
          · rw [if_pos (by omega), if_neg (by omega), if_neg (by omega), if_pos (by omega)]
            congr 1
            omega
          · rw [if_neg (by omega)]
            by_cases q2 : I 1 1 + 4 ≤ j
            · rw [if_pos (by omega), if_neg (by omega), if_pos (by omega)]
              congr 1
              omega
            · rw [if_neg (by omega), if_pos (by omega), if_pos (by omega)]
              congr 1
              omega
    · rw [if_neg q0, if_neg (by omega), if_neg (by omega), if_neg (by omega), if_neg (by omega), if_neg (by omega)]
  · refine y_ic dX11_feed_13 ⟨by decide, by decide⟩ ?_
    refine x_iret dX11_feed_14 rfl ?_
    exact ⟨rfl, Or.inl ⟨by omega, rfl, rfl⟩⟩
theorem c_X11_town {t g : Nat} {n : Int} (hW : WP P) (h1t : P 1 2 = t) (h1g : P 1 3 = g) (hTo : isT NO t) (hGo : isT NO g) (htg : t ≠ g) (h17 : 0 ≤ I 1 1 ∧ I 1 1 ≤ 700) (h15 : 0 ≤ I 1 5 ∧ I 1 5 ≤ 100000) : Cv G mX11_town (d + 10) 1 6 [.inr (.inl 1), .inl n] NO I P (qX NO (fun r I' P' => (0 ≤ n ∧ n ≤ I 1 1) ∧ ((r ≠ 0 ∧ r = (parR (tkS (I 2) n)).1 ∧ PK P P' ∧ I' 1 = u1 (u1 (u1 (I 1) 1 0) 4 (parR (tkS (I 2) n)).2.1) 5 (I 1 5 + 1) ∧ Fc (sTE g) I I') ∨ (r = 0 ∧ (parR (tkS (I 2) n)).1 = 0 ∧ (WP P' ∧ P' 1 2 = g ∧ P' 1 3 = t ∧ P' 46 0 = g ∧ P' 46 1 = g + 13) ∧ (WG 0 (parR (tkS (I 2) n)).2.2.2 ∧ CR I' g (parR (tkS (I 2) n)).2.2.2 0 ∧ CL I' (g + 13) (parR (tkS (I 2) n)).2.2.2) ∧ (∀ c, 0 ≤ c → c < 48 → I' 47 c = I' (g + 1) c) ∧ I' 1 = u1 (u1 (I 1) 1 0) 4 (-1) ∧ (I' 85 1 = 0 ∧ I' 85 3 = 0 ∧ I' 85 5 = 0 ∧ I' 85 7 = 0 ∧ I' 85 9 = 0) ∧ Fc (sTW g) I I'))) (fun c I' P' => (I' = I ∧ P' = P) ∧ ¬ (0 ≤ n ∧ n ≤ I 1 1) ∧ c = tEI)) := by
  have wT := wp_T hW hTo
  have wG := wp_T hW hGo
  have hg1 := hGo.1
  obtain ⟨Z, hZ⟩ : ∃ Z, Z = parR (tkS (I 2) n) := ⟨_, rfl⟩
  refine x_enter mfX11_town rfl (Nat.le_of_ble_eq_true rfl) (fun _ => ?_)
  rw [← hZ]
  have h98 : ∀ (K : Mem) (R : Ptr), WP R → R 1 2 = g → R 1 3 = t → R 46 0 = g → R 46 1 = g + 13 → (0 ≤ n ∧ n ≤ I 1 1) → Z.1 = 0 → (WG 0 Z.2.2.2 ∧ CR K g Z.2.2.2 0 ∧ CL K (g + 13) Z.2.2.2) → (∀ c, 0 ≤ c → c < 48 → K 47 c = K (g + 1) c) → K 1 = u1 (u1 (I 1) 1 0) 4 (-1) → Fc (sTW g) I K → V G mX11_town (d + 10) 1 6 98 [some (.inr (.inl 1)), none, none, none] [] NO K R (qX NO (fun r I' P' => (0 ≤ n ∧ n ≤ I 1 1) ∧ ((r ≠ 0 ∧ r = Z.1 ∧ PK P P' ∧ I' 1 = u1 (u1 (u1 (I 1) 1 0) 4 Z.2.1) 5 (I 1 5 + 1) ∧ Fc (sTE g) I I') ∨ (r = 0 ∧ Z.1 = 0 ∧ (WP P' ∧ P' 1 2 = g ∧ P' 1 3 = t ∧ P' 46 0 = g ∧ P' 46 1 = g + 13) ∧ (WG 0 Z.2.2.2 ∧ CR I' g Z.2.2.2 0 ∧ CL I' (g + 13) Z.2.2.2) ∧ (∀ c, 0 ≤ c → c < 48 → I' 47 c = I' (g + 1) c) ∧ I' 1 = u1 (u1 (I 1) 1 0) 4 (-1) ∧ (I' 85 1 = 0 ∧ I' 85 3 = 0 ∧ I' 85 5 = 0 ∧ I' 85 7 = 0 ∧ I' 85 9 = 0) ∧ Fc (sTW g) I I'))) (fun c I' P' => (I' = I ∧ P' = P) ∧ ¬ (0 ≤ n ∧ n ≤ I 1 1) ∧ c = tEI)) := fun K R hWR r12 r13 r460 r461 hn z0 hS k47 k1 kF => by
    refine y_aln (i := 0) dX11_town_98 at1.ne0 rfl rfl ?_
    refine y_getp (z := 17) (v := 85) dX11_town_99 frX11_100 cfX11 at1 rfl rfl (wp (v := 85) hWR rfl rfl (by decide)) ?_
    refine x_callVV (c_X1_forget hWR) dX11_town_102 lkX11_131 mfX1_forget cfX1 at85 rfl rfl rfl rfl (Nat.le_of_ble_eq_true rfl) (fun n102 I102 P102 hf102 => ?_)
    obtain ⟨rfl, rfl, o102, p1, p3, p5, p7, p9⟩ := hf102
    refine y_ic dX11_town_105 ⟨by decide, by decide⟩ ?_
    refine x_iretX dX11_town_106 rfl ?_
    refine ⟨hn, Or.inr ⟨rfl, z0, ⟨hWR, r12, r13, r460, r461⟩, ⟨hS.1, hS.2.1.eq (fun a a0 a1 => o102 a (by omega)) (by rw [o102 41 (by decide)]), ?_⟩, fun c c0 c1 => by rw [o102 47 (by decide), o102 (g + 1) (by omega)]; exact k47 c c0 c1, by rw [o102 1 (by decide)]; exact k1, ⟨p1, p3, p5, p7, p9⟩, fun a ha => by rw [o102 a (fun e => ha (Or.inr (Or.inr (Or.inr e))))]; exact kF a ha⟩⟩
    have hcl := hS.2.2
    unfold CL CLo at hcl ⊢
    rw [o102 (g + 13) (by omega), o102 (g + 13 + 1) (by omega), o102 (g + 13 + 2) (by omega), o102 (g + 13 + 3) (by omega), o102 (g + 13 + 4) (by omega), o102 (g + 13 + 5) (by omega)]
    exact hcl
  have h40 : ∀ (K : Mem), Fc (sTE g) I K → K 1 = u1 (I 1) 1 0 → (0 ≤ n ∧ n ≤ I 1 1) → (Z.1 ≠ 0 → K 41 3 = Z.2.1) → (Z.1 = 0 → WG 0 Z.2.2.2 ∧ CR K g Z.2.2.2 0 ∧ CL K (g + 13) Z.2.2.2) → V G mX11_town (d + 10) 1 6 40 [some (.inr (.inl 1)), none, some (.inl Z.1), none] [] NO K (uP P 41 1 g) (qX NO (fun r I' P' => (0 ≤ n ∧ n ≤ I 1 1) ∧ ((r ≠ 0 ∧ r = Z.1 ∧ PK P P' ∧ I' 1 = u1 (u1 (u1 (I 1) 1 0) 4 Z.2.1) 5 (I 1 5 + 1) ∧ Fc (sTE g) I I') ∨ (r = 0 ∧ Z.1 = 0 ∧ (WP P' ∧ P' 1 2 = g ∧ P' 1 3 = t ∧ P' 46 0 = g ∧ P' 46 1 = g + 13) ∧ (WG 0 Z.2.2.2 ∧ CR I' g Z.2.2.2 0 ∧ CL I' (g + 13) Z.2.2.2) ∧ (∀ c, 0 ≤ c → c < 48 → I' 47 c = I' (g + 1) c) ∧ I' 1 = u1 (u1 (I 1) 1 0) 4 (-1) ∧ (I' 85 1 = 0 ∧ I' 85 3 = 0 ∧ I' 85 5 = 0 ∧ I' 85 7 = 0 ∧ I' 85 9 = 0) ∧ Fc (sTW g) I I'))) (fun c I' P' => (I' = I ∧ P' = P) ∧ ¬ (0 ≤ n ∧ n ≤ I 1 1) ∧ c = tEI)) := fun K kF k1 hn he hs => by
    have hWR : WP (uP P 41 1 g) := WP.up (k := 1) hW rfl
    have hP1 : PK P (uP P 41 1 g) := ⟨hWR, uP_ne (by decide), uP_ne (by decide)⟩
    have h1tR : (uP P 41 1 g) 1 2 = t := by rw [uP_ne (by decide)]; exact h1t
    have h1gR : (uP P 41 1 g) 1 3 = g := by rw [uP_ne (by decide)]; exact h1g
    have e15 : uI K 1 4 (K 41 3) 1 5 = I 1 5 := by rw [uI_eq, u1_ne (by decide), k1, u1_ne (by decide)]
    have hW2 : WP (uP (uP (uP P 41 1 g) 1 3 t) 1 2 g) := WP.up (k := 2) (WP.up (k := 3) hWR rfl) rfl
    have hW3 : WP (uP (uP (uP (uP (uP P 41 1 g) 1 3 t) 1 2 g) 46 0 g) 46 1 (g + 13)) := hW2.mk isM46
    have h90 : Z.1 = 0 → V G mX11_town (d + 10) 1 6 90 [some (.inr (.inl 1)), none, none, some (.inr (.inl g))] [] NO (uI K 1 4 (-1)) (uP (uP (uP P 41 1 g) 1 3 t) 1 2 g) (qX NO (fun r I' P' => (0 ≤ n ∧ n ≤ I 1 1) ∧ ((r ≠ 0 ∧ r = Z.1 ∧ PK P P' ∧ I' 1 = u1 (u1 (u1 (I 1) 1 0) 4 Z.2.1) 5 (I 1 5 + 1) ∧ Fc (sTE g) I I') ∨ (r = 0 ∧ Z.1 = 0 ∧ (WP P' ∧ P' 1 2 = g ∧ P' 1 3 = t ∧ P' 46 0 = g ∧ P' 46 1 = g + 13) ∧ (WG 0 Z.2.2.2 ∧ CR I' g Z.2.2.2 0 ∧ CL I' (g + 13) Z.2.2.2) ∧ (∀ c, 0 ≤ c → c < 48 → I' 47 c = I' (g + 1) c) ∧ I' 1 = u1 (u1 (I 1) 1 0) 4 (-1) ∧ (I' 85 1 = 0 ∧ I' 85 3 = 0 ∧ I' 85 5 = 0 ∧ I' 85 7 = 0 ∧ I' 85 9 = 0) ∧ Fc (sTW g) I I'))) (fun c I' P' => (I' = I ∧ P' = P) ∧ ¬ (0 ≤ n ∧ n ≤ I 1 1) ∧ c = tEI)) := fun z0 => by
      refine y_aln (i := 0) dX11_town_90 at1.ne0 rfl rfl ?_
      refine y_getp (z := 9) (v := 46) dX11_town_91 frX11_46 cfX11 at1 rfl rfl (wp (v := 46) hW2 rfl rfl (by decide)) ?_
      refine y_aln (i := 3) dX11_town_94 hGo.at.ne0 rfl rfl ?_
      refine x_callVV (c_X3_settleIn hW2 isM46 hGo) dX11_town_95 lkX11_128 mfX3_settleIn cfX3 at46 rfl rfl rfl rfl (Nat.le_of_ble_eq_true rfl) (fun n95 I95 P95 hf95 => ?_)
      obtain ⟨rfl, rfl, hI95⟩ := hf95
      have o95 : ∀ a, a ≠ 47 → a ≠ 1 → I95 a = K a := fun a h1 h2 => by rw [hI95, uA_ne h1, uI_ne h2]
      have hS := hs z0
      refine x_keep [1, 0, 0, 0] ?_
      refine h98 I95 _ hW3 ?_ ?_ mk_P.1 mk_P.2 hn z0 ⟨hS.1, hS.2.1.eq (fun a a0 a1 => o95 a (by omega) (by omega)) (by rw [o95 41 (by decide) (by decide)]), ?_⟩ (fun c c0 c1 => ?_) ?_ (fun a ha => ?_)
      · rw [uP_ne (by decide), uP_ne (by decide), uP_eq, u1_eq]
      · rw [uP_ne (by decide), uP_ne (by decide), uP_eq, u1_ne (by decide), uP_eq, u1_eq]
      · have hcl := hS.2.2
        unfold CL CLo at hcl ⊢
        rw [o95 (g + 13) (by omega) (by omega), o95 (g + 13 + 1) (by omega) (by omega), o95 (g + 13 + 2) (by omega) (by omega), o95 (g + 13 + 3) (by omega) (by omega), o95 (g + 13 + 4) (by omega) (by omega), o95 (g + 13 + 5) (by omega) (by omega)]
        exact hcl
      · rw [o95 (g + 1) (by omega) (by omega), hI95]
        show (if 0 ≤ c ∧ c < 48 then uI K 1 4 (-1) (g + 1) c else uI K 1 4 (-1) (46 + 1) c) = _
        rw [if_pos ⟨c0, c1⟩, uI_ne (by omega)]
      · rw [hI95, uA_ne (by decide), uI_eq, k1]
      · rw [o95 a (fun e => ha (Or.inr (Or.inr (Or.inl e)))) (fun e => ha (Or.inl e))]
        exact kF a (fun z => ha (z.elim Or.inl (fun z => Or.inr (Or.inl z))))
    refine x_iload_n (i := 2) dX11_town_40 rfl rfl ?_
    refine x_if_eq (tgt := 67) dX11_town_41 rfl (fun h41 => ?_) (fun h41 => ?_)
    · refine y_aln (i := 0) dX11_town_67 at1.ne0 rfl rfl ?_
      refine y_ic dX11_town_68 ⟨by decide, by decide⟩ ?_
      refine y_puti (z := 4) dX11_town_69 frX11_23 cfX11 at1 rfl rfl rfl ?_
      refine y_aln (i := 0) dX11_town_72 at1.ne0 rfl rfl ?_
      refine y_getp (z := 3) (v := g) dX11_town_73 frX11_20 cfX11 at1 rfl rfl h1gR ?_
      refine y_asn (i := 3) dX11_town_76 hGo.at.ne0 rfl rfl (Nat.le_of_ble_eq_true rfl) ?_
      refine y_aln (i := 0) dX11_town_77 at1.ne0 rfl rfl ?_
      refine y_aln (i := 0) dX11_town_78 at1.ne0 rfl rfl ?_
      refine y_getp (z := 2) (v := t) dX11_town_79 frX11_16 cfX11 at1 rfl rfl h1tR ?_
      refine y_putp (z := 3) dX11_town_82 frX11_20 cfX11 at1 rfl rfl rfl ?_
      refine y_aln (i := 0) dX11_town_85 at1.ne0 rfl rfl ?_
      refine y_aln (i := 3) dX11_town_86 hGo.at.ne0 rfl rfl ?_
      refine y_putp (z := 2) dX11_town_87 frX11_16 cfX11 at1 rfl rfl rfl ?_
      refine x_keep [1, 0, 0, 1] ?_
      exact h90 h41
    · refine y_aln (i := 0) dX11_town_44 at1.ne0 rfl rfl ?_
      refine y_aln (i := 0) dX11_town_45 at1.ne0 rfl rfl ?_
      refine y_getp (z := 8) (v := 41) dX11_town_46 frX11_37 cfX11 at1 rfl rfl (wp (v := 41) hWR rfl rfl (by decide)) ?_
      refine y_geti (z := 3) dX11_town_49 frX11_122 cfX6 at41 rfl rfl ?_
      refine y_puti (z := 4) dX11_town_52 frX11_23 cfX11 at1 rfl rfl rfl ?_
      refine y_aln (i := 0) dX11_town_55 at1.ne0 rfl rfl ?_
      refine x_dup dX11_town_56 rfl ?_
      refine y_geti (z := 5) dX11_town_57 frX11_125 cfX11 at1 rfl rfl ?_
      rw [e15]
      refine y_ic dX11_town_60 ⟨by decide, by decide⟩ ?_
      refine x_iadd dX11_town_61 ⟨by omega, by omega⟩ ?_
      refine y_puti (z := 5) dX11_town_62 frX11_125 cfX11 at1 rfl rfl rfl ?_
      refine x_iload_n (i := 2) dX11_town_65 rfl rfl ?_
      refine x_iretX dX11_town_66 rfl ?_
      refine ⟨hn, Or.inl ⟨h41, rfl, hP1, ?_, fun a ha => by rw [uI_ne (fun e => ha (Or.inl e)), uI_ne (fun e => ha (Or.inl e))]; exact kF a ha⟩⟩
      rw [uI_eq, uI_eq, k1, he h41]
  refine x_iload_n (i := 1) dX11_town_0 rfl rfl ?_
  refine x_if_lt (tgt := 12) dX11_town_1 rfl (fun h1 => ?_) (fun h1 => ?_)
  · refine xnI (text := "the tape has not so many bytes") rfl rfl (by decide +kernel) (Nat.le_of_ble_eq_true rfl) (by omega) (by decide) (by decide) dX11_town_12 dX11_town_15 dX11_town_16 dX11_town_18 dX11_town_21 ?_
    exact ⟨⟨rfl, rfl⟩, by omega, rfl⟩
  · refine x_iload_n (i := 1) dX11_town_4 rfl rfl ?_
    refine y_aln (i := 0) dX11_town_5 at1.ne0 rfl rfl ?_
    refine y_geti (z := 1) dX11_town_6 frX11_104 cfX11 at1 rfl rfl ?_
    refine x_icmp_le (tgt := 22) dX11_town_9 rfl (fun h9 => ?_) (fun h9 => ?_)
    · refine y_aln (i := 0) dX11_town_22 at1.ne0 rfl rfl ?_
      refine y_ic dX11_town_23 ⟨by decide, by decide⟩ ?_
      refine y_puti (z := 1) dX11_town_24 frX11_104 cfX11 at1 rfl rfl rfl ?_
      refine y_aln (i := 0) dX11_town_27 at1.ne0 rfl rfl ?_
      refine y_getp (z := 8) (v := 41) dX11_town_28 frX11_37 cfX11 at1 rfl rfl (wp (v := 41) hW rfl rfl (by decide)) ?_
      refine y_aln (i := 0) dX11_town_31 at1.ne0 rfl rfl ?_
      refine y_getp (z := 3) (v := g) dX11_town_32 frX11_20 cfX11 at1 rfl rfl h1g ?_
      refine x_iload_n (i := 1) dX11_town_35 rfl rfl ?_
      refine x_callVI (c_X6_readTown hW hGo ⟨by omega, by omega⟩) dX11_town_36 lkX11_118 mfX6_readTown cfX6 at41 rfl rfl rfl rfl (Nat.le_of_ble_eq_true rfl) (fun r36 I36 P36 hr36 hf36 => ?_)
      obtain ⟨rfl, f36, r36e, p36, s36⟩ := hf36
      rw [show uI I 1 1 0 2 = I 2 from uI_ne (by decide), ← hZ] at r36e p36 s36
      rw [r36e]
      refine x_istore_n (i := 2) dX11_town_39 rfl rfl (Nat.le_of_ble_eq_true rfl) ?_
      refine x_keep [1, 0, 1, 0] ?_
      refine h40 I36 (fun a ha => by rw [f36 a (fun z => ha (Or.inr z)), uI_ne (fun e => ha (Or.inl e))]) ?_ ⟨by omega, by omega⟩ (fun q => p36 (by rw [r36e]; exact q)) (fun q => s36 (by rw [r36e]; exact q))
      rw [f36 1 (by unfold sD; omega), uI_eq]
    · refine xnI (text := "the tape has not so many bytes") rfl rfl (by decide +kernel) (Nat.le_of_ble_eq_true rfl) (by omega) (by decide) (by decide) dX11_town_12 dX11_town_15 dX11_town_16 dX11_town_18 dX11_town_21 ?_
      exact ⟨⟨rfl, rfl⟩, by omega, rfl⟩
end

