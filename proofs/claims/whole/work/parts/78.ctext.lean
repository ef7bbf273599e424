/-! ===== the class: a text is read ===== -/
theorem CR.eq2 {I J : Mem} {t : Nat} {S : Tn} {e : Int} (h : CR I t S e) (h1 : ∀ a, t ≤ a → a < t + 13 → J a = I a) (hb : CRb J t S) : CR J t S e := by
  obtain ⟨a, -, b⟩ := h
  refine ⟨?_, hb, ?_⟩
  · unfold CRa; rw [h1 t (by omega) (by omega)]; exact a
  · unfold CRc CRd CRe CRf CRg at *
    rw [h1 (t + 2) (by omega) (by omega), h1 (t + 1) (by omega) (by omega), h1 (t + 3) (by omega) (by omega), h1 (t + 4) (by omega) (by omega), h1 (t + 5) (by omega) (by omega), h1 (t + 6) (by omega) (by omega), h1 (t + 7) (by omega) (by omega), h1 (t + 8) (by omega) (by omega), h1 (t + 9) (by omega) (by omega), h1 (t + 10) (by omega) (by omega), h1 (t + 11) (by omega) (by omega), h1 (t + 12) (by omega) (by omega)]
    exact b
theorem SB.ini : SB iniR := by
  have e0 : ∀ k, iniR 0 k = if k = 2 then 1 else if k = 3 then 2 else if k = 4 then -1 else 0 := fun k => rfl
  have eo : ∀ a k, a ≠ 0 → iniR a k = 0 := fun a k h => if_neg h
  unfold SB
  refine ⟨by simp only [e0]; decide, by simp only [e0]; decide, by simp only [e0]; decide, by simp only [e0]; decide, fun p => by rw [eo 3 p (by decide)]; decide, fun s => ⟨Or.inl (eo 8 s (by decide)), Or.inl (eo 9 s (by decide))⟩, Or.inl (eo 10 0 (by decide)), Or.inl (eo 11 0 (by decide)), Or.inl (by simp only [e0]; decide)⟩
theorem CR.ini {K : Mem} {t : Nat} (h : K t 0 = 0 ∧ K t 1 = 1 ∧ K t 2 = 0 ∧ K t 3 = 0) (h1 : ∀ c, 0 ≤ c → c < 48 → K (t + 1) c = 0 ∧ K (t + 2) c = 0) (h2 : ∀ c, 0 ≤ c → c < 6 → K (t + 3) c = 0 ∧ K (t + 4) c = 0) (h3 : K (t + 13) 0 = 2 ∧ K (t + 13) 1 = -1 ∧ K (t + 13) 2 = 0) (h7 : K 41 7 = 0) : CR K t iniR 0 := by
  refine ⟨⟨h.1, h.2.1, h.2.2.1, h.2.2.2⟩, ⟨h3.1, h3.2.1, h3.2.2, h7⟩, fun c c0 c1 => ⟨(h1 c c0 c1).2, (h1 c c0 c1).1⟩, fun p p0 p1 => h2 p p0 p1, fun p k p0 p1 k0 k1 => ?_, fun x x0 x1 => ?_, fun x x0 x1 => ?_, ⟨fun c c0 c1 => ⟨rfl, rfl⟩, fun p p0 p1 => ⟨rfl, rfl⟩⟩, SB.ini⟩
  · have : k < 0 := k1
    omega
  · have : x < 0 := x1
    omega
  · have : x < 0 := x1
    omega
abbrev sD (t : Nat) : Nat → Prop := fun a => (41 ≤ a ∧ a ≤ 45) ∨ (t ≤ a ∧ a ≤ t + 18)
theorem sR_sD {t : Nat} : ∀ a, sR t a → sD t a := fun a h => h.elim (fun e => Or.inl (by omega)) Or.inr
theorem sp41 : SP 41 1 = 0 := rfl
section
variable {G : HX} {d : Nat} {I : Mem} {P : Ptr} {n : Int}
theorem c_X6_readTown {t : Nat} (hW : WP P) (hTo : isT NO t) (hn : 0 ≤ n ∧ n ≤ 700) : Cv G mX6_readTown (d + 9) 0 0 [.inr (.inl 41), .inr (.inl t), .inl n] NO I P (qI NO (fun r I' P' => P' = uP P 41 1 t ∧ Fc (sD t) I I' ∧ r = (parR (tkS (I 2) n)).1 ∧ (r ≠ 0 → I' 41 3 = (parR (tkS (I 2) n)).2.1) ∧ (r = 0 → WG 0 (parR (tkS (I 2) n)).2.2.2 ∧ CR I' t (parR (tkS (I 2) n)).2.2.2 0 ∧ CL I' (t + 13) (parR (tkS (I 2) n)).2.2.2))) := by
  have ht1 := hTo.1
  have hW2 : WP (uP P 41 1 t) := WP.up (k := 1) hW sp41
  have hpt : uP P 41 1 t 41 1 = t := by rw [uP_eq, u1_eq]
  have wT := wp_T hW2 hTo
  have hLo : isL NO (t + 13) := h10_16 hTo
  refine x_enter mfX6_readTown rfl (Nat.le_of_ble_eq_true rfl) (fun _ => ?_)
  have hE : ∀ (K : Mem) (l : Int), Fc (sD t) I K → (parR (tkS (I 2) n)).1 ≠ 0 → K 41 6 = (parR (tkS (I 2) n)).1 → K 41 3 = (parR (tkS (I 2) n)).2.1 → V G mX6_readTown (d + 9) 0 0 37 [some (.inr (.inl 41)), none, none, some (.inl (l))] [] NO K (uP P 41 1 t) (qI NO (fun r I' P' => P' = uP P 41 1 t ∧ Fc (sD t) I I' ∧ r = (parR (tkS (I 2) n)).1 ∧ (r ≠ 0 → I' 41 3 = (parR (tkS (I 2) n)).2.1) ∧ (r = 0 → WG 0 (parR (tkS (I 2) n)).2.2.2 ∧ CR I' t (parR (tkS (I 2) n)).2.2.2 0 ∧ CL I' (t + 13) (parR (tkS (I 2) n)).2.2.2))) := fun K l kF h0 k6 k3 => by
    refine x_iload_n (i := 3) dX6_readTown_37 rfl rfl ?_
    refine y_si dX6_readTown_38 ⟨by decide, by decide⟩ ?_
    refine x_icmp_gt (tgt := 92) dX6_readTown_41 rfl (fun h41 => ?_) (fun h41 => ?_)
    · refine y_aln (i := 0) dX6_readTown_92 at41.ne0 rfl rfl ?_
      refine y_geti (z := 6) dX6_readTown_93 frX6_34 cfX6 at41 rfl rfl ?_
      rw [k6]
      refine x_iret dX6_readTown_96 rfl ?_
      exact ⟨rfl, kF, rfl, fun _ => k3, fun q => absurd q h0⟩
    · refine y_aln (i := 0) dX6_readTown_44 at41.ne0 rfl rfl ?_
      refine y_geti (z := 6) dX6_readTown_45 frX6_34 cfX6 at41 rfl rfl ?_
      rw [k6]
      refine x_if_ne (tgt := 92) dX6_readTown_48 rfl (fun h48 => ?_) (fun h48 => ?_)
      · refine y_aln (i := 0) dX6_readTown_92 at41.ne0 rfl rfl ?_
        refine y_geti (z := 6) dX6_readTown_93 frX6_34 cfX6 at41 rfl rfl ?_
        rw [k6]
        refine x_iret dX6_readTown_96 rfl ?_
        exact ⟨rfl, kF, rfl, fun _ => k3, fun q => absurd q h0⟩
      · exact absurd h48 h0
  have hL : ∀ (j : Nat) (l i m : Int) (f : Nat) (S : Tn) (K : Mem), (n + 1 - i).toNat < j → 0 ≤ l → l ≤ i → i ≤ n → 800 - l ≤ (f : Int) → parR (tkS (I 2) n) = townR (tkS (I 2) n) f l i S → Fc (sD t) I K → TKC K (tkS (I 2) n) m → K 41 2 = min i m → K 41 6 = 0 → CR K t S 0 → WG 0 S → (l = 0 → S = iniR) → V G mX6_readTown (d + 9) 0 0 37 [some (.inr (.inl 41)), none, none, some (.inl (l))] [] NO K (uP P 41 1 t) (qI NO (fun r I' P' => P' = uP P 41 1 t ∧ Fc (sD t) I I' ∧ r = (parR (tkS (I 2) n)).1 ∧ (r ≠ 0 → I' 41 3 = (parR (tkS (I 2) n)).2.1) ∧ (r = 0 → WG 0 (parR (tkS (I 2) n)).2.2.2 ∧ CR I' t (parR (tkS (I 2) n)).2.2.2 0 ∧ CL I' (t + 13) (parR (tkS (I 2) n)).2.2.2))) := by
    intro j
    induction j with
    | zero => intro l i m f S K hj; omega
    | succ j ih =>
      intro l i m f S K hj hl0 hl1 hi hf e0 kF kT kb k6 kC kG kI
      obtain ⟨f1, rfl⟩ : ∃ f1, f = f1 + 1 := ⟨f - 1, by omega⟩
      refine x_iload_n (i := 3) dX6_readTown_37 rfl rfl ?_
      refine y_si dX6_readTown_38 ⟨by decide, by decide⟩ ?_
      refine x_icmp_gt (tgt := 92) dX6_readTown_41 rfl (fun h41 => ?_) (fun h41 => ?_)
      · exact absurd h41 (by omega)
      · refine y_aln (i := 0) dX6_readTown_44 at41.ne0 rfl rfl ?_
        refine y_geti (z := 6) dX6_readTown_45 frX6_34 cfX6 at41 rfl rfl ?_
        rw [k6]
        refine x_if_ne (tgt := 92) dX6_readTown_48 rfl (fun h48 => ?_) (fun h48 => ?_)
        · exact absurd rfl h48
        · refine y_aln (i := 0) dX6_readTown_51 at41.ne0 rfl rfl ?_
          refine x_callVV (c_X6_advance (i := i) (k := tkS (I 2) n) hW2 kT (by omega) kb) dX6_readTown_52 lkX6_41 mfX6_advance cfX6 at41 rfl rfl rfl rfl (Nat.le_of_ble_eq_true rfl) (fun n52 I52 P52 hf52 => ?_)
          obtain ⟨rfl, rfl, f52, a52⟩ := hf52
          have c52 := kC.fl hTo (f52.mo (by decide))
          have k52 := kT.fl f52
          have z52 : I52 41 6 = 0 := (f52.2 6 (by decide)).trans k6
          have F52 : Fc (sD t) I I52 := kF.tr ((f52.fc (t := t)).mo sR_sD)
          refine y_aln (i := 0) dX6_readTown_55 at41.ne0 rfl rfl ?_
          refine y_geti (z := 4) dX6_readTown_56 frX6_44 cfX6 at41 rfl rfl ?_
          rw [a52.2.2.1]
          refine x_if_ne (tgt := 81) dX6_readTown_59 rfl (fun h59 => ?_) (fun h59 => ?_)
          · have hin : i < n := (tk_lt (tp := I 2) hn.1 (i := i) (by omega) h59).2
            refine y_aln (i := 0) dX6_readTown_81 at41.ne0 rfl rfl ?_
            refine x_iload_n (i := 3) dX6_readTown_82 rfl rfl ?_
            refine x_callVV (c_X6_readLine (d := d + 4) (i := i) hn hW2 hTo hpt k52 (by omega) hin a52 z52 c52 hl0) dX6_readTown_83 lkX6_59 mfX6_readLine cfX6 at41 rfl rfl rfl rfl (Nat.le_of_ble_eq_true rfl) (fun n83 I83 P83 hf83 => ?_)
            obtain ⟨rfl, rfl, f83, q83⟩ := hf83
            have F83 : Fc (sD t) I I83 := F52.tr (f83.mo sR_sD)
            have e1 : parR (tkS (I 2) n) = bnR (lineR (tkS (I 2) n) l i S) (townR (tkS (I 2) n) f1 (l + 1)) := by rw [e0]; unfold townR; rw [if_neg h59]
            refine x_iinc dX6_readTown_86 rfl ⟨by omega, by omega⟩ rfl (Nat.le_of_ble_eq_true rfl) ?_
            refine x_goto (tgt := 37) dX6_readTown_89 rfl ?_
            refine x_keep [1, 0, 0, 1] ?_
            rcases q83 with ⟨r0, r6, r2, r3, rC⟩ | ⟨r0, r6, r3⟩
            · have h1 := lineR_ok (tp := I 2) hn.1 (show 0 ≤ i by omega) r0
              exact ih (l + 1) _ m f1 _ I83 (by omega) (by omega) (by omega) h1.2 (by omega) (by rw [e1, bnR_0 r0]) F83 (k52.fc hTo f83) r2 r6 rC (lineR_w kG kI r0) (fun q => by omega)
            · exact hE I83 (l + 1) F83 (by rw [e1, bnR_1 r0]; exact r0) (by rw [e1, bnR_1 r0]; exact r6) (by rw [e1, bnR_1 r0]; exact r3)
          · refine y_aln (i := 0) dX6_readTown_62 at41.ne0 rfl rfl ?_
            refine y_getp (z := 1) (v := t) dX6_readTown_63 frX6_15 cfX6 at41 rfl rfl hpt ?_
            refine y_getp (z := 16) (v := (t + 13)) dX6_readTown_66 frX6_47 cfX10 hTo.at rfl rfl (p10_16 wT hTo) ?_
            refine y_aln (i := 0) dX6_readTown_69 at41.ne0 rfl rfl ?_
            refine y_getp (z := 1) (v := t) dX6_readTown_70 frX6_15 cfX6 at41 rfl rfl hpt ?_
            refine y_geti (z := 1) dX6_readTown_73 frX6_51 cfX10 hTo.at rfl rfl ?_
            rw [c52.a.2.1]
            refine x_callVV (c_X2_makeOffers (T := S) (d := d + 7) hW2 hLo kG.wf c52.b.1 c52.b.2.1 rfl) dX6_readTown_76 lkX6_54 mfX2_makeOffers cfX2 (a10_16 hTo) rfl rfl rfl rfl (Nat.le_of_ble_eq_true rfl) (fun n76 I76 P76 hf76 => ?_)
            obtain ⟨rfl, rfl, f76, l76, o76⟩ := hf76
            refine y_ic dX6_readTown_79 ⟨by decide, by decide⟩ ?_
            refine x_iret dX6_readTown_80 rfl ?_
            refine ⟨rfl, F52.tr (f76.mo (fun a ha => Or.inr ⟨by have := ha.1; omega, by have := ha.2; omega⟩)), ?_, fun q => absurd rfl q, fun _ => ?_⟩
            · rw [e0]; unfold townR; rw [if_pos h59]; rfl
            · have e1 : parR (tkS (I 2) n) = okR i S := by rw [e0]; unfold townR; rw [if_pos h59]
              rw [e1]
              have f13 : ∀ x, x ≠ 3 → I76 (t + 13) x = I52 (t + 13) x := fun x hx => by rw [l76, u1_ne hx]
              refine ⟨kG, c52.eq2 (fun a a0 a1 => f76 a (fun q => by have := q.1; omega)) ⟨?_, ?_, ?_, ?_⟩, ?_, ?_, ?_, ?_, o76⟩
              · rw [f13 0 (by decide)]; exact c52.b.1
              · rw [f13 1 (by decide)]; exact c52.b.2.1
              · rw [f13 2 (by decide)]; exact c52.b.2.2.1
              · rw [f76 41 (fun q => by have := q.1; have := q.2; omega)]; exact c52.b.2.2.2
              · rw [f13 0 (by decide)]; exact c52.b.1
              · rw [f13 1 (by decide)]; exact c52.b.2.1
              · rw [f13 2 (by decide)]; exact c52.b.2.2.1
              · rw [l76, u1_eq]; rfl
  have h5 : V G mX6_readTown (d + 9) 0 0 5 [some (.inr (.inl 41)), none, some (.inl (n)), none] [] NO I (uP P 41 1 t) (qI NO (fun r I' P' => P' = uP P 41 1 t ∧ Fc (sD t) I I' ∧ r = (parR (tkS (I 2) n)).1 ∧ (r ≠ 0 → I' 41 3 = (parR (tkS (I 2) n)).2.1) ∧ (r = 0 → WG 0 (parR (tkS (I 2) n)).2.2.2 ∧ CR I' t (parR (tkS (I 2) n)).2.2.2 0 ∧ CL I' (t + 13) (parR (tkS (I 2) n)).2.2.2))) := by
    refine y_aln (i := 0) dX6_readTown_5 at41.ne0 rfl rfl ?_
    refine y_getp (z := 1) (v := t) dX6_readTown_6 frX6_15 cfX6 at41 rfl rfl hpt ?_
    refine x_callVV (c_X10_clear (d := d + 8) hW2 hTo) dX6_readTown_9 lkX6_19 mfX10_clear cfX10 hTo.at rfl rfl rfl rfl (Nat.le_of_ble_eq_true rfl) (fun n9 I9 P9 hf9 => ?_)
    obtain ⟨rfl, rfl, f9, t9, h9, g9, l9⟩ := hf9
    have e2 : I9 2 = I 2 := f9 2 (by show ¬ (2 = t ∨ 2 = t + 1 ∨ 2 = t + 2 ∨ 2 = t + 3 ∨ 2 = t + 4 ∨ 2 = t + 13); omega)
    refine y_aln (i := 0) dX6_readTown_12 at41.ne0 rfl rfl ?_
    refine y_getp (z := 0) (v := 42) dX6_readTown_13 frX6_9 cfX6 at41 rfl rfl (wp (v := 42) hW2 rfl rfl (by decide)) ?_
    refine x_iload_n (i := 2) dX6_readTown_16 rfl rfl ?_
    refine x_callVV (c_X9_cut (d := d + 1) hW2 hn) dX6_readTown_17 lkX6_24 mfX9_cut cfX9 at42 rfl rfl rfl rfl (Nat.le_of_ble_eq_true rfl) (fun n17 I17 P17 hf17 => ?_)
    obtain ⟨rfl, rfl, f17, m, k17⟩ := hf17
    rw [e2] at k17
    have n17 : ∀ a, t ≤ a → a ≤ t + 13 → I17 a = I9 a := fun a a0 a1 => f17 a (by show ¬ (a = 42 ∨ a = 43 ∨ a = 44 ∨ a = 45); omega)
    have F17 : Fc (sD t) I I17 := (f9.mo (fun a ha => Or.inr (by omega))).tr (f17.mo (fun a ha => Or.inl (by omega)))
    refine y_aln (i := 0) dX6_readTown_20 at41.ne0 rfl rfl ?_
    refine y_ic dX6_readTown_21 ⟨by decide, by decide⟩ ?_
    refine y_puti (z := 2) dX6_readTown_22 frX6_30 cfX6 at41 rfl rfl rfl ?_
    refine y_aln (i := 0) dX6_readTown_25 at41.ne0 rfl rfl ?_
    refine y_ic dX6_readTown_26 ⟨by decide, by decide⟩ ?_
    refine y_puti (z := 6) dX6_readTown_27 frX6_34 cfX6 at41 rfl rfl rfl ?_
    refine y_aln (i := 0) dX6_readTown_30 at41.ne0 rfl rfl ?_
    refine y_ic dX6_readTown_31 ⟨by decide, by decide⟩ ?_
    refine y_putz (z := 7) dX6_readTown_32 frX6_37 cfX6 at41 rfl rfl rfl (by omega) ?_
    refine y_ic dX6_readTown_35 ⟨by decide, by decide⟩ ?_
    refine x_istore_n (i := 3) dX6_readTown_36 rfl rfl (Nat.le_of_ble_eq_true rfl) ?_
    refine x_keep [1, 0, 0, 1] ?_
    refine hL _ 0 0 m 800 iniR _ (Nat.lt_succ_self _) (by decide) (by decide) hn.1 (by decide) rfl (((F17.ui (Or.inl ⟨by decide, by decide⟩)).ui (Or.inl ⟨by decide, by decide⟩)).ui (Or.inl ⟨by decide, by decide⟩)) ((k17.r).r).r ?_ ?_ (CR.ini ?_ (fun c c0 c1 => ?_) (fun c c0 c1 => ?_) ?_ ?_) WG.ini (fun _ => rfl)
    · rw [uI_eq, u1_ne (by decide), uI_eq, u1_ne (by decide), uI_eq, u1_eq]; have := k17.1; omega
    · rw [uI_eq, u1_ne (by decide), uI_eq, u1_eq]
    · rw [nT hTo t _ _ ⟨Nat.le_refl _, by omega⟩, nT hTo t _ _ ⟨Nat.le_refl _, by omega⟩, nT hTo t _ _ ⟨Nat.le_refl _, by omega⟩, n17 t (Nat.le_refl _) (by omega)]; exact t9
    · rw [nT hTo (t + 1) _ _ ⟨by omega, by omega⟩, nT hTo (t + 1) _ _ ⟨by omega, by omega⟩, nT hTo (t + 1) _ _ ⟨by omega, by omega⟩, nT hTo (t + 2) _ _ ⟨by omega, by omega⟩, nT hTo (t + 2) _ _ ⟨by omega, by omega⟩, nT hTo (t + 2) _ _ ⟨by omega, by omega⟩, n17 (t + 1) (by omega) (by omega), n17 (t + 2) (by omega) (by omega)]; exact h9 c c0 c1
    · rw [nT hTo (t + 3) _ _ ⟨by omega, by omega⟩, nT hTo (t + 3) _ _ ⟨by omega, by omega⟩, nT hTo (t + 3) _ _ ⟨by omega, by omega⟩, nT hTo (t + 4) _ _ ⟨by omega, by omega⟩, nT hTo (t + 4) _ _ ⟨by omega, by omega⟩, nT hTo (t + 4) _ _ ⟨by omega, by omega⟩, n17 (t + 3) (by omega) (by omega), n17 (t + 4) (by omega) (by omega)]; exact g9 c c0 c1
    · rw [nT hTo (t + 13) _ _ ⟨by omega, by omega⟩, nT hTo (t + 13) _ _ ⟨by omega, by omega⟩, nT hTo (t + 13) _ _ ⟨by omega, by omega⟩, n17 (t + 13) (by omega) (by omega)]; exact l9
    · rw [uI_eq, u1_eq]
  refine y_aln (i := 0) dX6_readTown_0 at41.ne0 rfl rfl ?_
  refine y_aln (i := 1) dX6_readTown_1 hTo.at.ne0 rfl rfl ?_
  refine y_putp (z := 1) dX6_readTown_2 frX6_15 cfX6 at41 rfl rfl rfl ?_
  refine x_keep [1, 0, 1, 0] ?_
  exact h5
end

