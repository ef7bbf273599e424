/-! ===== the class: ways, the best order, the best share ===== -/
abbrev sYW : Nat → Prop := fun a => sY a ∨ a = 85 ∨ a = 86
abbrev sOR : Nat → Prop := fun a => a = 48 ∨ a = 49 ∨ a = 83 ∨ a = 84 ∨ a = 85 ∨ a = 88
abbrev sSH : Nat → Prop := fun a => a = 48 ∨ a = 49 ∨ a = 80 ∨ a = 81 ∨ a = 82 ∨ a = 85 ∨ a = 89
abbrev sS0 : Nat → Prop := fun a => a = 48 ∨ a = 49 ∨ a = 80 ∨ a = 81 ∨ a = 82
theorem sYW_tl : ∀ a, sYW a → ¬ inTL a := fun a ha => by
  unfold sYW sY at ha
  unfold inTL
  omega
theorem sOR_tl : ∀ a, sOR a → ¬ inTL a := fun a ha => by
  unfold sOR at ha
  unfold inTL
  omega
theorem sSH_tl : ∀ a, sSH a → ¬ inTL a := fun a ha => by
  unfold sSH at ha
  unfold inTL
  omega
theorem QE.sy {n : Int} {q q' : Rw} (h : QE n q q') : QE n q' q := fun k k0 k1 => (h k k0 k1).symm
theorem mostN_w {T : Tn} {m : Int} {x : Sx} (hT : WF T) (hx : XOK T m x) : worthS T (rowX x (mostN T x x.1).1) = (mostN T x x.1).2 := by
  have key : ∀ n, 0 ≤ n → n < x.1 → worthS T (rowX x (mostN T x (n + 1)).1) = (mostN T x (n + 1)).2 := fun n hn => int_ind (p := fun n => n < x.1 → worthS T (rowX x (mostN T x (n + 1)).1) = (mostN T x (n + 1)).2) (fun h0 => by
    have hw := worthS_bd hT (hx.2.1 0 (Int.le_refl 0) h0).rc
    have e : mostN T x (0 + 1) = mostB T x 0 (0, -1) := mostN_s (Int.le_refl 0)
    rw [e]
    unfold mostB
    dsimp only
    rw [if_pos (by omega), if_pos (by omega)]) (fun k hk ih hk1 => by
    have e := mostN_s (T := T) (x := x) (n := k + 1) (by omega)
    rw [e]
    unfold mostB
    dsimp only
    by_cases q : (mostN T x (k + 1)).2 < worthS T (rowX x (k + 1))
    · rw [if_pos q, if_pos q]
    · rw [if_neg q, if_neg q]
      exact ih (by omega)) n hn
  have h1 := hx.1
  have := key (x.1 - 1) (by omega) (by omega)
  rwa [show x.1 - 1 + 1 = x.1 by omega] at this
theorem isM57 : isM 57 := Or.inr (Or.inr (Or.inl rfl))
section
variable {G : HX} {d : Nat} {I : Mem} {P : Ptr} {T : Tn}
theorem c_X11_come {t : Nat} {p s : Int} (hW : WP P) (hM : MK I P 46 t (t + 13) T) (h1t : P 1 2 = t) (hF : WF T) (hr : RW T (I 47)) : Cv G mX11_come (d + 8) 1 6 [.inr (.inl 1), .inl p, .inl s] NO I P (qX NO (fun r I' P' => (PK P P' ∧ okPS T p s) ∧ ((r < 0 ∧ r = (if spX (goX T p (8 * p + s) 1000 (I 47)) ≠ 0 then -2 else ansX (goX T p (8 * p + s) 1000 (I 47))) ∧ Fc sY I I') ∨ (0 ≤ r ∧ spX (goX T p (8 * p + s) 1000 (I 47)) = 0 ∧ ansX (goX T p (8 * p + s) 1000 (I 47)) ≠ -1 ∧ dpX (goX T p (8 * p + s) 1000 (I 47)) (ansX (goX T p (8 * p + s) 1000 (I 47))) r ∧ r < 1000 ∧ I' 85 1 = r ∧ (∀ k, k ≠ 1 → I' 85 k = I 85 k) ∧ (∀ i, 0 ≤ i → i < r → I' 86 i = codeX (howX (goX T p (8 * p + s) 1000 (I 47)) (upX (goX T p (8 * p + s) 1000 (I 47)) (r - 1 - i) (ansX (goX T p (8 * p + s) 1000 (I 47)))))) ∧ Fc sYW I I'))) (fun c I' P' => (I' = I ∧ P' = P) ∧ ¬ okPS T p s ∧ c = tEN)) := by
  have hPK : PK P (uP (uP P 57 0 t) 57 1 (t + 13)) := PK.mk hW isM57 (by decide)
  have hWR := hPK.1
  refine x_enter mfX11_come rfl (Nat.le_of_ble_eq_true rfl) (fun _ => ?_)
  have h36 : ∀ (K : Mem) (v : Int), okPS T p s → Fc sY I K → XOK T 1000 (goX T p (8 * p + s) 1000 (I 47)) → NX T K (goX T p (8 * p + s) 1000 (I 47)) → v = (if spX (goX T p (8 * p + s) 1000 (I 47)) ≠ 0 then -2 else ansX (goX T p (8 * p + s) 1000 (I 47))) → V G mX11_come (d + 8) 1 6 36 [some (.inr (.inl 1)), none, none, some (.inl (v))] [] NO K (uP (uP P 57 0 t) 57 1 (t + 13)) (qX NO (fun r I' P' => (PK P P' ∧ okPS T p s) ∧ ((r < 0 ∧ r = (if spX (goX T p (8 * p + s) 1000 (I 47)) ≠ 0 then -2 else ansX (goX T p (8 * p + s) 1000 (I 47))) ∧ Fc sY I I') ∨ (0 ≤ r ∧ spX (goX T p (8 * p + s) 1000 (I 47)) = 0 ∧ ansX (goX T p (8 * p + s) 1000 (I 47)) ≠ -1 ∧ dpX (goX T p (8 * p + s) 1000 (I 47)) (ansX (goX T p (8 * p + s) 1000 (I 47))) r ∧ r < 1000 ∧ I' 85 1 = r ∧ (∀ k, k ≠ 1 → I' 85 k = I 85 k) ∧ (∀ i, 0 ≤ i → i < r → I' 86 i = codeX (howX (goX T p (8 * p + s) 1000 (I 47)) (upX (goX T p (8 * p + s) 1000 (I 47)) (r - 1 - i) (ansX (goX T p (8 * p + s) 1000 (I 47)))))) ∧ Fc sYW I I'))) (fun c I' P' => (I' = I ∧ P' = P) ∧ ¬ okPS T p s ∧ c = tEN)) := fun K v hok kF kO kX hv => by
    refine x_iload_n (i := 3) dX11_come_36 rfl rfl ?_
    refine x_if_ge (tgt := 42) dX11_come_37 rfl (fun h37 => ?_) (fun h37 => ?_)
    · have hsp : spX (goX T p (8 * p + s) 1000 (I 47)) = 0 := by
        by_cases q : spX (goX T p (8 * p + s) 1000 (I 47)) = 0
        · exact q
        · rw [if_pos q] at hv; omega
      rw [if_neg (fun q => q hsp)] at hv
      have ha := kO.2.2.2.2.1
      rw [hv]
      refine y_aln (i := 0) dX11_come_42 at1.ne0 rfl rfl ?_
      refine y_getp (z := 17) (v := 85) dX11_come_43 frX11_100 cfX11 at1 rfl rfl (wp (v := 85) hWR rfl rfl (by decide)) ?_
      refine y_aln (i := 0) dX11_come_46 at1.ne0 rfl rfl ?_
      refine y_getp (z := 12) (v := 56) dX11_come_47 frX11_65 cfX11 at1 rfl rfl (wp (v := 56) hWR rfl rfl (by decide)) ?_
      refine x_iload_n (i := 3) dX11_come_50 rfl rfl ?_
      refine y_aln (i := 0) dX11_come_51 at1.ne0 rfl rfl ?_
      refine y_getp (z := 17) (v := 85) dX11_come_52 frX11_100 cfX11 at1 rfl rfl (wp (v := 85) hWR rfl rfl (by decide)) ?_
      refine y_getp (z := 0) (v := 86) dX11_come_55 frX11_254 cfX1 at85 rfl rfl (wp (v := 86) hWR rfl rfl (by decide)) ?_
      refine x_callVI (c_X7_unwind hWR kX kO (by decide) (by omega)) dX11_come_58 lkX11_257 mfX7_unwind cfX7 at56 rfl rfl rfl rfl (Nat.le_of_ble_eq_true rfl) (fun r58 I58 P58 hr58 hf58 => ?_)
      obtain ⟨rfl, o58, d58, l58, w58⟩ := hf58
      refine y_puti (z := 1) dX11_come_61 frX11_261 cfX1 at85 rfl rfl rfl ?_
      refine y_aln (i := 0) dX11_come_64 at1.ne0 rfl rfl ?_
      refine y_getp (z := 17) (v := 85) dX11_come_65 frX11_100 cfX11 at1 rfl rfl (wp (v := 85) hWR rfl rfl (by decide)) ?_
      refine y_geti (z := 1) dX11_come_68 frX11_261 cfX1 at85 rfl rfl ?_
      rw [uI_eq, u1_eq]
      refine x_iretX dX11_come_71 rfl ?_
      exact ⟨⟨hPK, hok⟩, Or.inr ⟨d58.1, hsp, by omega, d58, l58, by rw [uI_eq, u1_eq], fun k hk => by rw [uI_eq, u1_ne hk, o58 85 (by decide)]; exact congrFun (kF 85 (by unfold sY; omega)) k, fun i i0 i1 => by rw [uI_ne (by decide)]; exact w58 i i0 i1, fun a ha => by rw [uI_ne (fun e => ha (Or.inr (Or.inl e))), o58 a (fun e => ha (Or.inr (Or.inr e)))]; exact kF a (fun z => ha (Or.inl z))⟩⟩
    · have hz := h37
      refine x_iload_n (i := 3) dX11_come_40 rfl rfl ?_
      refine x_iretX dX11_come_41 rfl ?_
      exact ⟨⟨hPK, hok⟩, Or.inl ⟨by omega, hv, kF⟩⟩
  refine y_aln (i := 0) dX11_come_0 at1.ne0 rfl rfl ?_
  refine x_iload_n (i := 1) dX11_come_1 rfl rfl ?_
  refine x_iload_n (i := 2) dX11_come_2 rfl rfl ?_
  refine x_callVI (c_X11_isNoCell hW hM h1t) dX11_come_3 lkX11_174 mfX11_isNoCell cfX11 at1 rfl rfl rfl rfl (Nat.le_of_ble_eq_true rfl) (fun r3 I3 P3 hr3 hf3 => ?_)
  obtain ⟨i3, p3, q3⟩ := hf3
  rw [i3, p3]
  refine x_if_eq (tgt := 19) dX11_come_6 rfl (fun h6 => ?_) (fun h6 => ?_)
  · have hok : okPS T p s := (q3.resolve_left (fun z => by have := z.1; omega)).2
    refine y_aln (i := 0) dX11_come_19 at1.ne0 rfl rfl ?_
    refine y_getp (z := 12) (v := 56) dX11_come_20 frX11_65 cfX11 at1 rfl rfl (wp (v := 56) hW rfl rfl (by decide)) ?_
    refine y_aln (i := 0) dX11_come_23 at1.ne0 rfl rfl ?_
    refine y_getp (z := 9) (v := 46) dX11_come_24 frX11_46 cfX11 at1 rfl rfl (wp (v := 46) hW rfl rfl (by decide)) ?_
    refine x_iload_n (i := 1) dX11_come_27 rfl rfl ?_
    refine x_iload_n (i := 2) dX11_come_28 rfl rfl ?_
    refine y_si dX11_come_29 ⟨by decide, by decide⟩ ?_
    refine x_callVI (c_X7_findWish hW hM (by decide) hF hr hok.1 hok.2 (by decide)) dX11_come_32 lkX11_250 mfX7_findWish cfX7 at56 rfl rfl rfl rfl (Nat.le_of_ble_eq_true rfl) (fun r32 I32 P32 hr32 hf32 => ?_)
    obtain ⟨rfl, f32, p32, o32, x32, v32⟩ := hf32
    refine x_istore_n (i := 3) dX11_come_35 rfl rfl (Nat.le_of_ble_eq_true rfl) ?_
    refine x_keep [1, 0, 0, 1] ?_
    exact h36 _ _ hok f32 o32 x32 v32
  · refine xnN (text := "no such person or sort") rfl rfl (by decide +kernel) (Nat.le_of_ble_eq_true rfl) (by omega) (by decide) (by decide) dX11_come_9 dX11_come_12 dX11_come_13 dX11_come_15 dX11_come_18 ?_
    exact ⟨⟨rfl, rfl⟩, (q3.resolve_right (fun z => by have := z.1; omega)).2, rfl⟩
theorem c_X11_most {t : Nat} (hW : WP P) (hM : MK I P 46 t (t + 13) T) (hF : WF T) (hr : RW T (I 47)) : Cv G mX11_most (d + 7) 0 0 [.inr (.inl 1)] NO I P (qI NO (fun r I' P' => PK P P' ∧ ((spX (goX T (-1) 0 400 (I 47)) ≠ 0 ∧ r = -2 ∧ Fc sY I I') ∨ (spX (goX T (-1) 0 400 (I 47)) = 0 ∧ r = (mostN T (goX T (-1) 0 400 (I 47)) (goX T (-1) 0 400 (I 47)).1).2 ∧ ∃ n, dpX (goX T (-1) 0 400 (I 47)) (mostN T (goX T (-1) 0 400 (I 47)) (goX T (-1) 0 400 (I 47)).1).1 n ∧ n < 1000 ∧ I' 85 1 = n ∧ (∀ k, k ≠ 1 → I' 85 k = I 85 k) ∧ (∀ i, 0 ≤ i → i < n → I' 86 i = codeX (howX (goX T (-1) 0 400 (I 47)) (upX (goX T (-1) 0 400 (I 47)) (n - 1 - i) (mostN T (goX T (-1) 0 400 (I 47)) (goX T (-1) 0 400 (I 47)).1).1))) ∧ Fc sYW I I')))) := by
  obtain ⟨hq, hTo, hLo, hpt, hpl, hca, hcl⟩ := id hM
  have hPK : PK P (uP (uP P 57 0 t) 57 1 (t + 13)) := PK.mk hW isM57 (by decide)
  have hWR := hPK.1
  obtain ⟨X, eX⟩ : ∃ X, X = goX T (-1) 0 400 (I 47) := ⟨_, rfl⟩
  refine x_enter mfX11_most rfl (Nat.le_of_ble_eq_true rfl) (fun _ => ?_)
  have h15 : ∀ (K : Mem) (v : Int), Fc sY I K → XOK T 400 X → NX T K X → v = (if spX X ≠ 0 then -2 else (mostN T X X.1).1) → V G mX11_most (d + 7) 0 0 15 [some (.inr (.inl 1)), some (.inl (v))] [] NO K (uP (uP P 57 0 t) 57 1 (t + 13)) (qI NO (fun r I' P' => PK P P' ∧ ((spX (goX T (-1) 0 400 (I 47)) ≠ 0 ∧ r = -2 ∧ Fc sY I I') ∨ (spX (goX T (-1) 0 400 (I 47)) = 0 ∧ r = (mostN T (goX T (-1) 0 400 (I 47)) (goX T (-1) 0 400 (I 47)).1).2 ∧ ∃ n, dpX (goX T (-1) 0 400 (I 47)) (mostN T (goX T (-1) 0 400 (I 47)) (goX T (-1) 0 400 (I 47)).1).1 n ∧ n < 1000 ∧ I' 85 1 = n ∧ (∀ k, k ≠ 1 → I' 85 k = I 85 k) ∧ (∀ i, 0 ≤ i → i < n → I' 86 i = codeX (howX (goX T (-1) 0 400 (I 47)) (upX (goX T (-1) 0 400 (I 47)) (n - 1 - i) (mostN T (goX T (-1) 0 400 (I 47)) (goX T (-1) 0 400 (I 47)).1).1))) ∧ Fc sYW I I')))) := fun K v kF kO kX hv => by
    have hx1 := kO.1
    have hmo := mostN_ok hF kO (n := X.1) ⟨by omega, Int.le_refl _⟩
    have hbest := mostN_w (T := T) (x := X) hF kO
    refine x_iload_n (i := 1) dX11_most_15 rfl rfl ?_
    refine x_if_ge (tgt := 22) dX11_most_16 rfl (fun h16 => ?_) (fun h16 => ?_)
    · have hsp : spX X = 0 := by
        by_cases q : spX X = 0
        · exact q
        · rw [if_pos q] at hv; omega
      rw [if_neg (fun q => q hsp)] at hv
      rw [hv]
      refine y_aln (i := 0) dX11_most_22 at1.ne0 rfl rfl ?_
      refine y_getp (z := 17) (v := 85) dX11_most_23 frX11_100 cfX11 at1 rfl rfl (wp (v := 85) hWR rfl rfl (by decide)) ?_
      refine y_aln (i := 0) dX11_most_26 at1.ne0 rfl rfl ?_
      refine y_getp (z := 12) (v := 56) dX11_most_27 frX11_65 cfX11 at1 rfl rfl (wp (v := 56) hWR rfl rfl (by decide)) ?_
      refine x_iload_n (i := 1) dX11_most_30 rfl rfl ?_
      refine y_aln (i := 0) dX11_most_31 at1.ne0 rfl rfl ?_
      refine y_getp (z := 17) (v := 85) dX11_most_32 frX11_100 cfX11 at1 rfl rfl (wp (v := 85) hWR rfl rfl (by decide)) ?_
      refine y_getp (z := 0) (v := 86) dX11_most_35 frX11_254 cfX1 at85 rfl rfl (wp (v := 86) hWR rfl rfl (by decide)) ?_
      refine x_callVI (c_X7_unwind hWR kX kO (by decide) hmo.1) dX11_most_38 lkX11_257 mfX7_unwind cfX7 at56 rfl rfl rfl rfl (Nat.le_of_ble_eq_true rfl) (fun r38 I38 P38 hr38 hf38 => ?_)
      obtain ⟨rfl, o38, d38, l38, w38⟩ := hf38
      have kX2 : NX T (uI I38 85 1 r38) X := kX.fr (fun a q => by rw [uI_ne (by rcases q with q | q <;> omega), o38 a (by rcases q with q | q <;> omega)])
      have kF2 : Fc sYW I (uI I38 85 1 r38) := fun a ha => by rw [uI_ne (fun e => ha (Or.inr (Or.inl e))), o38 a (fun e => ha (Or.inr (Or.inr e)))]; exact kF a (fun z => ha (Or.inl z))
      have kM2 : MK (uI I38 85 1 r38) (uP (uP P 57 0 t) 57 1 (t + 13)) 57 t (t + 13) T := ⟨isM57, hTo, hLo, mk_P.1, mk_P.2, hca.fr hTo kF2 sYW_tl, hcl.fr hLo kF2 sYW_tl⟩
      refine y_puti (z := 1) dX11_most_41 frX11_261 cfX1 at85 rfl rfl rfl ?_
      refine y_aln (i := 0) dX11_most_44 at1.ne0 rfl rfl ?_
      refine y_getp (z := 12) (v := 56) dX11_most_45 frX11_65 cfX11 at1 rfl rfl (wp (v := 56) hWR rfl rfl (by decide)) ?_
      refine x_iload_n (i := 1) dX11_most_48 rfl rfl ?_
      refine x_callVI (c_X7_worthOf hWR kM2 hF kX2 kO (by decide) hmo.1) dX11_most_49 lkX11_311 mfX7_worthOf cfX7 at56 rfl rfl rfl rfl (Nat.le_of_ble_eq_true rfl) (fun r49 I49 P49 hr49 hf49 => ?_)
      obtain ⟨rfl, o49, rfl⟩ := hf49
      refine x_iret dX11_most_52 rfl ?_
      rw [← eX]
      refine ⟨hPK, Or.inr ⟨hsp, hbest, r38, d38, l38, ?_, fun k hk => ?_, fun i i0 i1 => ?_, fun a ha => ?_⟩⟩
      · rw [o49 85 (by decide), uI_eq, u1_eq]
      · rw [o49 85 (by decide), uI_eq, u1_ne hk, o38 85 (by decide)]; exact congrFun (kF 85 (by unfold sY; omega)) k
      · rw [o49 86 (by decide), uI_ne (by decide)]; exact w38 i i0 i1
      · rw [o49 a (fun e => ha (Or.inl (by unfold sY; omega)))]; exact kF2 a ha
    · refine y_bi dX11_most_19 ⟨by decide, by decide⟩ ?_
      refine x_iret dX11_most_21 rfl ?_
      have hsp : spX X ≠ 0 := fun q => by rw [if_neg (fun z => z q)] at hv; omega
      rw [← eX]
      exact ⟨hPK, Or.inl ⟨hsp, rfl, kF⟩⟩
  refine y_aln (i := 0) dX11_most_0 at1.ne0 rfl rfl ?_
  refine y_getp (z := 12) (v := 56) dX11_most_1 frX11_65 cfX11 at1 rfl rfl (wp (v := 56) hW rfl rfl (by decide)) ?_
  refine y_aln (i := 0) dX11_most_4 at1.ne0 rfl rfl ?_
  refine y_getp (z := 9) (v := 46) dX11_most_5 frX11_46 cfX11 at1 rfl rfl (wp (v := 46) hW rfl rfl (by decide)) ?_
  refine y_si dX11_most_8 ⟨by decide, by decide⟩ ?_
  refine x_callVI (c_X7_findMost (gl := 0) hW hM (by decide) hF hr (by decide)) dX11_most_11 lkX11_307 mfX7_findMost cfX7 at56 rfl rfl rfl rfl (Nat.le_of_ble_eq_true rfl) (fun r11 I11 P11 hr11 hf11 => ?_)
  obtain ⟨rfl, f11, o11, x11, v11⟩ := hf11
  rw [show I (46 + 1) = I 47 from rfl, ← eX] at o11 x11 v11
  refine x_istore_n (i := 1) dX11_most_14 rfl rfl (Nat.le_of_ble_eq_true rfl) ?_
  refine x_keep [1, 1] ?_
  exact h15 _ _ f11 o11 x11 v11
theorem c_X11_order {t : Nat} (hW : WP P) (hM : MK I P 46 t (t + 13) T) (h1t : P 1 2 = t) (hF : WF T) (hr : RW T (I 47)) : Cv G mX11_order (d + 6) 0 0 [.inr (.inl 1)] NO I P (qI NO (fun r I' P' => PK P P' ∧ ((5 < T 0 6 ∧ r = -1 ∧ I' = I) ∨ (T 0 6 ≤ 5 ∧ r = (ordS T (I 47)).1 ∧ I' 85 5 = T 0 6 ∧ (∀ k, k ≠ 5 → I' 85 k = I 85 k) ∧ QE (T 0 6) (I' 88) (ordS T (I 47)).2 ∧ Fc sOR I I')))) := by
  obtain ⟨hq, hTo, hLo, hpt, hpl, hca, hcl⟩ := id hM
  have wT := wp_T hW hTo
  have e3 : I t 3 = T 0 6 := hca.2.2.2.1
  have ht1 := hTo.1
  have f6 := hF.2.2.2.2.2.1
  have en : ((T 0 6).toNat : Int) = T 0 6 := Int.toNat_of_nonneg f6.1
  refine x_enter mfX11_order rfl (Nat.le_of_ble_eq_true rfl) (fun _ => ?_)
  have hL : T 0 6 ≤ 5 → ∀ (q0 : Rw), QE (T 0 6) q0 (fun k => k) → ∀ (j k : Nat) (q : Rw) (x : Od) (more : Int) (K : Mem) (R : Ptr), 121 - k < j → k ≤ 120 → ((more = 1 ∧ k < (PMT (T 0 6).toNat).length ∧ QE (T 0 6) q (pmT (T 0 6).toNat k) ∧ PM (T 0 6) q ∧ K 84 = q ∧ ordW T (I 47) q0 = ordF T (I 47) (32768 - k) q x) ∨ (more = 0 ∧ ordW T (I 47) q0 = x ∧ 0 ≤ x.1)) → (-1 ≤ x.1 ∧ x.1 ≤ 456600000) → (0 ≤ x.1 → K 85 5 = T 0 6 ∧ QE (T 0 6) (K 88) x.2) → K 83 1 = T 0 6 → (∀ i, i ≠ 5 → K 85 i = I 85 i) → PK P R → Fc sOR I K → V G mX11_order (d + 6) 0 0 33 [some (.inr (.inl 1)), some (.inl (x.1)), some (.inl (more)), some (.inl ((k : Int))), none] [] NO K R (qI NO (fun r I' P' => PK P P' ∧ ((5 < T 0 6 ∧ r = -1 ∧ I' = I) ∨ (T 0 6 ≤ 5 ∧ r = (ordS T (I 47)).1 ∧ I' 85 5 = T 0 6 ∧ (∀ k, k ≠ 5 → I' 85 k = I 85 k) ∧ QE (T 0 6) (I' 88) (ordS T (I 47)).2 ∧ Fc sOR I I')))) := by
    intro h5 q0 hq0 j
    have hlen := (pm_row (n := (T 0 6).toNat) (by omega)).2.1
    have hS := ordW_S (r := I 47) hq0
    induction j with
    | zero => intro k q x more K R hj; omega
    | succ j ih =>
      intro k q x more K R hj hk hc hx hb k83 k85 hP kF
      have hWR := hP.1
      have hMK := hM.pk hP kF sOR_tl
      have h1R : R 1 2 = t := by rw [hP.2.1]; exact h1t
      have wTR := wp_T hWR hTo
      have k47 : K 47 = I 47 := kF 47 (by unfold sOR; omega)
      have hB : (k < (PMT (T 0 6).toNat).length ∧ QE (T 0 6) q (pmT (T 0 6).toNat k) ∧ PM (T 0 6) q ∧ ordW T (I 47) q0 = ordF T (I 47) (32768 - k) q x) → ∀ (K' : Mem) (R' : Ptr), PK P R' → MK K' R' 48 t (t + 13) T → RE (I 47) (K' 49) → K' 84 = q → (0 ≤ x.1 → K' 85 5 = T 0 6 ∧ QE (T 0 6) (K' 88) x.2) → K' 83 1 = T 0 6 → (∀ i, i ≠ 5 → K' 85 i = I 85 i) → Fc sOR I K' → V G mX11_order (d + 6) 0 0 54 [some (.inr (.inl 1)), some (.inl (x.1)), none, some (.inl ((k : Int))), none] [] NO K' R' (qI NO (fun r I' P' => PK P P' ∧ ((5 < T 0 6 ∧ r = -1 ∧ I' = I) ∨ (T 0 6 ≤ 5 ∧ r = (ordS T (I 47)).1 ∧ I' 85 5 = T 0 6 ∧ (∀ k, k ≠ 5 → I' 85 k = I 85 k) ∧ QE (T 0 6) (I' 88) (ordS T (I 47)).2 ∧ Fc sOR I I')))) := fun hcc K' R' hP' hM48 kre k84 kb k83 k85 kF => by
        obtain ⟨hc1, hc2, hc3, hc4⟩ := hcc
        have hW2 := hP'.1
        have h1R2 : R' 1 2 = t := by rw [hP'.2.1]; exact h1t
        have wT2 := wp_T hW2 hTo
        have eT : K' t 3 = T 0 6 := by rw [kF t (by unfold sOR; omega)]; exact e3
        have hro := playS_ok hF hc3 (kre.rw hr) (Int.le_refl (T 0 6))
        have hpl2 := RE.play hF hc3 kre (Int.le_refl (T 0 6))
        have hx' := ordB_ok hF hr hc3 hx
        have eB : ordB T (I 47) q x = if x.1 < worthS T (playS T q (T 0 6) (I 47)) then (worthS T (playS T q (T 0 6) (I 47)), q) else x := rfl
        have hst := pm_step (n := (T 0 6).toNat) (k := k) (by omega) hc1
        rw [en] at hst
        have fin : ∀ (y : Od) (K2 : Mem), y = ordB T (I 47) q x → K2 84 = q → (K2 85 5 = T 0 6 ∧ QE (T 0 6) (K2 88) y.2) → K2 83 1 = T 0 6 → (∀ i, i ≠ 5 → K2 85 i = I 85 i) → Fc sOR I K2 → V G mX11_order (d + 6) 0 0 114 [some (.inr (.inl 1)), some (.inl (y.1)), none, some (.inl ((k : Int))), none] [] NO K2 R' (qI NO (fun r I' P' => PK P P' ∧ ((5 < T 0 6 ∧ r = -1 ∧ I' = I) ∨ (T 0 6 ≤ 5 ∧ r = (ordS T (I 47)).1 ∧ I' 85 5 = T 0 6 ∧ (∀ k, k ≠ 5 → I' 85 k = I 85 k) ∧ QE (T 0 6) (I' 88) (ordS T (I 47)).2 ∧ Fc sOR I I')))) := fun y K2 hy q2 ho2 z83 z85 hF2 => by
          rw [← hy] at hx'
          refine y_aln (i := 0) dX11_order_114 at1.ne0 rfl rfl ?_
          refine y_getp (z := 16) (v := 83) dX11_order_115 frX11_93 cfX11 at1 rfl rfl (wp (v := 83) hW2 rfl rfl (by decide)) ?_
          refine x_callVI (c_X4_goOn hW2 z83 ⟨f6.1, h5⟩ (by rw [q2]; exact hc3)) dX11_order_118 lkX11_346 mfX4_goOn cfX4 at83 rfl rfl rfl rfl (Nat.le_of_ble_eq_true rfl) (fun r118 I118 P118 hr118 hf118 => ?_)
          obtain ⟨rfl, hs118⟩ := hf118
          rw [q2] at hs118
          refine x_istore_n (i := 2) dX11_order_121 rfl rfl (Nat.le_of_ble_eq_true rfl) ?_
          refine x_iinc dX11_order_122 rfl ⟨by omega, by omega⟩ rfl (Nat.le_of_ble_eq_true rfl) ?_
          refine x_goto (tgt := 33) dX11_order_125 rfl ?_
          refine x_keep [1, 1, 1, 1, 0] ?_
          rcases hs118 with ⟨s1, s2, s3⟩ | ⟨s1, s2, s3, s4, s5⟩
          · rw [s1, s3]
            refine ih (k + 1) q y 0 K2 _ (by omega) (by omega) (Or.inr ⟨rfl, ?_, hx'.1⟩) ⟨by omega, hx'.2⟩ (fun _ => ho2) z83 z85 hP' hF2
            rw [hc4, show 32768 - k = (32767 - k) + 1 by omega, ordF_p s2, hy]
          · rw [s1]
            have hF3 : Fc sOR I I118 := by rw [s3]; exact hF2.ua (Or.inr (Or.inr (Or.inr (Or.inl rfl))))
            have hk1 := hst.resolve_left (fun e => s2 (by rw [hc2.piv]; exact e))
            refine ih (k + 1) (nextS (T 0 6) q) y 1 I118 _ (by omega) (by omega) (Or.inl ⟨rfl, hk1.1, (hc2.next s2).tr hk1.2, s4, by rw [s3, uA_eq], ?_⟩) ⟨by omega, hx'.2⟩ (fun _ => by rw [s3, uA_ne (by decide), uA_ne (by decide)]; exact ho2) (by rw [s3, uA_ne (by decide)]; exact z83) (fun i hi => by rw [s3, uA_ne (by decide)]; exact z85 i hi) hP' hF3
            rw [hc4, show 32768 - k = (32768 - (k + 1)) + 1 by omega, ordF_q s2, hy]
        refine y_aln (i := 0) dX11_order_54 at1.ne0 rfl rfl ?_
        refine y_getp (z := 10) (v := 48) dX11_order_55 frX11_50 cfX11 at1 rfl rfl (wp (v := 48) hW2 rfl rfl (by decide)) ?_
        refine y_aln (i := 0) dX11_order_58 at1.ne0 rfl rfl ?_
        refine y_getp (z := 16) (v := 83) dX11_order_59 frX11_93 cfX11 at1 rfl rfl (wp (v := 83) hW2 rfl rfl (by decide)) ?_
        refine y_getp (z := 0) (v := 84) dX11_order_62 frX11_338 cfX4 at83 rfl rfl (wp (v := 84) hW2 rfl rfl (by decide)) ?_
        refine y_aln (i := 0) dX11_order_65 at1.ne0 rfl rfl ?_
        refine y_getp (z := 2) (v := t) dX11_order_66 frX11_16 cfX11 at1 rfl rfl h1R2 ?_
        refine y_geti (z := 3) dX11_order_69 frX11_156 cfX10 hTo.at rfl rfl ?_
        rw [eT]
        refine x_callVV (c_X3_passOrdered hW2 hM48 hF (kre.rw hr) ar84 (by unfold sM; omega) rfl h5 (by rw [k84]; exact hc3)) dX11_order_72 lkX11_339 mfX3_passOrdered cfX3 at48 rfl rfl rfl rfl (Nat.le_of_ble_eq_true rfl) (fun n72 I72 P72 hf72 => ?_)
        obtain ⟨rfl, rfl, o72, f72⟩ := hf72
        rw [k84, show K' (48 + 1) = K' 49 from rfl] at o72
        have rc72 : RC (I72 (48 + 1)) := by rw [o72]; exact hro.rc
        have F72 : Fc sOR I I72 := kF.tr (f72.mo (fun a ha => by unfold sM at ha; unfold sOR; omega))
        have e84 : I72 84 = q := (f72 84 (by unfold sM; omega)).trans k84
        have e83 : I72 83 1 = T 0 6 := by rw [f72 83 (by unfold sM; omega)]; exact k83
        have e85 : I72 85 = K' 85 := f72 85 (by unfold sM; omega)
        have e88 : I72 88 = K' 88 := f72 88 (by unfold sM; omega)
        have eT2 : I72 t 3 = T 0 6 := by rw [F72 t (by unfold sOR; omega)]; exact e3
        have ew : worthS T (I72 (48 + 1)) = worthS T (playS T q (T 0 6) (I 47)) := by rw [o72]; exact (hpl2.worth hF).symm
        refine y_aln (i := 0) dX11_order_75 at1.ne0 rfl rfl ?_
        refine y_getp (z := 10) (v := 48) dX11_order_76 frX11_50 cfX11 at1 rfl rfl (wp (v := 48) hW2 rfl rfl (by decide)) ?_
        refine x_callVI (c_X3_allWorth hW2 (hM48.fq f72) hF rc72) dX11_order_79 lkX11_187 mfX3_allWorth cfX3 at48 rfl rfl rfl rfl (Nat.le_of_ble_eq_true rfl) (fun r79 I79 P79 hr79 hf79 => ?_)
        obtain ⟨i79, p79, q79⟩ := hf79
        rw [i79, p79, q79]
        rw [ew]
        refine x_istore (i := 4) dX11_order_82 rfl (Nat.le_of_ble_eq_true rfl) ?_
        refine x_iload (i := 4) dX11_order_84 rfl ?_
        refine x_iload_n (i := 1) dX11_order_86 rfl rfl ?_
        refine x_icmp_le (tgt := 114) dX11_order_87 rfl (fun h87 => ?_) (fun h87 => ?_)
        · refine x_keep [1, 1, 0, 1, 0] ?_
          first | (have := h87; have hbx : ordB T (I 47) q x = (worthS T (playS T q (T 0 6) (I 47)), q) := (by rw [eB, if_pos (by omega)]); exact fin _ I111 hbx.symm ((o1 84 (by decide) (by decide)).trans e84) ⟨o3, fun i i0 i1 => by rw [o4 i i0 i1, e84]⟩ (by rw [o1 83 (by decide) (by decide)]; exact e83) (fun i hi => by rw [o2 i hi, e85]; exact k85 i hi) (fun a ha => by rw [o1 a (fun e => ha (by unfold sOR; omega)) (fun e => ha (by unfold sOR; omega))]; exact F72 a ha)) | (have hbx : ordB T (I 47) q x = x := (by rw [eB, if_neg (by omega)]); exact fin x I72 hbx.symm e84 (by rw [e85, e88]; exact kb (by rw [hbx] at hx'; exact hx'.1)) e83 (fun i hi => by rw [e85]; exact k85 i hi) F72)
        · refine x_iload (i := 4) dX11_order_90 rfl ?_
          refine x_istore_n (i := 1) dX11_order_92 rfl rfl (Nat.le_of_ble_eq_true rfl) ?_
          refine y_aln (i := 0) dX11_order_93 at1.ne0 rfl rfl ?_
          refine y_getp (z := 17) (v := 85) dX11_order_94 frX11_100 cfX11 at1 rfl rfl (wp (v := 85) hW2 rfl rfl (by decide)) ?_
          refine y_aln (i := 0) dX11_order_97 at1.ne0 rfl rfl ?_
          refine y_getp (z := 16) (v := 83) dX11_order_98 frX11_93 cfX11 at1 rfl rfl (wp (v := 83) hW2 rfl rfl (by decide)) ?_
          refine y_getp (z := 0) (v := 84) dX11_order_101 frX11_338 cfX4 at83 rfl rfl (wp (v := 84) hW2 rfl rfl (by decide)) ?_
          refine y_aln (i := 0) dX11_order_104 at1.ne0 rfl rfl ?_
          refine y_getp (z := 2) (v := t) dX11_order_105 frX11_16 cfX11 at1 rfl rfl h1R2 ?_
          refine y_geti (z := 3) dX11_order_108 frX11_156 cfX10 hTo.at rfl rfl ?_
          rw [eT2]
          refine x_callVV (c_X1_keepOrder hW2 ar84 (by decide) ⟨f6.1, h5⟩) dX11_order_111 lkX11_343 mfX1_keepOrder cfX1 at85 rfl rfl rfl rfl (Nat.le_of_ble_eq_true rfl) (fun n111 I111 P111 hf111 => ?_)
          obtain ⟨rfl, rfl, o1, o2, o3, o4⟩ := hf111
          refine x_keep [1, 1, 0, 1, 0] ?_
          first | (have := h87; have hbx : ordB T (I 47) q x = (worthS T (playS T q (T 0 6) (I 47)), q) := (by rw [eB, if_pos (by omega)]); exact fin _ I111 hbx.symm ((o1 84 (by decide) (by decide)).trans e84) ⟨o3, fun i i0 i1 => by rw [o4 i i0 i1, e84]⟩ (by rw [o1 83 (by decide) (by decide)]; exact e83) (fun i hi => by rw [o2 i hi, e85]; exact k85 i hi) (fun a ha => by rw [o1 a (fun e => ha (by unfold sOR; omega)) (fun e => ha (by unfold sOR; omega))]; exact F72 a ha)) | (have hbx : ordB T (I 47) q x = x := (by rw [eB, if_neg (by omega)]); exact fin x I72 hbx.symm e84 (by rw [e85, e88]; exact kb (by rw [hbx] at hx'; exact hx'.1)) e83 (fun i hi => by rw [e85]; exact k85 i hi) F72)
      refine x_iload_n (i := 3) dX11_order_33 rfl rfl ?_
      refine y_bi dX11_order_34 ⟨by decide, by decide⟩ ?_
      refine x_icmp_ge (tgt := 128) dX11_order_36 rfl (fun h36 => ?_) (fun h36 => ?_)
      · refine x_iload_n (i := 1) dX11_order_128 rfl rfl ?_
        refine x_iret dX11_order_129 rfl ?_
        have hc0 := hc.resolve_left (fun z => by have := z.1; have := z.2.1; omega)
        have hS2 := hS.2 (by rw [hc0.2.1]; exact hc0.2.2)
        rw [hc0.2.1] at hS2
        exact ⟨hP, Or.inr ⟨h5, by rw [← hS.1, hc0.2.1], (hb hc0.2.2).1, k85, (hb hc0.2.2).2.tr hS2, kF⟩⟩
      · refine x_iload_n (i := 2) dX11_order_39 rfl rfl ?_
        refine x_if_eq (tgt := 128) dX11_order_40 rfl (fun h40 => ?_) (fun h40 => ?_)
        · refine x_iload_n (i := 1) dX11_order_128 rfl rfl ?_
          refine x_iret dX11_order_129 rfl ?_
          have hc0 := hc.resolve_left (fun z => by have := z.1; have := z.2.1; omega)
          have hS2 := hS.2 (by rw [hc0.2.1]; exact hc0.2.2)
          rw [hc0.2.1] at hS2
          exact ⟨hP, Or.inr ⟨h5, by rw [← hS.1, hc0.2.1], (hb hc0.2.2).1, k85, (hb hc0.2.2).2.tr hS2, kF⟩⟩
        · refine y_aln (i := 0) dX11_order_43 at1.ne0 rfl rfl ?_
          refine y_getp (z := 10) (v := 48) dX11_order_44 frX11_50 cfX11 at1 rfl rfl (wp (v := 48) hWR rfl rfl (by decide)) ?_
          refine y_aln (i := 0) dX11_order_47 at1.ne0 rfl rfl ?_
          refine y_getp (z := 9) (v := 46) dX11_order_48 frX11_46 cfX11 at1 rfl rfl (wp (v := 46) hWR rfl rfl (by decide)) ?_
          refine x_callVV (c_X3_take (q := 48) hWR isM48 hMK (by decide)) dX11_order_51 lkX11_232 mfX3_take cfX3 at48 rfl rfl rfl rfl (Nat.le_of_ble_eq_true rfl) (fun n51 I51 P51 hf51 => ?_)
          obtain ⟨rfl, rfl, hI51⟩ := hf51
          have hc1 := hc.resolve_right (fun z => by have := z.1; omega)
          have F51 : Fc (sM 48) K I51 := by rw [hI51]; exact Fc.rf.ua (Or.inr rfl)
          obtain ⟨y1, y2, y3⟩ := trl hWR hMK isM48 (by decide) F51
          refine x_keep [1, 1, 0, 1, 0] ?_
          refine hB ⟨hc1.2.1, hc1.2.2.1, hc1.2.2.2.1, hc1.2.2.2.2.2⟩ _ _ (hP.tr y1) y2 (fun c c0 c1 => ?_) ((F51 84 (by unfold sM; omega)).trans hc1.2.2.2.2.1) (by rw [F51 85 (by unfold sM; omega), F51 88 (by unfold sM; omega)]; exact hb) (by rw [F51 83 (by unfold sM; omega)]; exact k83) (fun i hi => by rw [F51 85 (by unfold sM; omega)]; exact k85 i hi) (kF.tr (F51.mo (fun a ha => by unfold sM at ha; unfold sOR; omega)))
          rw [hI51]
          show _ = (if 0 ≤ c ∧ c < 48 then K 47 c else K 49 c)
          rw [if_pos ⟨c0, c1⟩, k47]
  refine y_aln (i := 0) dX11_order_0 at1.ne0 rfl rfl ?_
  refine y_getp (z := 2) (v := t) dX11_order_1 frX11_16 cfX11 at1 rfl rfl h1t ?_
  refine y_geti (z := 3) dX11_order_4 frX11_156 cfX10 hTo.at rfl rfl ?_
  refine y_ic dX11_order_7 ⟨by decide, by decide⟩ ?_
  refine x_icmp_le (tgt := 13) dX11_order_8 rfl (fun h8 => ?_) (fun h8 => ?_)
  · refine y_ic dX11_order_13 ⟨by decide, by decide⟩ ?_
    refine x_istore_n (i := 1) dX11_order_14 rfl rfl (Nat.le_of_ble_eq_true rfl) ?_
    refine y_aln (i := 0) dX11_order_15 at1.ne0 rfl rfl ?_
    refine y_getp (z := 16) (v := 83) dX11_order_16 frX11_93 cfX11 at1 rfl rfl (wp (v := 83) hW rfl rfl (by decide)) ?_
    refine y_aln (i := 0) dX11_order_19 at1.ne0 rfl rfl ?_
    refine y_getp (z := 2) (v := t) dX11_order_20 frX11_16 cfX11 at1 rfl rfl h1t ?_
    refine y_geti (z := 3) dX11_order_23 frX11_156 cfX10 hTo.at rfl rfl ?_
    rw [e3]
    refine x_callVV (c_X4_begin hW f6.1) dX11_order_26 lkX11_335 mfX4_begin cfX4 at83 rfl rfl rfl rfl (Nat.le_of_ble_eq_true rfl) (fun n26 I26 P26 hf26 => ?_)
    obtain ⟨rfl, rfl, f26, o26, w26⟩ := hf26
    have h5 : T 0 6 ≤ 5 := by omega
    have hmn : min (T 0 6) 5 = T 0 6 := by omega
    rw [hmn] at o26 w26
    have hq0 : QE (T 0 6) (I26 84) (fun k => k) := w26
    have h0 := pm_row (n := (T 0 6).toNat) (by omega)
    have h00 := h0.2.2
    rw [en] at h00
    refine y_ic dX11_order_29 ⟨by decide, by decide⟩ ?_
    refine x_istore_n (i := 2) dX11_order_30 rfl rfl (Nat.le_of_ble_eq_true rfl) ?_
    refine y_ic dX11_order_31 ⟨by decide, by decide⟩ ?_
    refine x_istore_n (i := 3) dX11_order_32 rfl rfl (Nat.le_of_ble_eq_true rfl) ?_
    refine x_keep [1, 1, 1, 1, 0] ?_
    exact hL h5 (I26 84) hq0 _ 0 (I26 84) (-1, I26 84) 1 I26 _ (Nat.lt_succ_self _) (by decide) (Or.inl ⟨rfl, h0.1.2, hq0.tr h00, hq0.sy.pm (PM_id _), rfl, rfl⟩) ⟨Int.le_refl _, by show (-1 : Int) ≤ 456600000; decide⟩ (fun z => absurd z (by show ¬ (0 : Int) ≤ -1; decide)) o26 (fun i hi => congrFun (f26 85 (by unfold sO; omega)) i) (PK.rf hW) (f26.mo (fun a ha => by unfold sO at ha; unfold sOR; omega))
  · refine y_ic dX11_order_11 ⟨by decide, by decide⟩ ?_
    refine x_iret dX11_order_12 rfl ?_
    exact ⟨PK.rf hW, Or.inl ⟨by omega, rfl, rfl⟩⟩
end

