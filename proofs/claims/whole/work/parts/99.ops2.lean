/-! ===== each call, of both: those that change who has what, those that keep something ===== -/
abbrev xRow : Nat → Prop := fun a => a = 98 ∨ a = 47
section
variable {G : HX} {c : Int} {I K : Mem} {P R : Ptr} {t g : Nat} {T : Tn}
theorem rel_row (hP : PK P R) (hs : SMx xRow nF I K) (ha : RSa I P t g T) (hb : RSb K T) (hcc : RSc I) (hd : RSd c I) (he : RSe I T) (hf : RSf I T) (hg : RSg I) (hh : RSh I) (hi : RSi I T) : REL (c + 1) K R := by
  have n : ¬ False := fun z => z
  exact ⟨t, g, T, hs.qa ha hP (fun a z => by unfold xRow at z; omega) (fun _ z => z.elim), hb, hs.qc hcc (by decide) (by decide) (by decide) n, hs.qd hd (by decide) (by decide) n (by omega), hs.qe he (by decide) n (by decide) (fun a a0 a1 => by unfold xRow; omega), hs.qf hf (by decide) n (by decide) (by decide), hs.qg hg (by decide) n (by decide) (by decide), hs.qh hh (by decide) n (by decide) (by decide), hs.qi hi (by decide) n (by decide) (by decide)⟩
theorem s46 {v : Int} {J : Mem} (h : Fc (sM 46) I J) : SMx xRow nF I (uI J 145 0 v) := (SMx.fc h (fun a h1 h2 => by unfold KO at h1; unfold xRow at h2; unfold sM; omega) (by unfold sM; omega)).tr SMx.out
theorem sfr {L : List Nat} {D : List Int} {J : Mem} (h : Fr L D J K) (h1 : L.all (fun a => decide (a = 98 ∨ ¬ ((1 ≤ a ∧ a ≤ 40) ∨ a = 47 ∨ (85 ≤ a ∧ a ≤ 90) ∨ (92 ≤ a ∧ a ≤ 100) ∨ (121 ≤ a ∧ a ≤ 125) ∨ a = 130 ∨ a = 142 ∨ a = 144))) = true) (h2 : D.all (fun k => decide (¬ ((1 ≤ k ∧ k ≤ 7) ∨ k = 17 ∨ k = 19 ∨ k = 61 ∨ k = 66 ∨ k = 76 ∨ k = 89 ∨ k = 92))) = true) : SMx xRow nF J K := SMx.fr h (fun a ha hx hm => (of_decide_eq_true (List.all_eq_true.mp h1 a hm)).elim (fun e => hx (Or.inl e)) (fun e => e ha)) (fun k hk _ hm => of_decide_eq_true (List.all_eq_true.mp h2 k hm) hk)
theorem sfn {L : List Nat} {D : List Int} {J : Mem} (h : Fr L D J K) (h1 : L.all (fun a => decide (¬ ((1 ≤ a ∧ a ≤ 40) ∨ a = 47 ∨ (85 ≤ a ∧ a ≤ 90) ∨ (92 ≤ a ∧ a ≤ 100) ∨ (121 ≤ a ∧ a ≤ 125) ∨ a = 130 ∨ a = 142 ∨ a = 144))) = true) (h2 : D.all (fun k => decide (¬ ((1 ≤ k ∧ k ≤ 7) ∨ k = 17 ∨ k = 19 ∨ k = 61 ∨ k = 66 ∨ k = 76 ∨ k = 89 ∨ k = 92))) = true) : SMx nX nF J K := SMx.fr h (fun a ha _ hm => of_decide_eq_true (List.all_eq_true.mp h1 a hm) ha) (fun k hk _ hm => of_decide_eq_true (List.all_eq_true.mp h2 k hm) hk)
theorem op_meet {a b : Int} (hR : REL c I P) : OPX G mL_meet mX12_meet [.inl a, .inl b] (fun b => b) c I P := by
  obtain ⟨t, g, T, ha, hb, hcc, hd, he, hf, hg, hh, hi⟩ := id hR
  obtain ⟨hW, h1t, h1g, hTo, hGo, hne, hM, hT, hF⟩ := id ha
  have r47 := hb.2.rw hb.1
  refine ⟨_, c_L_meet (d := 30) (c_X11_meet (d := 22) hW hM h1t hF r47) (fun E J R h => h.2.2), fun k I1 P1 h => ?_⟩
  rcases h with ⟨rfl, v, J, ⟨rfl, hC, hv, hJ, hFc⟩, rfl⟩ | ⟨rfl, E, ⟨rfl, rfl⟩, hC, -⟩
  · have e : ∀ a, 91 ≤ a → a ≠ 145 → uI J 145 0 v a = I a := fun a h1 h2 => by rw [uI_ne h2]; exact hFc a (by unfold sM; omega)
    have hT1 : MT (uI J 145 0 v) T := ((hT.ge (fun a h => hFc a (by unfold sM; omega))).o (fun a h => uI_ne h))
    refine ⟨_, c_X12_meet (d := 27) hW hT1 hF (by rw [e 98 (by decide) (by decide)]; exact hb.1), fun b2 I2 P2 h2 => ?_⟩
    rw [e 98 (by decide) (by decide)] at h2
    obtain ⟨rfl, h2⟩ := h2
    rcases h2 with ⟨q, -⟩ | ⟨-, q1, q2, q3, q4⟩
    · exact absurd hC q
    · have hm := hb.2.meet (a := a) (b := b) hF hC.1 hC.2.1
      refine ⟨q3, fun _ => ?_, rel_row (PK.rf hW) ((s46 hFc).tr (sfr q4 (by decide) (by decide))) ha ⟨?_, ?_⟩ hcc hd he hf hg hh hi⟩
      · rw [q4.1 145 (by decide) (by decide), uI_eq, u1_eq, hv, q1, hm.1]
      · rw [q2]; exact (meetS_RW hF hb.1 hC.1 hC.2.1 hC.2.2).1
      · rw [q2, q4.1 47 (by decide) (by decide), uI_ne (by decide), hJ]; exact hm.2
  · refine ⟨_, c_X12_meet (d := 27) hW hT hF hb.1, fun b2 I2 P2 h2 => ?_⟩
    obtain ⟨rfl, h2⟩ := h2
    rcases h2 with ⟨-, q1, rfl⟩ | ⟨q, -⟩
    · exact ⟨by rw [uI_eq, u1_eq], fun z => absurd z (by decide), hR.same (PK.rf hW) SMx.f0 (by omega)⟩
    · exact absurd q hC
theorem op_days {n : Int} (hR : REL c I P) : OPX G mL_days mX12_days [.inl n] (fun b => b) c I P := by
  obtain ⟨t, g, T, ha, hb, hcc, hd, he, hf, hg, hh, hi⟩ := id hR
  obtain ⟨hW, h1t, h1g, hTo, hGo, hne, hM, hT, hF⟩ := id ha
  have r47 := hb.2.rw hb.1
  refine ⟨_, c_L_days (d := 30) (c_X11_days (d := 22) hW hM h1t hF r47) (fun E J R h => h.2.2), fun k I1 P1 h => ?_⟩
  rcases h with ⟨rfl, v, J, ⟨rfl, hC, hv, hJ, hFc⟩, rfl⟩ | ⟨rfl, E, ⟨rfl, rfl⟩, hC, -⟩
  · have e : ∀ a, 91 ≤ a → a ≠ 145 → uI J 145 0 v a = I a := fun a h1 h2 => by rw [uI_ne h2]; exact hFc a (by unfold sM; omega)
    have hT1 : MT (uI J 145 0 v) T := ((hT.ge (fun a h => hFc a (by unfold sM; omega))).o (fun a h => uI_ne h))
    refine ⟨_, c_X12_days (d := 26) hW hT1 hF (by rw [e 98 (by decide) (by decide)]; exact hb.1), fun b2 I2 P2 h2 => ?_⟩
    rw [e 98 (by decide) (by decide)] at h2
    obtain ⟨rfl, h2⟩ := h2
    rcases h2 with ⟨q, -⟩ | ⟨-, q1, q2, q3, q4⟩
    · exact absurd hC q
    · have hm := RE.days (n := n) hb.2 hF
      refine ⟨q3, fun _ => ?_, rel_row (PK.rf hW) ((s46 hFc).tr (sfr q4 (by decide) (by decide))) ha ⟨?_, ?_⟩ hcc hd he hf hg hh hi⟩
      · rw [q4.1 145 (by decide) (by decide), uI_eq, u1_eq, hv, q1, hm.1]
      · rw [q2]; exact (daysS_ok hF hb.1 hC.1).1
      · rw [q2, q4.1 47 (by decide) (by decide), uI_ne (by decide), hJ]; exact hm.2
  · refine ⟨_, c_X12_days (d := 26) hW hT hF hb.1, fun b2 I2 P2 h2 => ?_⟩
    obtain ⟨rfl, h2⟩ := h2
    rcases h2 with ⟨-, q1, rfl⟩ | ⟨q, -⟩
    · exact ⟨by rw [uI_eq, u1_eq], fun z => absurd z (by decide), hR.same (PK.rf hW) SMx.f0 (by omega)⟩
    · exact absurd q hC
theorem op_run {n s : Int} (hR : REL c I P) : OPX G mL_run mX12_run [.inl n, .inl s] (fun b => b) c I P := by
  obtain ⟨t, g, T, ha, hb, hcc, hd, he, hf, hg, hh, hi⟩ := id hR
  obtain ⟨hW, h1t, h1g, hTo, hGo, hne, hM, hT, hF⟩ := id ha
  have r47 := hb.2.rw hb.1
  refine ⟨_, c_L_run (d := 30) (c_X11_run (d := 22) hW hM h1t hF r47) (fun E J R h => h.2.2), fun k I1 P1 h => ?_⟩
  rcases h with ⟨rfl, v, J, ⟨rfl, hC, hv, hJ, hFc⟩, rfl⟩ | ⟨rfl, E, ⟨rfl, rfl⟩, hC, -⟩
  · have e : ∀ a, 91 ≤ a → a ≠ 145 → uI J 145 0 v a = I a := fun a h1 h2 => by rw [uI_ne h2]; exact hFc a (by unfold sM; omega)
    have hT1 : MT (uI J 145 0 v) T := ((hT.ge (fun a h => hFc a (by unfold sM; omega))).o (fun a h => uI_ne h))
    refine ⟨_, c_X12_run (d := 27) hW hT1 hF (by rw [e 98 (by decide) (by decide)]; exact hb.1), fun b2 I2 P2 h2 => ?_⟩
    rw [e 98 (by decide) (by decide)] at h2
    obtain ⟨rfl, h2⟩ := h2
    rcases h2 with ⟨q, -⟩ | ⟨-, q1, q2, q3, q4⟩
    · exact absurd hC q
    · have hm := RE.run (n := n) (s := s) hb.2 hF hC.2
      refine ⟨q3, fun _ => ?_, rel_row (PK.rf hW) ((s46 hFc).tr (sfr q4 (by decide) (by decide))) ha ⟨?_, ?_⟩ hcc hd he hf hg hh hi⟩
      · rw [q4.1 145 (by decide) (by decide), uI_eq, u1_eq, hv, q1, hm.1]
      · rw [q2]; exact (runS_ok hF hb.1 hC.2 hC.1.1).1
      · rw [q2, q4.1 47 (by decide) (by decide), uI_ne (by decide), hJ]; exact hm.2
  · refine ⟨_, c_X12_run (d := 27) hW hT hF hb.1, fun b2 I2 P2 h2 => ?_⟩
    obtain ⟨rfl, h2⟩ := h2
    rcases h2 with ⟨-, q1, rfl⟩ | ⟨q, -⟩
    · exact ⟨by rw [uI_eq, u1_eq], fun z => absurd z (by decide), hR.same (PK.rf hW) SMx.f0 (by omega)⟩
    · exact absurd q hC
theorem op_end {w : Int} (hR : REL c I P) : OPX G mL_end mX12_end [.inl w] (fun b => b) c I P := by
  obtain ⟨t, g, T, ha, hb, hcc, hd, he, hf, hg, hh, hi⟩ := id hR
  obtain ⟨hW, h1t, h1g, hTo, hGo, hne, hM, hT, hF⟩ := id ha
  have r47 := hb.2.rw hb.1
  refine ⟨_, c_L_end (d := 30) (c_X11_end (d := 22) hW hM h1t hF r47) (fun E J R h => h.2.2), fun k I1 P1 h => ?_⟩
  rcases h with ⟨rfl, v, J, ⟨⟨hP, hFc⟩, hC, hv⟩, rfl⟩ | ⟨rfl, E, ⟨rfl, rfl⟩, hC, -⟩
  · have e : ∀ a, 91 ≤ a → a ≠ 145 → uI J 145 0 v a = I a := fun a h1 h2 => by rw [uI_ne h2]; exact hFc a (by unfold sM; omega)
    have hT1 : MT (uI J 145 0 v) T := ((hT.ge (fun a h => hFc a (by unfold sM; omega))).o (fun a h => uI_ne h))
    refine ⟨_, c_X12_end (d := 25) hP.1 hT1 hF (by rw [e 98 (by decide) (by decide)]; exact hb.1), fun b2 I2 P2 h2 => ?_⟩
    rw [e 98 (by decide) (by decide)] at h2
    obtain ⟨rfl, h2⟩ := h2
    rcases h2 with ⟨q, -⟩ | ⟨-, q1, q3, q4⟩
    · exact absurd hC q
    · have hs : SMx nX nF I I2 := ((SMx.fc hFc (fun a h1 _ => by unfold KO at h1; unfold sM; omega) (by unfold sM; omega)).tr SMx.out).tr (sfn q4 (by decide) (by decide))
      refine ⟨q3, fun _ => ?_, hR.same hP hs (by omega)⟩
      rw [q4.1 145 (by decide) (by decide), uI_eq, u1_eq, hv, q1]
      exact (RE.enda hb.2 hF hC).symm
  · refine ⟨_, c_X12_end (d := 25) hW hT hF hb.1, fun b2 I2 P2 h2 => ?_⟩
    obtain ⟨rfl, h2⟩ := h2
    rcases h2 with ⟨-, q1, rfl⟩ | ⟨q, -⟩
    · exact ⟨by rw [uI_eq, u1_eq], fun z => absurd z (by decide), hR.same (PK.rf hW) SMx.f0 (by omega)⟩
    · exact absurd q hC
theorem op_law {l w : Int} (hR : REL c I P) : OPX G mL_law mX12_law [.inl l, .inl w] (fun b => b) c I P := by
  obtain ⟨t, g, T, ha, hb, hcc, hd, he, hf, hg, hh, hi⟩ := id hR
  obtain ⟨hW, h1t, h1g, hTo, hGo, hne, hM, hT, hF⟩ := id ha
  have r47 := hb.2.rw hb.1
  refine ⟨_, c_L_law (d := 30) (c_X11_law (d := 22) hW hM h1t hF r47) (fun E J R h => h.2.2), fun k I1 P1 h => ?_⟩
  rcases h with ⟨rfl, v, J, ⟨⟨hP, hFc⟩, hC, hv⟩, rfl⟩ | ⟨rfl, E, ⟨rfl, rfl⟩, hC, -⟩
  · have e : ∀ a, 91 ≤ a → a ≠ 145 → uI J 145 0 v a = I a := fun a h1 h2 => by rw [uI_ne h2]; exact hFc a (by unfold sGL; omega)
    have hT1 : MT (uI J 145 0 v) T := ((hT.ge (fun a h => hFc a (by unfold sGL; omega))).o (fun a h => uI_ne h))
    refine ⟨_, c_X12_law (d := 24) hP.1 hT1 hF (by rw [e 98 (by decide) (by decide)]; exact hb.1), fun b2 I2 P2 h2 => ?_⟩
    rw [e 98 (by decide) (by decide), aif_1 hC] at h2
    obtain ⟨rfl, q1, q3, q4⟩ := h2
    have hs : SMx nX nF I I2 := ((SMx.fc hFc (fun a h1 _ => by unfold KO at h1; unfold sGL; omega) (by unfold sGL; omega)).tr SMx.out).tr (sfn q4 (by decide) (by decide))
    refine ⟨q3, fun _ => ?_, hR.same hP hs (by omega)⟩
    rw [q4.1 145 (by decide) (by decide), uI_eq, u1_eq, hv, q1]
    exact (RE.lawv hb.2 hF hC.1).symm
  · refine ⟨_, c_X12_law (d := 24) hW hT hF hb.1, fun b2 I2 P2 h2 => ?_⟩
    rw [aif_0 hC] at h2
    obtain ⟨rfl, q1, q3, q4⟩ := h2
    exact ⟨q3, fun z => absurd z (by decide), hR.same (PK.rf hW) (sfn q4 (by decide) (by decide)) (by omega)⟩
theorem op_look {a b v z w : Int} (hR : REL c I P) : OPX G mL_look mX12_look [.inl a, .inl b, .inl v, .inl z, .inl w] (fun b => b) c I P := by
  obtain ⟨t, g, T, ha, hb, hcc, hd, he, hf, hg, hh, hi⟩ := id hR
  obtain ⟨hW, h1t, h1g, hTo, hGo, hne, hM, hT, hF⟩ := id ha
  have r47 := hb.2.rw hb.1
  have hl : lookA T (I 98) a b v z w = lookA T (I 47) a b v z w := RE.looka hb.2 hF
  have key : ∀ (I1 : Mem) (P1 : Ptr) (k x : Int), PK P P1 → SMx nX nF I I1 → (∀ a, 91 ≤ a → a ≠ 145 → I1 a = I a) → lookA T (I 98) a b v z w = (k, x) → (k = 0 → I1 145 0 = x) → ∃ B : Int → Mem → Ptr → Prop, Cv G mX12_look 31 0 0 [.inr (.inl 91), .inl a, .inl b, .inl v, .inl z, .inl w] NO I1 P1 (qI NO B) ∧ ∀ b I2 P2, B b I2 P2 → I2 91 0 = k ∧ (k = 0 → I2 145 0 = b) ∧ REL (c + 1) I2 P2 := fun I1 P1 k x hP hs e hk hx => by
    have hT1 : MT I1 T := by
      obtain ⟨h0, h1, h2, h3, h4, h5, h6⟩ := hT
      exact ⟨fun k k0 k1 => by rw [e 91 (by decide) (by decide)]; exact h0 k k0 k1, (e 92 (by decide) (by decide)).trans h1, (e 93 (by decide) (by decide)).trans h2, (e 94 (by decide) (by decide)).trans h3, (e 95 (by decide) (by decide)).trans h4, (e 96 (by decide) (by decide)).trans h5, (e 97 (by decide) (by decide)).trans h6⟩
    refine ⟨_, c_X12_look (d := 29) hP.1 hT1 hF (by rw [e 98 (by decide) (by decide)]; exact hb.1), fun b2 I2 P2 h2 => ?_⟩
    rw [e 98 (by decide) (by decide), hk] at h2
    obtain ⟨rfl, q1, q2, q3⟩ := h2
    refine ⟨q2, fun z => ?_, hR.same hP (hs.tr (sfn q3 (by decide) (by decide))) (by omega)⟩
    rw [q3.1 145 (by decide) (by decide), hx z, q1]
  refine ⟨_, c_L_look (d := 30) (c_X11_look (d := 22) hW hM h1t hF r47) (fun E J R h => h.2.imp (fun z => z.1) (fun z => z.1)), fun k I1 P1 h => ?_⟩
  rcases h with ⟨rfl, y, J, ⟨⟨hP, hFc⟩, hv⟩, rfl⟩ | ⟨rfl, ⟨hP, hFc⟩, hv⟩ | ⟨rfl, ⟨hP, hFc⟩, hv⟩
  · exact key _ _ 0 y hP ((SMx.fc hFc (fun a h1 _ => by unfold KO at h1; unfold sM; omega) (by unfold sM; omega)).tr SMx.out) (fun a h1 h2 => by rw [uI_ne h2]; exact hFc a (by unfold sM; omega)) (hl.trans hv) (fun _ => by rw [uI_eq, u1_eq])
  · have hv2 : lookA T (I 47) a b v z w = (1, 0) := hv.elim (fun q => q.2) (fun q => absurd q.1 (by decide))
    exact key _ _ 1 0 hP (SMx.fc hFc (fun a h1 _ => by unfold KO at h1; unfold sM; omega) (by unfold sM; omega)) (fun a h1 _ => hFc a (by unfold sM; omega)) (hl.trans hv2) (fun z => absurd z (by decide))
  · have hv2 : lookA T (I 47) a b v z w = (2, 0) := hv.elim (fun q => absurd q.1 (by decide)) (fun q => q.2)
    exact key _ _ 2 0 hP (SMx.fc hFc (fun a h1 _ => by unfold KO at h1; unfold sM; omega) (by unfold sM; omega)) (fun a h1 _ => hFc a (by unfold sM; omega)) (hl.trans hv2) (fun z => absurd z (by decide))
theorem op_still {p m w : Int} (hR : REL c I P) : OPX G mL_still mX12_still [.inl p, .inl m, .inl w] (fun b => b) c I P := by
  obtain ⟨t, g, T, ha, hb, hcc, hd, he, hf, hg, hh, hi⟩ := id hR
  obtain ⟨hW, h1t, h1g, hTo, hGo, hne, hM, hT, hF⟩ := id ha
  have r47 := hb.2.rw hb.1
  have hl : stillA T (I 98) p m w = stillA T (I 47) p m w := by
    unfold stillA
    by_cases q : (0 ≤ p ∧ p < T 0 1) ∧ 0 ≤ w ∧ w ≤ 1
    · rw [cif_pos q, cif_pos q, RE.stills hb.2 hF q.1]
    · rw [cif_neg q, cif_neg q]
  have key : ∀ (I1 : Mem) (P1 : Ptr) (k x : Int), PK P P1 → SMx nX nF I I1 → (∀ a, 91 ≤ a → a ≠ 145 → I1 a = I a) → stillA T (I 98) p m w = (k, x) → (k = 0 → I1 145 0 = x) → ∃ B : Int → Mem → Ptr → Prop, Cv G mX12_still 31 0 0 [.inr (.inl 91), .inl p, .inl m, .inl w] NO I1 P1 (qI NO B) ∧ ∀ b I2 P2, B b I2 P2 → I2 91 0 = k ∧ (k = 0 → I2 145 0 = b) ∧ REL (c + 1) I2 P2 := fun I1 P1 k x hP hs e hk hx => by
    have hT1 : MT I1 T := by
      obtain ⟨h0, h1, h2, h3, h4, h5, h6⟩ := hT
      exact ⟨fun k k0 k1 => by rw [e 91 (by decide) (by decide)]; exact h0 k k0 k1, (e 92 (by decide) (by decide)).trans h1, (e 93 (by decide) (by decide)).trans h2, (e 94 (by decide) (by decide)).trans h3, (e 95 (by decide) (by decide)).trans h4, (e 96 (by decide) (by decide)).trans h5, (e 97 (by decide) (by decide)).trans h6⟩
    refine ⟨_, c_X12_still (d := 26) hP.1 hT1 hF (by rw [e 98 (by decide) (by decide)]; exact hb.1), fun b2 I2 P2 h2 => ?_⟩
    rw [e 98 (by decide) (by decide), hk] at h2
    obtain ⟨rfl, q1, q2, q3⟩ := h2
    refine ⟨q2, fun z => ?_, hR.same hP (hs.tr (sfn q3 (by decide) (by decide))) (by omega)⟩
    rw [q3.1 145 (by decide) (by decide), hx z, q1]
  refine ⟨_, c_L_still (d := 30) (c_X11_still (d := 22) hW hM h1t hF r47) (fun E J R h => h.2.imp (fun z => z.1) (fun z => z.1)), fun k I1 P1 h => ?_⟩
  rcases h with ⟨rfl, y, J, ⟨⟨hP, hFc⟩, hv⟩, rfl⟩ | ⟨rfl, ⟨rfl, rfl⟩, hv⟩ | ⟨rfl, ⟨rfl, rfl⟩, hv⟩
  · exact key _ _ 0 y hP ((SMx.fc hFc (fun a h1 _ => by unfold KO at h1; unfold sM; omega) (by unfold sM; omega)).tr SMx.out) (fun a h1 h2 => by rw [uI_ne h2]; exact hFc a (by unfold sM; omega)) (hl.trans hv) (fun _ => by rw [uI_eq, u1_eq])
  · have hv2 : stillA T (I1 47) p m w = (1, 0) := hv.elim (fun q => q.2) (fun q => absurd q.1 (by decide))
    exact key _ _ 1 0 (PK.rf hW) SMx.rf (fun _ _ _ => rfl) (hl.trans hv2) (fun z => absurd z (by decide))
  · have hv2 : stillA T (I1 47) p m w = (2, 0) := hv.elim (fun q => absurd q.1 (by decide)) (fun q => q.2)
    exact key _ _ 2 0 (PK.rf hW) SMx.rf (fun _ _ _ => rfl) (hl.trans hv2) (fun z => absurd z (by decide))
theorem op_ahead {p : Int} (hR : REL c I P) : OPX G mL_ahead mX12_ahead [.inl p] (fun b => b) c I P := by
  obtain ⟨t, g, T, ha, hb, hcc, hd, he, hf, hg, hh, hi⟩ := id hR
  obtain ⟨hW, h1t, h1g, hTo, hGo, hne, hM, hT, hF⟩ := id ha
  have r47 := hb.2.rw hb.1
  have f6 := hF.2.2.2.2.2.1
  refine ⟨_, c_L_ahead (d := 30) (c_X11_ahead (d := 0) hW hM h1t hF r47) (fun E J R h => h.2.2), fun k I1 P1 h => ?_⟩
  rcases h with ⟨rfl, v, J, ⟨⟨hP, hFc⟩, hC, R0, hR0, hv⟩, rfl⟩ | ⟨rfl, E, ⟨rfl, rfl⟩, hC, -⟩
  · have n9 : ∀ a, 91 ≤ a → ¬ sF 0 a := fun a h => by unfold sF eR; omega
    have e : ∀ a, 91 ≤ a → a ≠ 145 → uI J 145 0 v a = I a := fun a h1 h2 => by rw [uI_ne h2]; exact hFc a (n9 a h1)
    have hT1 : MT (uI J 145 0 v) T := ((hT.ge (fun a h => hFc a (n9 a h))).o (fun a h => uI_ne h))
    refine ⟨_, c_X12_ahead (d := 26) hP.1 hT1 hF (by rw [e 98 (by decide) (by decide)]; exact hb.1), fun b2 I2 P2 h2 => ?_⟩
    rw [e 98 (by decide) (by decide)] at h2
    obtain ⟨rfl, h2⟩ := h2
    rcases h2 with ⟨q, -⟩ | ⟨-, q3, q4, q1⟩
    · exact absurd hC q
    · have hs : SMx nX nF I I2 := ((SMx.fc hFc (fun a h1 _ => by unfold KO at h1; unfold sF eR; omega) (n9 91 (Nat.le_refl _))).tr SMx.out).tr (sfn q4 (by decide) (by decide))
      have hA := AE.go hF (T 0 6).toNat 0 (hb.2.tr hR0) (by omega) (Int.le_refl 0)
      refine ⟨q3, fun _ => ?_, hR.same hP hs (by omega)⟩
      rw [q4.1 145 (by decide) (by decide), uI_eq, u1_eq, hv, q1, hA.1, hA.2 p hC.1 hC.2]
  · refine ⟨_, c_X12_ahead (d := 26) hW hT hF hb.1, fun b2 I2 P2 h2 => ?_⟩
    obtain ⟨rfl, h2⟩ := h2
    rcases h2 with ⟨-, q1, rfl⟩ | ⟨q, -⟩
    · exact ⟨by rw [uI_eq, u1_eq], fun z => absurd z (by decide), hR.same (PK.rf hW) (SMx.f0.tr SMx.f0) (by omega)⟩
    · exact absurd q hC
end
