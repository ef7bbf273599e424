/-! ===== each call, of both: bags, orders, shares, images, the tape, towns ===== -/
/-- a call of both that answers nothing -/
def OPV (G : HX) (Lw M : MI) (c : Int) (I : Mem) (P : Ptr) : Prop :=
  ∃ A : Nat → Mem → Ptr → Prop, Cv G Lw 31 0 0 [.inr (.inl 1)] NO I P (qV A) ∧
    ∀ n1 I1 P1, A n1 I1 P1 → n1 = NO ∧ ∃ B : Nat → Mem → Ptr → Prop, Cv G M 31 0 0 [.inr (.inl 91)] NO I1 P1 (qV B) ∧ ∀ n2 I2 P2, B n2 I2 P2 → n2 = NO ∧ REL (c + 1) I2 P2
section
variable {G : HX} {c : Int} {I K : Mem} {P R : Ptr} {t g : Nat} {T : Tn}
abbrev xBag : Nat → Prop := fun a => a = 85 ∨ a = 87 ∨ a = 125
abbrev fBag : Int → Prop := fun k => k = 66
theorem op_poor {p s : Int} (hR : REL c I P) : OPX G mL_poor mX12_poor [.inl p, .inl s] (fun b => b) c I P := by
  obtain ⟨t, g, T, ha, hb, hcc, hd, he, hf, hg, hh, hi⟩ := id hR
  obtain ⟨hW, h1t, h1g, hTo, hGo, hne, hM, hT, hF⟩ := id ha
  have r47 := hb.2.rw hb.1
  refine ⟨_, c_L_poor (d := 30) (c_X11_poor (d := 22) hW hM h1t hF r47) (fun E J R h => h.2.2), fun k I1 P1 h => ?_⟩
  rcases h with ⟨rfl, v, J, ⟨⟨hP, hC⟩, hy⟩, rfl⟩ | ⟨rfl, E, ⟨rfl, rfl⟩, hC, -⟩
  · obtain ⟨e1, e2, e3⟩ := PE.poo hF hb.2 hC.1 hC.2
    have oJ : ∀ a, 91 ≤ a → J a = I a := fun a h => by
      rcases hy with ⟨-, -, q⟩ | ⟨-, -, -, -, -, q⟩
      · exact q a (by unfold sPO sY; omega)
      · exact q a (by unfold sPK sPO sY; omega)
    have e : ∀ a, 91 ≤ a → a ≠ 145 → uI J 145 0 v a = I a := fun a h1 h2 => by rw [uI_ne h2]; exact oJ a h1
    have hT1 : MT (uI J 145 0 v) T := ((hT.ge oJ).o (fun a h => uI_ne h))
    refine ⟨_, c_X12_poor (d := 27) hP.1 hT1 hF (by rw [e 98 (by decide) (by decide)]; exact hb.1), fun b2 I2 P2 h2 => ?_⟩
    rw [e 98 (by decide) (by decide)] at h2
    obtain ⟨rfl, h2⟩ := h2
    rcases h2 with ⟨q, -⟩ | ⟨-, q3, h2⟩
    · exact absurd hC q
    · rcases hy with ⟨y1, y2, y3⟩ | ⟨y1, y2, y3, y4, y5, y6⟩
      · rcases h2 with ⟨x1, x2, x3⟩ | ⟨x1, -⟩
        · refine ⟨q3, fun _ => ?_, hR.same hP (((SMx.fc y3 (fun a h _ => by unfold KO at h; unfold sPO sY; omega) (by unfold sPO sY; omega)).tr SMx.out).tr (sfn x3 (by decide) (by decide))) (by omega)⟩
          rw [x3.1 145 (by decide) (by decide), uI_eq, u1_eq, x2, y2, e1]
        · exact absurd (e1.symm.trans x1) y1
      · rcases h2 with ⟨x1, -⟩ | ⟨x1, x2, x3, x4, x5⟩
        · exact absurd (e1.trans y1) x1
        · have hs : SMx xBag fBag I I2 := ((SMx.fc y6 (fun a h1 hx => by unfold KO at h1; unfold xBag at hx; unfold sPK sPO sY; omega) (by unfold sPK sPO sY; omega)).tr SMx.out).tr (SMx.fr x5 (fun a h1 hx hm => by
            unfold KO at h1; unfold xBag at hx; simp at hm; omega) (fun k h1 hx hm => by
            unfold KF at h1; unfold fBag at hx; simp at hm; omega))
          have g2 : ∀ a, a ≤ 90 → I2 a = J a := fun a h => by rw [x5.1 a (by omega) (by simp; omega), uI_ne (by omega)]
          have g85 : ∀ k, k ≠ 3 → I2 85 k = I 85 k := fun k hk => by rw [g2 85 (by decide)]; exact y4 k hk
          refine ⟨q3, fun _ => ?_, t, g, T, hs.qa ha hP (fun a z => by unfold xBag at z; omega) (fun k z => by unfold fBag at z; omega), hs.qb hb (by decide) (by decide), hs.qc hcc (by decide) (by decide) (by decide) (by decide), hs.qd hd (by decide) (by decide) (by decide) (by omega), he.eq (g85 1 (by decide)) (hs.2 61 (by unfold KF; omega) (by decide)) (hs.1 86 (by unfold KO; omega) (by decide)) (fun a a0 a1 => hs.1 a (by unfold KO; omega) (by unfold xBag; omega)), ?_, hg.eq (g85 5 (by decide)) (hs.2 76 (by unfold KF; omega) (by decide)) (hs.1 88 (by unfold KO; omega) (by decide)) (hs.1 130 (by unfold KO; omega) (by decide)), hh.eq (g85 7 (by decide)) (hs.2 89 (by unfold KF; omega) (by decide)) (hs.1 89 (by unfold KO; omega) (by decide)) (hs.1 142 (by unfold KO; omega) (by decide)), hi.eq (g85 9 (by decide)) (hs.2 92 (by unfold KF; omega) (by decide)) (hs.1 90 (by unfold KO; omega) (by decide)) (hs.1 144 (by unfold KO; omega) (by decide))⟩
          · rw [x5.1 145 (by decide) (by decide), uI_eq, u1_eq, x2, y2, e2]
          · refine ⟨by rw [g2 85 (by decide), y3, x3], Or.inr x3, fun _ k k0 k1 => ?_⟩
            rw [g2 87 (by decide), y5 k k0 k1, x4 k k0 k1]
            exact (e3 k k0 k1).symm
  · refine ⟨_, c_X12_poor (d := 27) hW hT hF hb.1, fun b2 I2 P2 h2 => ?_⟩
    obtain ⟨rfl, h2⟩ := h2
    rcases h2 with ⟨-, q1, rfl⟩ | ⟨q, -⟩
    · exact ⟨by rw [uI_eq, u1_eq], fun z => absurd z (by decide), hR.same (PK.rf hW) (SMx.f0.tr SMx.f0) (by omega)⟩
    · exact absurd q hC
abbrev xShr : Nat → Prop := fun a => a = 85 ∨ a = 89 ∨ a = 142
abbrev fShr : Int → Prop := fun k => k = 89
theorem op_share {w : Int} (hR : REL c I P) : OPX G mL_share mX12_share [.inl w] (fun b => b) c I P := by
  obtain ⟨t, g, T, ha, hb, hcc, hd, he, hf, hg, hh, hi⟩ := id hR
  obtain ⟨hW, h1t, h1g, hTo, hGo, hne, hM, hT, hF⟩ := id ha
  have r47 := hb.2.rw hb.1
  obtain ⟨ew, es⟩ := RE.sh hb.2 hF
  refine ⟨_, c_L_share (d := 30) (c_X11_share (d := 22) hW hM h1t hF r47) (fun E J R h => h.2.2), fun k I1 P1 h => ?_⟩
  rw [← ew, ← es] at h
  rcases h with ⟨rfl, v, J, ⟨⟨hP, hC⟩, hy⟩, rfl⟩ | ⟨rfl, E, ⟨rfl, rfl⟩, hC, -⟩
  · have oJ : ∀ a, 91 ≤ a → J a = I a := fun a h => by
      rcases hy with ⟨-, -, q⟩ | ⟨-, -, -, q⟩ | ⟨-, -, -, -, -, -, q⟩
      · rw [q]
      · exact q a (by unfold sS0; omega)
      · exact q a (by unfold sSH; omega)
    have e : ∀ a, 91 ≤ a → a ≠ 145 → uI J 145 0 v a = I a := fun a h1 h2 => by rw [uI_ne h2]; exact oJ a h1
    have hT1 : MT (uI J 145 0 v) T := ((hT.ge oJ).o (fun a h => uI_ne h))
    refine ⟨_, c_X12_share (d := 26) hP.1 hT1 hF (by rw [e 98 (by decide) (by decide)]; exact hb.1), fun b2 I2 P2 h2 => ?_⟩
    rw [e 98 (by decide) (by decide)] at h2
    obtain ⟨rfl, h2⟩ := h2
    rcases h2 with ⟨q, -⟩ | ⟨-, q3, h2⟩
    · exact absurd hC q
    · rcases hy with ⟨y1, y2, rfl⟩ | ⟨y1, y2, y3, y4⟩ | ⟨y1, y2, y3, y4, y5, y6, y7⟩
      · rcases h2 with ⟨x1, x2, x3⟩ | ⟨x1, -⟩ | ⟨x1, -⟩
        · refine ⟨q3, fun _ => ?_, hR.same hP (SMx.out.tr (sfn x3 (by decide) (by decide))) (by omega)⟩
          rw [x3.1 145 (by decide) (by decide), uI_eq, u1_eq, x2, y2]
        · omega
        · omega
      · rcases h2 with ⟨x1, -⟩ | ⟨x1, x2, x3, x4⟩ | ⟨x1, x2, -⟩
        · omega
        · refine ⟨q3, fun _ => ?_, hR.same hP (((SMx.fc y4 (fun a h _ => by unfold KO at h; unfold sS0; omega) (by unfold sS0; omega)).tr SMx.out).tr (sfn x4 (by decide) (by decide))) (by omega)⟩
          rw [x4.1 145 (by decide) (by decide), uI_eq, u1_eq, x3, y3]
        · omega
      · rcases h2 with ⟨x1, -⟩ | ⟨x1, x2, -⟩ | ⟨x1, x2, x3, x4, x5, x6⟩
        · omega
        · omega
        · have hs : SMx xShr fShr I I2 := ((SMx.fc y7 (fun a h1 hx => by unfold KO at h1; unfold xShr at hx; unfold sSH; omega) (by unfold sSH; omega)).tr SMx.out).tr (SMx.fr x6 (fun a h1 hx hm => by
            unfold KO at h1; unfold xShr at hx; simp at hm; omega) (fun k h1 hx hm => by
            unfold KF at h1; unfold fShr at hx; simp at hm; omega))
          have g2 : ∀ a, a ≤ 90 → I2 a = J a := fun a h => by rw [x6.1 a (by omega) (by simp; omega), uI_ne (by omega)]
          have g85 : ∀ k, k ≠ 7 → I2 85 k = I 85 k := fun k hk => by rw [g2 85 (by decide)]; exact y5 k hk
          refine ⟨q3, fun _ => ?_, t, g, T, hs.qa ha hP (fun a z => by unfold xShr at z; omega) (fun k z => by unfold fShr at z; omega), hs.qb hb (by decide) (by decide), hs.qc hcc (by decide) (by decide) (by decide) (by decide), hs.qd hd (by decide) (by decide) (by decide) (by omega), he.eq (g85 1 (by decide)) (hs.2 61 (by unfold KF; omega) (by decide)) (hs.1 86 (by unfold KO; omega) (by decide)) (fun a a0 a1 => hs.1 a (by unfold KO; omega) (by unfold xShr; omega)), hf.eq (g85 3 (by decide)) (hs.2 66 (by unfold KF; omega) (by decide)) (hs.1 87 (by unfold KO; omega) (by decide)) (hs.1 125 (by unfold KO; omega) (by decide)), hg.eq (g85 5 (by decide)) (hs.2 76 (by unfold KF; omega) (by decide)) (hs.1 88 (by unfold KO; omega) (by decide)) (hs.1 130 (by unfold KO; omega) (by decide)), ?_, hi.eq (g85 9 (by decide)) (hs.2 92 (by unfold KF; omega) (by decide)) (hs.1 90 (by unfold KO; omega) (by decide)) (hs.1 144 (by unfold KO; omega) (by decide))⟩
          · rw [x6.1 145 (by decide) (by decide), uI_eq, u1_eq, x3, y3]
          · exact ⟨by rw [g2 85 (by decide), y4, x4], Or.inr x4, fun _ => by rw [g2 89 (by decide)]; exact y6.tr x5.sy⟩
  · refine ⟨_, c_X12_share (d := 26) hW hT hF hb.1, fun b2 I2 P2 h2 => ?_⟩
    obtain ⟨rfl, h2⟩ := h2
    rcases h2 with ⟨-, q1, rfl⟩ | ⟨q, -⟩
    · exact ⟨by rw [uI_eq, u1_eq], fun z => absurd z (by decide), hR.same (PK.rf hW) (SMx.f0.tr SMx.f0) (by omega)⟩
    · exact absurd q hC
abbrev xOrd : Nat → Prop := fun a => a = 85 ∨ a = 88 ∨ a = 130
abbrev fOrd : Int → Prop := fun k => k = 76
theorem op_order (hR : REL c I P) : OPD G mX11_order mX12_order [] c I P := by
  obtain ⟨t, g, T, ha, hb, hcc, hd, he, hf, hg, hh, hi⟩ := id hR
  obtain ⟨hW, h1t, h1g, hTo, hGo, hne, hM, hT, hF⟩ := id ha
  have r47 := hb.2.rw hb.1
  have es : ordS T (I 98) = ordS T (I 47) := RE.ordf hb.2 hF hb.1 (PM_id _)
  refine ⟨_, c_X11_order (d := 25) hW hM h1t hF r47, fun v I1 P1 h => ?_⟩
  rw [← es] at h
  obtain ⟨hP, hy⟩ := h
  have oJ : ∀ a, 91 ≤ a → I1 a = I a := fun a h => by
    rcases hy with ⟨-, -, q⟩ | ⟨-, -, -, -, -, q⟩
    · rw [q]
    · exact q a (by unfold sOR; omega)
  refine ⟨_, c_X12_order (d := 27) hP.1 (hT.ge oJ) hF (by rw [oJ 98 (by decide)]; exact hb.1), fun b2 I2 P2 h2 => ?_⟩
  rw [oJ 98 (by decide)] at h2
  obtain ⟨rfl, h2⟩ := h2
  rcases hy with ⟨y1, y2, rfl⟩ | ⟨y1, y2, y3, y4, y5, y6⟩
  · rcases h2 with ⟨x1, x2, rfl⟩ | ⟨x1, -⟩
    · exact ⟨by rw [x2, y2], hR.same hP SMx.f0 (by omega)⟩
    · omega
  · rcases h2 with ⟨x1, -⟩ | ⟨x1, x2, x3, x4, x5, x6⟩
    · omega
    · have hs : SMx xOrd fOrd I I2 := (SMx.fc y6 (fun a h1 hx => by unfold KO at h1; unfold xOrd at hx; unfold sOR; omega) (by unfold sOR; omega)).tr (SMx.fr x6 (fun a h1 hx hm => by
        unfold KO at h1; unfold xOrd at hx; simp at hm; omega) (fun k h1 hx hm => by
        unfold KF at h1; unfold fOrd at hx; simp at hm; omega))
      have g2 : ∀ a, a ≤ 90 → I2 a = I1 a := fun a h => x6.1 a (by omega) (by simp; omega)
      have g85 : ∀ k, k ≠ 5 → I2 85 k = I 85 k := fun k hk => by rw [g2 85 (by decide)]; exact y4 k hk
      refine ⟨by rw [x2, y2], t, g, T, hs.qa ha hP (fun a z => by unfold xOrd at z; omega) (fun k z => by unfold fOrd at z; omega), hs.qb hb (by decide) (by decide), hs.qc hcc (by decide) (by decide) (by decide) (by decide), hs.qd hd (by decide) (by decide) (by decide) (by omega), he.eq (g85 1 (by decide)) (hs.2 61 (by unfold KF; omega) (by decide)) (hs.1 86 (by unfold KO; omega) (by decide)) (fun a a0 a1 => hs.1 a (by unfold KO; omega) (by unfold xOrd; omega)), hf.eq (g85 3 (by decide)) (hs.2 66 (by unfold KF; omega) (by decide)) (hs.1 87 (by unfold KO; omega) (by decide)) (hs.1 125 (by unfold KO; omega) (by decide)), ?_, hh.eq (g85 7 (by decide)) (hs.2 89 (by unfold KF; omega) (by decide)) (hs.1 89 (by unfold KO; omega) (by decide)) (hs.1 142 (by unfold KO; omega) (by decide)), hi.eq (g85 9 (by decide)) (hs.2 92 (by unfold KF; omega) (by decide)) (hs.1 90 (by unfold KO; omega) (by decide)) (hs.1 144 (by unfold KO; omega) (by decide))⟩
      refine ⟨by rw [g2 85 (by decide), y3, x4], by rw [x4]; exact x1, fun i i0 i1 => ?_⟩
      rw [x4] at i1
      rw [g2 88 (by decide), y5 i i0 i1, x5 i i0 i1]
abbrev xImg : Nat → Prop := fun a => a = 85 ∨ a = 90 ∨ a = 144
abbrev fImg : Int → Prop := fun k => k = 92
theorem op_image (hR : REL c I P) : OPV G mX11_image mX12_image c I P := by
  obtain ⟨t, g, T, ha, hb, hcc, hd, he, hf, hg, hh, hi⟩ := id hR
  obtain ⟨hW, h1t, h1g, hTo, hGo, hne, hM, hT, hF⟩ := id ha
  refine ⟨_, c_X11_image (d := 29) hW, fun n1 I1 P1 h => ?_⟩
  obtain ⟨rfl, rfl, y1, y2, y3, y4⟩ := h
  refine ⟨rfl, _, c_X12_image (d := 30) hW, fun n2 I2 P2 h2 => ?_⟩
  obtain ⟨rfl, rfl, x1, x2, x3, x4⟩ := h2
  have hs : SMx xImg fImg I I2 := (SMx.fc (S := fun a => a = 85 ∨ a = 90) (fun a h => y1 a (fun e => h (Or.inl e)) (fun e => h (Or.inr e))) (fun a h1 hx => by unfold xImg at hx; omega) (by omega)).tr (SMx.fr x4 (fun a h1 hx hm => by
    unfold KO at h1; unfold xImg at hx; simp at hm; omega) (fun k h1 hx hm => by
    unfold KF at h1; unfold fImg at hx; simp at hm; omega))
  have g2 : ∀ a, a ≤ 90 → I2 a = I1 a := fun a h => x4.1 a (by omega) (by simp; omega)
  have g85 : ∀ k, k ≠ 9 → I2 85 k = I 85 k := fun k hk => by rw [g2 85 (by decide)]; exact y2 k hk
  have e98 : I1 98 = I 98 := y1 98 (by decide) (by decide)
  rw [e98] at x3
  refine ⟨rfl, t, g, T, hs.qa ha (PK.rf hW) (fun a z => by unfold xImg at z; omega) (fun k z => by unfold fImg at z; omega), hs.qb hb (by decide) (by decide), hs.qc hcc (by decide) (by decide) (by decide) (by decide), hs.qd hd (by decide) (by decide) (by decide) (by omega), he.eq (g85 1 (by decide)) (hs.2 61 (by unfold KF; omega) (by decide)) (hs.1 86 (by unfold KO; omega) (by decide)) (fun a a0 a1 => hs.1 a (by unfold KO; omega) (by unfold xImg; omega)), hf.eq (g85 3 (by decide)) (hs.2 66 (by unfold KF; omega) (by decide)) (hs.1 87 (by unfold KO; omega) (by decide)) (hs.1 125 (by unfold KO; omega) (by decide)), hg.eq (g85 5 (by decide)) (hs.2 76 (by unfold KF; omega) (by decide)) (hs.1 88 (by unfold KO; omega) (by decide)) (hs.1 130 (by unfold KO; omega) (by decide)), hh.eq (g85 7 (by decide)) (hs.2 89 (by unfold KF; omega) (by decide)) (hs.1 89 (by unfold KO; omega) (by decide)) (hs.1 142 (by unfold KO; omega) (by decide)), ?_⟩
  exact ⟨by rw [g2 85 (by decide), y3, x2], Or.inr x2, fun _ => ⟨by rw [g2 90 (by decide)]; exact (y4.sy.tr hb.2.sy).tr x3, x3.rw hb.1⟩⟩
theorem op_restore (hR : REL c I P) : OPD G mX11_restore mX12_restore [] c I P := by
  obtain ⟨t, g, T, ha, hb, hcc, hd, he, hf, hg, hh, hi⟩ := id hR
  obtain ⟨hW, h1t, h1g, hTo, hGo, hne, hM, hT, hF⟩ := id ha
  refine ⟨_, c_X11_restore (d := 29) hW, fun v I1 P1 h => ?_⟩
  obtain ⟨rfl, hy⟩ := h
  refine ⟨_, c_X12_restore (d := 30) hW, fun b2 I2 P2 h2 => ?_⟩
  obtain ⟨rfl, h2⟩ := h2
  rcases hy with ⟨y1, y2, rfl⟩ | ⟨y1, y2, y3, y4⟩
  · rcases h2 with ⟨x1, x2, rfl⟩ | ⟨x1, -⟩
    · exact ⟨by rw [x2, y2], hR.same (PK.rf hW) SMx.f0 (by omega)⟩
    · exact absurd (hi.1.symm.trans y1) x1
  · have e9 : I1 91 92 = I 91 92 := by rw [y3 91 (by decide)]
    have e144 : I1 144 = I 144 := y3 144 (by decide)
    rcases h2 with ⟨x1, -⟩ | ⟨x1, x2, x3, x4, x5⟩
    · rw [e9] at x1
      exact absurd (hi.1.trans x1) y1
    · rw [e9] at x1
      rw [e144] at x4
      have h1 : I 91 92 = 1 := hi.2.1.resolve_left x1
      obtain ⟨i1, i2⟩ := hi.2.2 h1
      have hs : SMx xRow nF I I2 := (SMx.fc (S := fun a => a = 47) (fun a h => y3 a h) (fun a _ hx h => hx (Or.inr h)) (by decide)).tr (sfr x5 (by decide) (by decide))
      exact ⟨by rw [x2, y2], rel_row (PK.rf hW) hs ha ⟨x4.rw i2, by rw [x5.1 47 (by decide) (by decide)]; exact (x4.sy.tr i1.sy).tr y4⟩ hcc hd he hf hg hh hi⟩
theorem op_feed {a b v x e : Int} (hR : REL c I P) : OPD G mX11_feed mX12_feed [.inl a, .inl b, .inl v, .inl x, .inl e] c I P := by
  obtain ⟨t, g, T, ha, hb, hcc, hd, he, hf, hg, hh, hi⟩ := id hR
  obtain ⟨hW, h1t, h1g, hTo, hGo, hne, hM, hT, hF⟩ := id ha
  refine ⟨_, c_X11_feed (d := 30) hW hcc.1.1, fun k I1 P1 h => ?_⟩
  obtain ⟨rfl, hy⟩ := h
  have oJ : ∀ a, 91 ≤ a → I1 a = I a := fun a h => by
    rcases hy with ⟨-, -, q⟩ | ⟨-, -, -, q, -⟩
    · rw [q]
    · exact q a (by omega) (by omega)
  refine ⟨_, c_X12_feed (d := 30) hW (by rw [oJ 91 (by decide), hcc.1.2]; exact hcc.1.1), fun b2 I2 P2 h2 => ?_⟩
  rw [oJ 91 (by decide), oJ 100 (by decide), hcc.1.2] at h2
  obtain ⟨rfl, h2⟩ := h2
  rcases hy with ⟨y1, y2, rfl⟩ | ⟨y1, y2, y3, y4, y5⟩
  · rcases h2 with ⟨x1, x2, rfl⟩ | ⟨x1, -⟩
    · exact ⟨by rw [x2, y2], hR.same (PK.rf hW) SMx.f0 (by omega)⟩
    · omega
  · rcases h2 with ⟨x1, -⟩ | ⟨x1, x2, x3, x4, x5, x6⟩
    · omega
    · have hs : SMx (fun a => a = 1 ∨ a = 2 ∨ a = 100) (fun k => k = 17) I I2 := (SMx.fc (S := fun a => a = 1 ∨ a = 2) (fun a h => y4 a (fun e => h (Or.inl e)) (fun e => h (Or.inr e))) (fun a _ hx => by omega) (by omega)).tr (SMx.fr x5 (fun a h1 hx hm => by
        unfold KO at h1; simp at hm; omega) (fun k h1 hx hm => by
        unfold KF at h1; simp at hm; omega))
      have g1 : I2 1 = u1 (I 1) 1 (I 1 1 + 20) := (x5.1 1 (by decide) (by decide)).trans y3
      have g2 : I2 2 = I1 2 := x5.1 2 (by decide) (by decide)
      refine ⟨by rw [x2, y2], t, g, T, hs.qa ha (PK.rf hW) (fun a z => by omega) (fun k z => by omega), hs.qb hb (by omega) (by omega), ?_, hd.eq (fun k k0 k1 => by rw [g1, u1_ne (by omega)]) (hs.1 99 (by unfold KO; omega) (by omega)) (hs.2 19 (by unfold KF; omega) (by omega)) (by omega), hs.qe he (by omega) (by omega) (by omega) (fun a a0 a1 => by omega), hs.qf hf (by omega) (by omega) (by omega) (by omega), hs.qg hg (by omega) (by omega) (by omega) (by omega), hs.qh hh (by omega) (by omega) (by omega) (by omega), hs.qi hi (by omega) (by omega) (by omega) (by omega)⟩
      refine ⟨⟨by rw [g1, u1_eq]; have := hcc.1.1; omega, by rw [x4, g1, u1_eq]⟩, fun q q0 q1 => ?_⟩
      rw [g1, u1_eq] at q1
      rw [x6 q q0 (by omega), g2, y5 q]
      by_cases z : I 1 1 ≤ q ∧ q < I 1 1 + 20
      · rw [if_pos z, if_pos z]
        have b1 := bcS_bd (if q - I 1 1 < 4 then a else if q - I 1 1 < 8 then b else if q - I 1 1 < 12 then v else if q - I 1 1 < 16 then x else e) (24 - 8 * ((q - I 1 1) % 4))
        exact ⟨byS_bd _ _, fdC_by, b1.1, b1.2⟩
      · rw [if_neg z, if_neg z]
        exact hcc.2 q q0 (by omega)
theorem op_town {n : Int} (hR : REL c I P) (hc : c ≤ 1000) : OPX G mL_town mX12_town [.inl n] (fun b => b) c I P := by
  obtain ⟨t, g, T, ha, hb, hcc, hd, he, hf, hg, hh, hi⟩ := id hR
  obtain ⟨hW, h1t, h1g, hTo, hGo, hne, hM, hT, hF⟩ := id ha
  have ht1 := hTo.1
  have hg1 := hGo.1
  have h99 : 0 ≤ I 99 0 ∧ I 99 0 ≤ 100000 := ⟨hd.2.2.2.2.1, by have := hd.2.2.2.2.2; omega⟩
  have hS : (0 ≤ n ∧ n ≤ I 1 1) → tkS (I 2) n = tkS (I 100) n := fun hn => SBy.tk (fun q q0 q1 => by have := hcc.2 q q0 (by omega); omega) hn.1
  refine ⟨_, c_L_town (d := 30) (c_X11_town (d := 20) hW h1t h1g hTo hGo hne hcc.1.1 (by rw [hd.2.1]; exact h99)) (fun E J R h => h.2.2), fun k I1 P1 h => ?_⟩
  rcases h with ⟨rfl, v, J, ⟨hC, hy⟩, rfl⟩ | ⟨rfl, E, ⟨rfl, rfl⟩, hC, -⟩
  · rw [hS hC] at hy
    obtain ⟨Z, hZ⟩ : ∃ Z, Z = parR (tkS (I 100) n) := ⟨_, rfl⟩
    rw [← hZ] at hy
    have oJ : ∀ a, 91 ≤ a → J a = I a := fun a h => by
      rcases hy with ⟨-, -, -, -, q⟩ | ⟨-, -, -, -, -, -, -, q⟩
      · exact q a (by unfold sTE sD; omega)
      · exact q a (by unfold sTW sD; omega)
    have e : ∀ a, 91 ≤ a → a ≠ 145 → uI J 145 0 v a = I a := fun a h1 h2 => by rw [uI_ne h2]; exact oJ a h1
    have hWP1 : WP P1 := by rcases hy with ⟨-, -, q, -⟩ | ⟨-, -, q, -⟩; exact q.1; exact q.1
    refine ⟨_, c_X12_town (d := 25) (n := n) hWP1 (by rw [e 91 (by decide) (by decide), hcc.1.2]; exact hcc.1.1) (by rw [e 91 (by decide) (by decide), e 100 (by decide) (by decide), hcc.1.2]; exact fun q q0 q1 => (hcc.2 q q0 q1).1) (by rw [e 99 (by decide) (by decide)]; exact h99), fun b2 I2 P2 h2 => ?_⟩
    rw [e 91 (by decide) (by decide), e 100 (by decide) (by decide), e 99 (by decide) (by decide), hcc.1.2, ← hZ] at h2
    obtain ⟨rfl, h2⟩ := h2
    rcases h2 with ⟨q, -⟩ | ⟨-, q3, q17, h2⟩
    · exact absurd hC q
    · rcases hy with ⟨y1, y2, hP, y4, y5⟩ | ⟨y1, y2, ⟨y3, y4, y5, y6, y7⟩, ⟨z1, z2, z3⟩, y8, y9, y10, y11⟩
      · rcases h2 with ⟨x1, x2, x3, x4, x5⟩ | ⟨x1, -⟩
        · have g1 : I2 1 = J 1 := by rw [x5.1 1 (by decide) (by decide), uI_ne (by decide)]
          have ee : ∀ a, KO a → a ≠ 1 → a ≠ 99 → ¬ (g ≤ a ∧ a ≤ g + 18) → I2 a = I a := fun a h1 h2 h3 h4 => by
            unfold KO at h1
            rw [x5.1 a (by omega) (by simp; omega), uI_ne (by omega)]
            exact y5 a (by unfold sTE sD; omega)
          have ef : ∀ k, KF k → k ≠ 17 → k ≠ 19 → ((1 ≤ k ∧ k ≤ 7) → True) → I2 91 k = I 91 k := fun k h1 h2 h3 _ => by
            unfold KF at h1
            rw [x5.2 k (by simp; omega), e 91 (by decide) (by decide)]
          refine ⟨q3, fun _ => ?_, t, g, T, ⟨hP.1, by rw [hP.2.1]; exact h1t, by rw [hP.2.1]; exact h1g, hTo, hGo, hne, hM.own hP.2.2 (fun a a0 a1 => ee a (by unfold KO; omega) (by omega) (by omega) (by omega)), ?_, hF⟩, ⟨by rw [ee 98 (by unfold KO; omega) (by decide) (by decide) (by omega)]; exact hb.1, by rw [ee 98 (by unfold KO; omega) (by decide) (by decide) (by omega), ee 47 (by unfold KO; omega) (by decide) (by decide) (by omega)]; exact hb.2⟩, ?_, ?_, he.eq (by rw [ee 85 (by unfold KO; omega) (by decide) (by decide) (by omega)]) (ef 61 (by unfold KF; omega) (by decide) (by decide) (fun _ => trivial)) (ee 86 (by unfold KO; omega) (by decide) (by decide) (by omega)) (fun a a0 a1 => ee a (by unfold KO; omega) (by omega) (by omega) (by omega)), hf.eq (by rw [ee 85 (by unfold KO; omega) (by decide) (by decide) (by omega)]) (ef 66 (by unfold KF; omega) (by decide) (by decide) (fun _ => trivial)) (ee 87 (by unfold KO; omega) (by decide) (by decide) (by omega)) (ee 125 (by unfold KO; omega) (by decide) (by decide) (by omega)), hg.eq (by rw [ee 85 (by unfold KO; omega) (by decide) (by decide) (by omega)]) (ef 76 (by unfold KF; omega) (by decide) (by decide) (fun _ => trivial)) (ee 88 (by unfold KO; omega) (by decide) (by decide) (by omega)) (ee 130 (by unfold KO; omega) (by decide) (by decide) (by omega)), hh.eq (by rw [ee 85 (by unfold KO; omega) (by decide) (by decide) (by omega)]) (ef 89 (by unfold KF; omega) (by decide) (by decide) (fun _ => trivial)) (ee 89 (by unfold KO; omega) (by decide) (by decide) (by omega)) (ee 142 (by unfold KO; omega) (by decide) (by decide) (by omega)), hi.eq (by rw [ee 85 (by unfold KO; omega) (by decide) (by decide) (by omega)]) (ef 92 (by unfold KF; omega) (by decide) (by decide) (fun _ => trivial)) (ee 90 (by unfold KO; omega) (by decide) (by decide) (by omega)) (ee 144 (by unfold KO; omega) (by decide) (by decide) (by omega))⟩
          · rw [x5.1 145 (by decide) (by decide), uI_eq, u1_eq, x2, y2]
          · exact ⟨fun k k0 k1 => (ef k (by unfold KF; omega) (by omega) (by omega) (fun _ => trivial)).trans (hT.1 k k0 k1), (ee 92 (by unfold KO; omega) (by decide) (by decide) (by omega)).trans hT.2.1, (ee 93 (by unfold KO; omega) (by decide) (by decide) (by omega)).trans hT.2.2.1, (ee 94 (by unfold KO; omega) (by decide) (by decide) (by omega)).trans hT.2.2.2.1, (ee 95 (by unfold KO; omega) (by decide) (by decide) (by omega)).trans hT.2.2.2.2.1, (ee 96 (by unfold KO; omega) (by decide) (by decide) (by omega)).trans hT.2.2.2.2.2.1, (ee 97 (by unfold KO; omega) (by decide) (by decide) (by omega)).trans hT.2.2.2.2.2.2⟩
          · have j11 : I2 1 1 = 0 := by rw [g1, y4, u1_ne (by decide), u1_ne (by decide), u1_eq]
            refine ⟨⟨by rw [j11]; decide, by rw [q17, j11]⟩, fun q q0 q1 => by rw [j11] at q1; omega⟩
          · obtain ⟨d1, d2, d3, d4, d5, d6⟩ := hd
            have e14 : I2 1 4 = Z.2.1 := by rw [g1, y4, u1_ne (by decide), u1_eq]
            have e15 : I2 1 5 = I 1 5 + 1 := by rw [g1, y4, u1_eq]
            have e16 : I2 1 6 = I 1 6 := by rw [g1, y4, u1_ne (by decide), u1_ne (by decide), u1_ne (by decide)]
            have e17 : I2 1 7 = I 1 7 := by rw [g1, y4, u1_ne (by decide), u1_ne (by decide), u1_ne (by decide)]
            have f0 : I2 99 0 = I 99 0 + 1 := by rw [x4, u1_eq]
            have f1 : I2 99 1 = I 99 1 := by rw [x4, u1_ne (by decide)]
            have f2 : I2 99 2 = I 99 2 := by rw [x4, u1_ne (by decide)]
            unfold RSd
            rw [e14, e15, e16, e17, f0, f1, f2, x3]
            exact ⟨rfl, by omega, d3, d4, by omega, by omega⟩
        · exact absurd (y2.trans x1) y1
      · rcases h2 with ⟨x1, -⟩ | ⟨x1, x2, x3, x4, x61, x66, x76, x89, x92, x99, xF⟩
        · exact absurd y2 x1
        · have e2 : ∀ a, a ≤ 90 → I2 a = J a := fun a h => by rw [xF.1 a (by omega) (by simp; omega), uI_ne (by omega)]
          have e100 : I2 100 = I 100 := (xF.1 100 (by decide) (by decide)).trans (e 100 (by decide) (by decide))
          have hCR : CR I2 g Z.2.2.2 0 := z2.eq (fun a a0 a1 => e2 a (by omega)) (by rw [e2 41 (by decide)])
          have hCL : CL I2 (g + 13) Z.2.2.2 := by
            unfold CL CLo at z3 ⊢
            rw [e2 (g + 13) (by omega), e2 (g + 13 + 1) (by omega), e2 (g + 13 + 2) (by omega), e2 (g + 13 + 3) (by omega), e2 (g + 13 + 4) (by omega), e2 (g + 13 + 5) (by omega)]
            exact z3
          have hZ7 : Z7 0 Z.2.2.2 := by rw [hZ]; exact par_z (by rw [← hZ]; exact x1)
          have hFN : WF (rdT I2) := x4.wf z1.wf
          have hrow : ∀ q, 0 ≤ q → q < 48 → I2 98 q = I2 47 q := fun q q0 q1 => by
            rw [x4.2.2.2.2.2.2 q q0 q1, e2 47 (by decide), y8 q q0 q1, (z2.2.2.1 q q0 q1).2]
            split
            · rfl
            · exact ((z2.2.2.2.2.2.2.2.1.1 q (by omega) q1).2).symm
          refine ⟨q3, fun _ => ?_, g, t, rdT I2, ⟨y3, y4, y5, hGo, hTo, Ne.symm hne, ⟨isM46, hGo, ⟨by omega, by have := hGo.2; show g + 13 + 5 ≤ NO; unfold NO; omega⟩, y6, y7, x4.ca hCR z1, x4.cl hCL⟩, rd_MT I2, hFN⟩, ⟨row_of z1 hZ7 x4.k x4.k x4.2.2.2.2.2.2, hrow⟩, ?_, ?_, ?_, ?_, ?_, ?_, ?_⟩
          · rw [xF.1 145 (by decide) (by decide), uI_eq, u1_eq, x2, y1]
          · have j11 : I2 1 1 = 0 := by rw [e2 1 (by decide), y9, u1_ne (by decide), u1_eq]
            refine ⟨⟨by rw [j11]; decide, by rw [q17, j11]⟩, fun q q0 q1 => by rw [j11] at q1; omega⟩
          · obtain ⟨d1, d2, d3, d4, d5, d6⟩ := hd
            have g4 : I2 1 4 = -1 := by rw [e2 1 (by decide), y9, u1_eq]
            have gk : ∀ k, 5 ≤ k → I2 1 k = I 1 k := fun k hk => by rw [e2 1 (by decide), y9, u1_ne (by omega), u1_ne (by omega)]
            unfold RSd
            rw [g4, gk 5 (by decide), gk 6 (by decide), gk 7 (by decide), x99, x3]
            exact ⟨rfl, d2, d3, d4, d5, by omega⟩
          · refine ⟨by rw [e2 85 (by decide), y10.1, x61], by rw [x61]; decide, fun i i0 i1 => by rw [x61] at i1; omega⟩
          · refine ⟨by rw [e2 85 (by decide), y10.2.1, x66], Or.inl x66, fun z => by rw [x66] at z; exact absurd z (by decide)⟩
          · refine ⟨by rw [e2 85 (by decide), y10.2.2.1, x76], by rw [x76]; decide, fun i i0 i1 => by rw [x76] at i1; omega⟩
          · refine ⟨by rw [e2 85 (by decide), y10.2.2.2.1, x89], Or.inl x89, fun z => by rw [x89] at z; exact absurd z (by decide)⟩
          · refine ⟨by rw [e2 85 (by decide), y10.2.2.2.2, x92], Or.inl x92, fun z => by rw [x92] at z; exact absurd z (by decide)⟩
  · refine ⟨_, c_X12_town (d := 25) (n := n) hW (by rw [hcc.1.2]; exact hcc.1.1) (by rw [hcc.1.2]; exact fun q q0 q1 => (hcc.2 q q0 q1).1) h99, fun b2 I2 P2 h2 => ?_⟩
    rw [hcc.1.2] at h2
    obtain ⟨rfl, h2⟩ := h2
    rcases h2 with ⟨-, q1, rfl⟩ | ⟨q, -⟩
    · exact ⟨by rw [uI_eq, u1_eq], fun z => absurd z (by decide), hR.same (PK.rf hW) (SMx.f0.tr SMx.f0) (by omega)⟩
    · exact absurd q hC
end
