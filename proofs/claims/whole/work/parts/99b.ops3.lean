/-! ===== each call, of both: trades and ties, ways, bags, orders, shares, images, the tape ===== -/
section
variable {G : HX} {c : Int} {I K : Mem} {P R : Ptr} {t g : Nat} {T : Tn}
theorem op_trade {a b v z : Int} (hR : REL c I P) : OPX G mL_trade mX12_trade [.inl a, .inl b, .inl v, .inl z] (fun b => if b = 0 then 0 else 1) c I P := by
  obtain ⟨t, g, T, ha, hb, hcc, hd, he, hf, hg, hh, hi⟩ := id hR
  obtain ⟨hW, h1t, h1g, hTo, hGo, hne, hM, hT, hF⟩ := id ha
  have r47 := hb.2.rw hb.1
  have hlw : trOK T a b v z → (lawP T (I 98) a b (dgS (T 0 3) v) z ↔ lawP T (I 47) a b (dgS (T 0 3) v) z) := fun ok => hb.2.law hF ok.1 ok.2.1 ok.2.2.2.1 (ok.2.2.2.2.g hF)
  refine ⟨_, c_L_trade (d := 30) (c_X11_trade (d := 22) hW hM h1t hF r47) (fun E J R h => h.2.2), fun k I1 P1 h => ?_⟩
  rcases h with ⟨rfl, y, J, ⟨rfl, hy⟩, rfl⟩ | ⟨rfl, E, ⟨rfl, rfl⟩, hC, -⟩
  · rcases hy with ⟨ok, hl, rfl, hJ, hre⟩ | ⟨ok, hl, rfl, hJ⟩
    · have oJ : ∀ a, a ≠ 47 → J a = I a := fun a h => by rw [hJ, uA_ne h]
      have e : ∀ a, 91 ≤ a → a ≠ 145 → uI J 145 0 (if (1 : Int) = 0 then 0 else 1) a = I a := fun a h1 h2 => by rw [uI_ne h2]; exact oJ a (by omega)
      have hT1 : MT (uI J 145 0 (if (1 : Int) = 0 then 0 else 1)) T := ((hT.ge (fun a h => oJ a (by omega))).o (fun a h => uI_ne h))
      refine ⟨_, c_X12_trade (d := 29) hW hT1 hF (by rw [e 98 (by decide) (by decide)]; exact hb.1), fun b2 I2 P2 h2 => ?_⟩
      rw [e 98 (by decide) (by decide)] at h2
      obtain ⟨rfl, h2, q4⟩ := h2
      rcases h2 with ⟨q, -⟩ | ⟨-, -, q1, q3, q2, q5⟩ | ⟨-, q, -⟩
      · exact absurd ok q
      · have q4' : Fr [98, 111] [0] (uI J 145 0 (if (1 : Int) = 0 then 0 else 1)) I2 := ⟨fun a h1 h2 => by
          by_cases e9 : a = 99
          · rw [e9]; exact q5
          · exact q4.1 a h1 (by simp at h2 ⊢; omega), q4.2⟩
        have hs : SMx xRow nF I I2 := ((SMx.fc (S := fun a => a = 47) (fun a h => oJ a h) (fun a _ hx h => hx (Or.inr h)) (by decide)).tr SMx.out).tr (sfr q4' (by decide) (by decide))
        refine ⟨q3, fun _ => ?_, rel_row (PK.rf hW) hs ha ⟨?_, ?_⟩ hcc hd he hf hg hh hi⟩
        · rw [q4.1 145 (by decide) (by decide), uI_eq, u1_eq, q1]
        · rw [q2]; exact deal_RW hF hb.1 ok.1 ok.2.1 ok.2.2.1 ok.2.2.2.1 (fun k h0 h1 => (ok.2.2.2.2.2.2 k h0 h1).1) ((hlw ok).mpr hl)
        · rw [q2, q4.1 47 (by decide) (by decide), uI_ne (by decide)]; exact (RE.deal hb.2).tr hre
      · exact absurd ((hlw ok).mpr hl) q
    · have oJ : ∀ a, a ≠ 1 → J a = I a := fun a h => by rw [hJ, uI_ne h]
      have e : ∀ a, 91 ≤ a → a ≠ 145 → uI J 145 0 (if (0 : Int) = 0 then 0 else 1) a = I a := fun a h1 h2 => by rw [uI_ne h2]; exact oJ a (by omega)
      have hT1 : MT (uI J 145 0 (if (0 : Int) = 0 then 0 else 1)) T := ((hT.ge (fun a h => oJ a (by omega))).o (fun a h => uI_ne h))
      refine ⟨_, c_X12_trade (d := 29) hW hT1 hF (by rw [e 98 (by decide) (by decide)]; exact hb.1), fun b2 I2 P2 h2 => ?_⟩
      rw [e 98 (by decide) (by decide), e 99 (by decide) (by decide)] at h2
      obtain ⟨rfl, h2, q4⟩ := h2
      rcases h2 with ⟨q, -⟩ | ⟨-, q, -⟩ | ⟨-, -, q1, q3, q2, q5⟩
      · exact absurd ok q
      · exact absurd ((hlw ok).mp q) hl
      · have e1 : I2 1 = u1 (I 1) 6 (wr (I 1 6 + 1)) := by rw [q4.1 1 (by decide) (by decide), uI_ne (by decide), hJ, uI_eq]
        have hs : SMx (fun a => a = 1 ∨ a = 99) nF I I2 := by
          refine ⟨fun a h1 hx => ?_, fun k h1 _ => ?_⟩
          · by_cases e8 : a = 98
            · rw [e8, q2]
            · unfold KO at h1
              rw [q4.1 a (by omega) (by simp; omega), uI_ne (by omega)]
              exact oJ a (fun z => hx (Or.inl z))
          · unfold KF at h1
            rw [q4.2 k (by simp; omega), uI_ne (by decide), oJ 91 (by decide)]
        have n : ¬ False := fun z => z
        refine ⟨q3, fun _ => ?_, t, g, T, hs.qa ha (PK.rf hW) (fun a z => by omega) (fun _ z => z.elim), hs.qb hb (by decide) (by decide), hcc.eq (by rw [e1, u1_ne (by decide)]) (hs.1 2 (by unfold KO; omega) (by decide)) (hs.1 100 (by unfold KO; omega) (by decide)) (hs.2 17 (by unfold KF; omega) n), ?_, hs.qe he (by decide) n (by decide) (fun a a0 a1 => by omega), hs.qf hf (by decide) n (by decide) (by decide), hs.qg hg (by decide) n (by decide) (by decide), hs.qh hh (by decide) n (by decide) (by decide), hs.qi hi (by decide) n (by decide) (by decide)⟩
        · rw [q4.1 145 (by decide) (by decide), uI_eq, u1_eq, q1]
        · obtain ⟨d1, d2, d3, d4, d5, d6⟩ := hd
          unfold RSd
          rw [e1, q5, hs.2 19 (by unfold KF; omega) n, u1_ne (by decide), u1_ne (by decide), u1_ne (by decide), u1_eq, u1_eq, u1_ne (by decide), u1_ne (by decide), d3]
          exact ⟨d1, d2, rfl, d4, d5, by omega⟩
  · refine ⟨_, c_X12_trade (d := 29) hW hT hF hb.1, fun b2 I2 P2 h2 => ?_⟩
    obtain ⟨rfl, h2, q4⟩ := h2
    rcases h2 with ⟨-, q1, q3, q2, q5⟩ | ⟨q, -⟩ | ⟨q, -⟩
    · have hs : SMx nX nF I1 I2 := ⟨fun a h1 _ => by
        by_cases e8 : a = 98
        · rw [e8, q2]
        · by_cases e9 : a = 99
          · rw [e9, q5]
          · unfold KO at h1
            exact q4.1 a (by omega) (by simp; omega), fun k h1 _ => q4.2 k (by unfold KF at h1; simp; omega)⟩
      exact ⟨q3, fun z => absurd z (by decide), hR.same (PK.rf hW) hs (by omega)⟩
    · exact absurd q hC
    · exact absurd q hC
theorem op_tie {p y : Int} (hR : REL c I P) : OPX G mL_tie mX12_tie [.inl p, .inl y] (fun b => if b = 0 then 0 else 1) c I P := by
  obtain ⟨t, g, T, ha, hb, hcc, hd, he, hf, hg, hh, hi⟩ := id hR
  obtain ⟨hW, h1t, h1g, hTo, hGo, hne, hM, hT, hF⟩ := id ha
  have r47 := hb.2.rw hb.1
  have hlw : ((0 ≤ p ∧ p < T 0 1) ∧ 0 ≤ y ∧ y < T 0 5) → (tieP T (I 98) p y ↔ tieP T (I 47) p y) := fun ok => hb.2.tie hF ok.1 ok.2
  refine ⟨_, c_L_tie (d := 30) (c_X11_tie (d := 22) hW hM h1t hF r47) (fun E J R h => h.2.2), fun k I1 P1 h => ?_⟩
  rcases h with ⟨rfl, x, J, ⟨rfl, ok, hy⟩, rfl⟩ | ⟨rfl, E, ⟨rfl, rfl⟩, hC, -⟩
  · rcases hy with ⟨hl, rfl, hJ, hre⟩ | ⟨hl, rfl, hJ⟩
    · have oJ : ∀ a, a ≠ 47 → J a = I a := fun a h => by rw [hJ, uA_ne h]
      have e : ∀ a, 91 ≤ a → a ≠ 145 → uI J 145 0 (if (1 : Int) = 0 then 0 else 1) a = I a := fun a h1 h2 => by rw [uI_ne h2]; exact oJ a (by omega)
      have hT1 : MT (uI J 145 0 (if (1 : Int) = 0 then 0 else 1)) T := ((hT.ge (fun a h => oJ a (by omega))).o (fun a h => uI_ne h))
      refine ⟨_, c_X12_tie (d := 29) hW hT1 hF (by rw [e 98 (by decide) (by decide)]; exact hb.1), fun b2 I2 P2 h2 => ?_⟩
      rw [e 98 (by decide) (by decide)] at h2
      obtain ⟨rfl, h2, q4⟩ := h2
      rcases h2 with ⟨q, -⟩ | ⟨-, -, q1, q3, q2, q5⟩ | ⟨-, q, -⟩
      · exact absurd ok q
      · have q4' : Fr [98] [0] (uI J 145 0 (if (1 : Int) = 0 then 0 else 1)) I2 := ⟨fun a h1 h2 => by
          by_cases e9 : a = 99
          · rw [e9]; exact q5
          · exact q4.1 a h1 (by simp at h2 ⊢; omega), q4.2⟩
        have hs : SMx xRow nF I I2 := ((SMx.fc (S := fun a => a = 47) (fun a h => oJ a h) (fun a _ hx h => hx (Or.inr h)) (by decide)).tr SMx.out).tr (sfr q4' (by decide) (by decide))
        refine ⟨q3, fun _ => ?_, rel_row (PK.rf hW) hs ha ⟨?_, ?_⟩ hcc hd he hf hg hh hi⟩
        · rw [q4.1 145 (by decide) (by decide), uI_eq, u1_eq, q1]
        · rw [q2]; exact knot_RW hF hb.1 ok.1 ok.2 ((hlw ok).mpr hl)
        · rw [q2, q4.1 47 (by decide) (by decide), uI_ne (by decide)]; exact (RE.knot hb.2).tr hre
      · exact absurd ((hlw ok).mpr hl) q
    · have oJ : ∀ a, a ≠ 1 → J a = I a := fun a h => by rw [hJ, uI_ne h]
      have e : ∀ a, 91 ≤ a → a ≠ 145 → uI J 145 0 (if (0 : Int) = 0 then 0 else 1) a = I a := fun a h1 h2 => by rw [uI_ne h2]; exact oJ a (by omega)
      have hT1 : MT (uI J 145 0 (if (0 : Int) = 0 then 0 else 1)) T := ((hT.ge (fun a h => oJ a (by omega))).o (fun a h => uI_ne h))
      refine ⟨_, c_X12_tie (d := 29) hW hT1 hF (by rw [e 98 (by decide) (by decide)]; exact hb.1), fun b2 I2 P2 h2 => ?_⟩
      rw [e 98 (by decide) (by decide), e 99 (by decide) (by decide)] at h2
      obtain ⟨rfl, h2, q4⟩ := h2
      rcases h2 with ⟨q, -⟩ | ⟨-, q, -⟩ | ⟨-, -, q1, q3, q2, q5⟩
      · exact absurd ok q
      · exact absurd ((hlw ok).mp q) hl
      · have e1 : I2 1 = u1 (I 1) 7 (wr (I 1 7 + 1)) := by rw [q4.1 1 (by decide) (by decide), uI_ne (by decide), hJ, uI_eq]
        have hs : SMx (fun a => a = 1 ∨ a = 99) nF I I2 := by
          refine ⟨fun a h1 hx => ?_, fun k h1 _ => ?_⟩
          · by_cases e8 : a = 98
            · rw [e8, q2]
            · unfold KO at h1
              rw [q4.1 a (by omega) (by simp; omega), uI_ne (by omega)]
              exact oJ a (fun z => hx (Or.inl z))
          · unfold KF at h1
            rw [q4.2 k (by simp; omega), uI_ne (by decide), oJ 91 (by decide)]
        have n : ¬ False := fun z => z
        refine ⟨q3, fun _ => ?_, t, g, T, hs.qa ha (PK.rf hW) (fun a z => by omega) (fun _ z => z.elim), hs.qb hb (by decide) (by decide), hcc.eq (by rw [e1, u1_ne (by decide)]) (hs.1 2 (by unfold KO; omega) (by decide)) (hs.1 100 (by unfold KO; omega) (by decide)) (hs.2 17 (by unfold KF; omega) n), ?_, hs.qe he (by decide) n (by decide) (fun a a0 a1 => by omega), hs.qf hf (by decide) n (by decide) (by decide), hs.qg hg (by decide) n (by decide) (by decide), hs.qh hh (by decide) n (by decide) (by decide), hs.qi hi (by decide) n (by decide) (by decide)⟩
        · rw [q4.1 145 (by decide) (by decide), uI_eq, u1_eq, q1]
        · obtain ⟨d1, d2, d3, d4, d5, d6⟩ := hd
          unfold RSd
          rw [e1, q5, hs.2 19 (by unfold KF; omega) n, u1_ne (by decide), u1_ne (by decide), u1_ne (by decide), u1_eq, u1_ne (by decide), u1_ne (by decide), u1_eq, d4]
          exact ⟨d1, d2, d3, rfl, d5, by omega⟩
  · refine ⟨_, c_X12_tie (d := 29) hW hT hF hb.1, fun b2 I2 P2 h2 => ?_⟩
    obtain ⟨rfl, h2, q4⟩ := h2
    rcases h2 with ⟨-, q1, q3, q2, q5⟩ | ⟨q, -⟩ | ⟨q, -⟩
    · have hs : SMx nX nF I1 I2 := ⟨fun a h1 _ => by
        by_cases e8 : a = 98
        · rw [e8, q2]
        · by_cases e9 : a = 99
          · rw [e9, q5]
          · unfold KO at h1
            exact q4.1 a (by omega) (by simp; omega), fun k h1 _ => q4.2 k (by unfold KF at h1; simp; omega)⟩
      exact ⟨q3, fun z => absurd z (by decide), hR.same (PK.rf hW) hs (by omega)⟩
    · exact absurd q hC
    · exact absurd q hC
/-- the same depth, by the same steps -/
theorem dp_one {x y : Sx} {s n m : Int} (h : XE x y) (h1 : dpX x s n) (h2 : dpX y s m) : n = m := by
  unfold dpX at h1 h2
  rw [← h.up, ← h.2.2.1] at h2
  rcases Int.lt_trichotomy n m with q | q | q
  · exact absurd h1.2.1 (h2.2.2 n h1.1 q)
  · exact q
  · exact absurd h2.2.1 (h1.2.2 m h2.1 q)
theorem way_ok {T : Tn} {x : Sx} {m s n i : Int} (hx : XOK T m x) (hH : HOK T x) (hs : 0 ≤ s ∧ s < x.1) (hd : dpX x s n) (hi : 0 ≤ i ∧ i < n) : okH T (howX x (upX x (n - 1 - i) s)) := by
  have hn := hd.2.2 (n - 1 - i) (by omega) (by omega)
  have hb := upX_bd hx hs (n := n - 1 - i) (by omega) (fun k k0 k1 => hd.2.2 k k0 (by omega))
  have h0 : upX x (n - 1 - i) s ≠ 0 := fun e => hn (by rw [e]; exact hx.2.2.1)
  exact hH _ (by omega) hb.1.2
abbrev xWay : Nat → Prop := fun a => a = 85 ∨ a = 86 ∨ (121 ≤ a ∧ a ≤ 124)
abbrev fWay : Int → Prop := fun k => k = 61
theorem rel_way (hP : PK P R) (hs : SMx xWay fWay I K) (h85 : ∀ k, k ≠ 1 → K 85 k = I 85 k) (ha : RSa I P t g T) (hb : RSb I T) (hcc : RSc I) (hd : RSd c I) (he : RSe K T) (hf : RSf I T) (hg : RSg I) (hh : RSh I) (hi : RSi I T) : REL (c + 1) K R :=
  ⟨t, g, T, hs.qa ha hP (fun a z => by unfold xWay at z; omega) (fun k z => by unfold fWay at z; omega), hs.qb hb (by decide) (by decide), hs.qc hcc (by decide) (by decide) (by decide) (by decide), hs.qd hd (by decide) (by decide) (by decide) (by omega), he, hf.eq (h85 3 (by decide)) (hs.2 66 (by unfold KF; omega) (by decide)) (hs.1 87 (by unfold KO; omega) (by decide)) (hs.1 125 (by unfold KO; omega) (by decide)), hg.eq (h85 5 (by decide)) (hs.2 76 (by unfold KF; omega) (by decide)) (hs.1 88 (by unfold KO; omega) (by decide)) (hs.1 130 (by unfold KO; omega) (by decide)), hh.eq (h85 7 (by decide)) (hs.2 89 (by unfold KF; omega) (by decide)) (hs.1 89 (by unfold KO; omega) (by decide)) (hs.1 142 (by unfold KO; omega) (by decide)), hi.eq (h85 9 (by decide)) (hs.2 92 (by unfold KF; omega) (by decide)) (hs.1 90 (by unfold KO; omega) (by decide)) (hs.1 144 (by unfold KO; omega) (by decide))⟩
theorem sY_no : ∀ a, KO a → ¬ sY a := fun a h => by unfold KO at h; unfold sY; omega
theorem sY_91 : ∀ a, 91 ≤ a → ¬ sY a := fun a h => by unfold sY; omega
theorem op_come {p s : Int} (hR : REL c I P) : OPX G mL_come mX12_come [.inl p, .inl s] (fun b => b) c I P := by
  obtain ⟨t, g, T, ha, hb, hcc, hd, he, hf, hg, hh, hi⟩ := id hR
  obtain ⟨hW, h1t, h1g, hTo, hGo, hne, hM, hT, hF⟩ := id ha
  have r47 := hb.2.rw hb.1
  have f1 := hF.1
  have f2 := hF.2.1
  obtain ⟨X, eX⟩ : ∃ X, X = goX T p (8 * p + s) 1000 (I 47) := ⟨_, rfl⟩
  obtain ⟨Z, eZ⟩ : ∃ Z, Z = goX T p (8 * p + s) 1000 (I 98) := ⟨_, rfl⟩
  have hXE : okPS T p s → XE Z X := fun ok => by rw [eX, eZ]; exact XE.go hF hb.2 (fun _ => by unfold okPS at ok; omega)
  have hXO : XOK T 1000 X := by rw [eX]; exact goN_ok hF r47 (by decide)
  have hH : HOK T X := by rw [eX]; exact HOK.go hF
  refine ⟨_, c_L_come (d := 30) (c_X11_come (d := 22) hW hM h1t hF r47) (fun E J R h => h.2.2), fun k I1 P1 h => ?_⟩
  rw [← eX] at h
  rcases h with ⟨rfl, v, J, ⟨⟨hP, hC⟩, hy⟩, rfl⟩ | ⟨rfl, E, ⟨rfl, rfl⟩, hC, -⟩
  · have hXZ := hXE hC
    have oJ : ∀ a, 91 ≤ a → J a = I a := fun a h => by
      rcases hy with ⟨-, -, q⟩ | ⟨-, -, -, -, -, -, -, -, q⟩
      · exact q a (sY_91 a h)
      · exact q a (by unfold sYW sY; omega)
    have e : ∀ a, 91 ≤ a → a ≠ 145 → uI J 145 0 v a = I a := fun a h1 h2 => by rw [uI_ne h2]; exact oJ a h1
    have hT1 : MT (uI J 145 0 v) T := ((hT.ge oJ).o (fun a h => uI_ne h))
    refine ⟨_, c_X12_come (d := 27) hP.1 hT1 hF (by rw [e 98 (by decide) (by decide)]; exact hb.1), fun b2 I2 P2 h2 => ?_⟩
    rw [e 98 (by decide) (by decide), ← eZ] at h2
    obtain ⟨rfl, h2⟩ := h2
    rcases h2 with ⟨q, -⟩ | ⟨-, q3, h2⟩
    · exact absurd hC q
    · rw [hXZ.2.2.2.2, hXZ.2.2.2.1] at h2
      rcases hy with ⟨y0, y1, y2⟩ | ⟨y0, y1, y2, y3, y4, y5, y6, y7, y8⟩
      · rcases h2 with ⟨x0, x1, x2⟩ | ⟨x0, x1, x2, -⟩
        · refine ⟨q3, fun _ => ?_, hR.same hP (((SMx.fc y2 (fun a h _ => sY_no a h) (sY_91 91 (Nat.le_refl _))).tr SMx.out).tr (sfn x2 (by decide) (by decide))) (by omega)⟩
          rw [x2.1 145 (by decide) (by decide), uI_eq, u1_eq, x1, y1]
        · rw [if_neg (fun z => z x1)] at y1
          have := hXO.2.2.2.2.1
          omega
      · rcases h2 with ⟨x0, x1, x2⟩ | ⟨x0, x1, x2, x3, x4, x5, x6⟩
        · rw [if_neg (fun z => z y1)] at x1
          have := hXO.2.2.2.2.1
          omega
        · have hrr : v = b2 := (dp_one hXZ x3 y3).symm
          have hs : SMx xWay fWay I I2 := ((SMx.fc y8 (fun a h1 hx => by unfold KO at h1; unfold xWay at hx; unfold sYW sY; omega) (by unfold sYW sY; omega)).tr SMx.out).tr (SMx.fr x6 (fun a h1 hx hm => by
            unfold KO at h1; unfold xWay at hx; simp at hm; omega) (fun k h1 hx hm => by
            unfold KF at h1; unfold fWay at hx; simp at hm; omega))
          have e2 : ∀ a, a ≤ 90 → I2 a = J a := fun a h => by rw [x6.1 a (by omega) (by simp; omega), uI_ne (by omega)]
          refine ⟨q3, fun _ => ?_, rel_way hP hs (fun k hk => by rw [e2 85 (by decide)]; exact y6 k hk) ha hb hcc hd ?_ hf hg hh hi⟩
          · rw [x6.1 145 (by decide) (by decide), uI_eq, u1_eq, hrr]
          · have hans : 0 ≤ ansX X ∧ ansX X < X.1 := by have := hXO.2.2.2.2.1; omega
            refine ⟨by rw [e2 85 (by decide), y5, x5.1, hrr], by rw [x5.1]; omega, fun i i0 i1 => ?_⟩
            rw [x5.1] at i1
            refine ⟨howX X (upX X (v - 1 - i) (ansX X)), way_ok hXO hH hans y3 ⟨i0, by omega⟩, ?_, ?_⟩
            · rw [e2 86 (by decide)]; exact y7 i i0 (by omega)
            · have w := x5.2 i i0 i1
              rw [hXZ.up, hXZ.2.2.1, ← hrr] at w
              exact w
  · refine ⟨_, c_X12_come (d := 27) hW hT hF hb.1, fun b2 I2 P2 h2 => ?_⟩
    obtain ⟨rfl, h2⟩ := h2
    rcases h2 with ⟨-, q1, rfl⟩ | ⟨q, -⟩
    · exact ⟨by rw [uI_eq, u1_eq], fun z => absurd z (by decide), hR.same (PK.rf hW) (SMx.f0.tr SMx.f0) (by omega)⟩
    · exact absurd q hC
theorem op_most (hR : REL c I P) : OPD G mX11_most mX12_most [] c I P := by
  obtain ⟨t, g, T, ha, hb, hcc, hd, he, hf, hg, hh, hi⟩ := id hR
  obtain ⟨hW, h1t, h1g, hTo, hGo, hne, hM, hT, hF⟩ := id ha
  have r47 := hb.2.rw hb.1
  obtain ⟨X, eX⟩ : ∃ X, X = goX T (-1) 0 400 (I 47) := ⟨_, rfl⟩
  obtain ⟨Z, eZ⟩ : ∃ Z, Z = goX T (-1) 0 400 (I 98) := ⟨_, rfl⟩
  have hXZ : XE Z X := by rw [eX, eZ]; exact XE.go hF hb.2 (fun z => absurd rfl z)
  have hXO : XOK T 400 X := by rw [eX]; exact goN_ok hF r47 (by decide)
  have hH : HOK T X := by rw [eX]; exact HOK.go hF
  have hx1 := hXO.1
  have hmo := mostN_ok hF hXO (n := X.1) ⟨by omega, Int.le_refl _⟩
  refine ⟨_, c_X11_most (d := 24) hW hM hF r47, fun v I1 P1 h => ?_⟩
  rw [← eX] at h
  obtain ⟨hP, hy⟩ := h
  have oJ : ∀ a, 91 ≤ a → I1 a = I a := fun a h => by
    rcases hy with ⟨-, -, q⟩ | ⟨-, -, n, -, -, -, -, -, q⟩
    · exact q a (sY_91 a h)
    · exact q a (by unfold sYW sY; omega)
  refine ⟨_, c_X12_most (d := 27) hP.1 (hT.ge oJ) hF (by rw [oJ 98 (by decide)]; exact hb.1), fun b2 I2 P2 h2 => ?_⟩
  rw [oJ 98 (by decide), ← eZ, hXZ.2.2.2.2, hXZ.1, hXZ.most hF] at h2
  obtain ⟨rfl, q3, h2⟩ := h2
  rcases hy with ⟨y1, y2, y3⟩ | ⟨y1, y2, n, y3, y4, y5, y6, y7, y8⟩
  · rcases h2 with ⟨x1, x2, x3⟩ | ⟨x1, -⟩
    · exact ⟨by rw [x2, y2], hR.same hP ((SMx.fc y3 (fun a h _ => sY_no a h) (sY_91 91 (Nat.le_refl _))).tr (sfn x3 (by decide) (by decide))) (by omega)⟩
    · exact absurd x1 y1
  · rcases h2 with ⟨x1, -⟩ | ⟨x1, x2, ⟨n2, x3, x4, x5⟩, x6⟩
    · exact absurd y1 x1
    · have hrr : n = n2 := (dp_one hXZ x3 y3).symm
      have hs : SMx xWay fWay I I2 := (SMx.fc y8 (fun a h1 hx => by unfold KO at h1; unfold xWay at hx; unfold sYW sY; omega) (by unfold sYW sY; omega)).tr (SMx.fr x6 (fun a h1 hx hm => by
        unfold KO at h1; unfold xWay at hx; simp at hm; omega) (fun k h1 hx hm => by
        unfold KF at h1; unfold fWay at hx; simp at hm; omega))
      have e2 : ∀ a, a ≤ 90 → I2 a = I1 a := fun a h => x6.1 a (by omega) (by simp; omega)
      refine ⟨by rw [x2, y2], rel_way hP hs (fun k hk => by rw [e2 85 (by decide)]; exact y6 k hk) ha hb hcc hd ?_ hf hg hh hi⟩
      refine ⟨by rw [e2 85 (by decide), y5, x5.1, hrr], by rw [x5.1]; omega, fun i i0 i1 => ?_⟩
      rw [x5.1] at i1
      refine ⟨howX X (upX X (n - 1 - i) (mostN T X X.1).1), way_ok hXO hH hmo.1 y3 ⟨i0, by omega⟩, ?_, ?_⟩
      · rw [e2 86 (by decide)]; exact y7 i i0 (by omega)
      · have w := x5.2 i i0 i1
        rw [hXZ.up, hXZ.2.2.1, ← hrr] at w
        exact w
end
