/-! ===== each call, of both ===== -/
theorem MT.ge {I K : Mem} {T : Tn} (h : MT I T) (hk : ∀ a, 91 ≤ a → K a = I a) : MT K T := by
  obtain ⟨h0, h1, h2, h3, h4, h5, h6⟩ := h
  exact ⟨fun k k0 k1 => by rw [hk 91 (by decide)]; exact h0 k k0 k1, (hk 92 (by decide)).trans h1, (hk 93 (by decide)).trans h2, (hk 94 (by decide)).trans h3, (hk 95 (by decide)).trans h4, (hk 96 (by decide)).trans h5, (hk 97 (by decide)).trans h6⟩
section
variable {G : HX} {c : Int} {I : Mem} {P : Ptr}
theorem op_has {p s : Int} (hR : REL c I P) : OPX G mL_has mX12_has [.inl p, .inl s] (fun b => b) c I P := by
  obtain ⟨t, g, T, ha, hb, hcc, hd, he, hf, hg, hh, hi⟩ := id hR
  obtain ⟨hW, h1t, h1g, hTo, hGo, hne, hM, hT, hF⟩ := id ha
  have f1 := hF.1
  have f2 := hF.2.1
  refine opx_get (vb := I 98 (8 * p + s)) hR (c_L_has (d := 30) (c_X11_has (d := 22) hW hM h1t hF) (fun E J R h => h.2.2)) (fun I1 hk => ?_) (fun hC => (hb.2 _ (by unfold okPS at hC; omega) (by unfold okPS at hC; omega)).symm)
  have := c_X12_has (G := G) (d := 29) (p := p) (s := s) hW (hT.o hk) hF
  rw [hk 98 (by decide)] at this
  exact this
theorem op_likes {p s : Int} (hR : REL c I P) : OPX G mL_likes mX12_likes [.inl p, .inl s] (fun b => b) c I P := by
  obtain ⟨t, g, T, ha, hb, hcc, hd, he, hf, hg, hh, hi⟩ := id hR
  obtain ⟨hW, h1t, h1g, hTo, hGo, hne, hM, hT, hF⟩ := id ha
  exact opx_get hR (c_L_likes (d := 30) (c_X11_likes (d := 22) hW hM h1t hF) (fun E J R h => h.2.2)) (fun I1 hk => c_X12_likes (G := G) (d := 29) (p := p) (s := s) hW (hT.o hk) hF) (fun _ => rfl)
theorem op_count {w : Int} (hR : REL c I P) : OPX G mL_count mX12_count [.inl w] (fun b => b) c I P := by
  obtain ⟨t, g, T, ha, hb, hcc, hd, he, hf, hg, hh, hi⟩ := id hR
  obtain ⟨hW, h1t, h1g, hTo, hGo, hne, hM, hT, hF⟩ := id ha
  have r47 := hb.2.rw hb.1
  refine opx_get (vb := countA T (I 98) (I 91 17) (I 99) w) hR (c_L_count (d := 30) (c_X11_count (d := 22) hW hM h1t hF r47.rc) (fun E J R h => h.2.2)) (fun I1 hk => ?_) (fun hC => ?_)
  · have := c_X12_count (G := G) (d := 29) (w := w) hW (hT.o hk) hF (by rw [hk 98 (by decide)]; exact hb.1)
    rw [hk 98 (by decide), hk 91 (by decide), hk 99 (by decide)] at this
    exact this
  · have hw : w = 0 ∨ w = 1 ∨ w = 2 ∨ w = 3 ∨ w = 4 ∨ w = 5 ∨ w = 6 ∨ w = 7 ∨ w = 8 ∨ w = 9 ∨ w = 10 ∨ w = 11 := by omega
    rcases hw with rfl | rfl | rfl | rfl | rfl | rfl | rfl | rfl | rfl | rfl | rfl | rfl
    · rfl
    · rfl
    · rfl
    · rfl
    · rfl
    · rfl
    · rfl
    · exact hcc.1.2.symm
    · exact (hb.2.all hF).symm
    · exact hd.2.1
    · exact hd.2.2.1
    · exact hd.2.2.2.1
theorem op_worth {p : Int} (hR : REL c I P) : OPX G mL_worth mX12_worth [.inl p] (fun b => b) c I P := by
  obtain ⟨t, g, T, ha, hb, hcc, hd, he, hf, hg, hh, hi⟩ := id hR
  obtain ⟨hW, h1t, h1g, hTo, hGo, hne, hM, hT, hF⟩ := id ha
  have r47 := hb.2.rw hb.1
  refine opx_get (vb := if p = -1 then worthS T (I 98) else bagS T (I 98) p) hR (c_L_worth (d := 30) (c_X11_worth (d := 22) hW hM h1t hF r47.rc) (fun E J R h => h.2.2)) (fun I1 hk => ?_) (fun hC => ?_)
  · have := c_X12_worth (G := G) (d := 29) (p := p) hW (hT.o hk) hF (by rw [hk 98 (by decide)]; exact hb.1)
    rw [hk 98 (by decide)] at this
    exact this
  · split
    · exact (hb.2.worth hF).symm
    · exact (hb.2.bag hF (by omega)).symm
theorem op_left {s : Int} (hR : REL c I P) : OPX G mL_left mX12_left [.inl s] (fun b => b) c I P := by
  obtain ⟨t, g, T, ha, hb, hcc, hd, he, hf, hg, hh, hi⟩ := id hR
  obtain ⟨hW, h1t, h1g, hTo, hGo, hne, hM, hT, hF⟩ := id ha
  have r47 := hb.2.rw hb.1
  have f2 := hF.2.1
  refine opx_get (vb := leftS T (I 98) s) hR (c_L_left (d := 30) (c_X11_left (d := 22) hW hM h1t hF r47.rc) (fun E J R h => h.2.2)) (fun I1 hk => ?_) (fun hC => (hb.2.left hF (by omega)).symm)
  have := c_X12_left (G := G) (d := 29) (s := s) hW (hT.o hk) hF (by rw [hk 98 (by decide)]; exact hb.1)
  rw [hk 98 (by decide)] at this
  exact this
theorem op_meeting {m w : Int} (hR : REL c I P) : OPX G mL_meeting mX12_meeting [.inl m, .inl w] (fun b => b) c I P := by
  obtain ⟨t, g, T, ha, hb, hcc, hd, he, hf, hg, hh, hi⟩ := id hR
  obtain ⟨hW, h1t, h1g, hTo, hGo, hne, hM, hT, hF⟩ := id ha
  exact opx_get hR (c_L_meeting (d := 30) (c_X11_meeting (d := 22) hW hM h1t hF) (fun E J R h => h.2.2)) (fun I1 hk => c_X12_meeting (G := G) (d := 29) (m := m) (w := w) hW (hT.o hk) hF) (fun _ => rfl)
theorem op_step {i w : Int} (hR : REL c I P) : OPX G mL_step mX12_step [.inl i, .inl w] (fun b => b) c I P := by
  obtain ⟨t, g, T, ha, hb, hcc, hd, he, hf, hg, hh, hi⟩ := id hR
  obtain ⟨hW, h1t, h1g, hTo, hGo, hne, hM, hT, hF⟩ := id ha
  have hC1 : Cv G mX11_step 30 1 6 [.inr (.inl 1), .inl i, .inl w] NO I P (qX NO (fun r I' P' => (I' = I ∧ P' = P) ∧ ((0 ≤ i ∧ i < I 91 61) ∧ 0 ≤ w ∧ w ≤ 3) ∧ r = stepC I w i) (fun c I' P' => (I' = I ∧ P' = P) ∧ ¬ ((0 ≤ i ∧ i < I 91 61) ∧ 0 ≤ w ∧ w ≤ 3) ∧ c = tEN)) := by
    refine (c_X11_step (G := G) (d := 22) (i := i) (w := w) hW hM h1t hF (by rw [he.1]; exact he.2.1) (fun i i0 i1 => by obtain ⟨h, q1, q2, -⟩ := he.2.2 i i0 (by rw [← he.1]; exact i1); exact ⟨h, q1, q2⟩)).imp (fun o n' I' P' hq => ?_)
    rw [he.1] at hq
    obtain ⟨hn, hq⟩ := hq
    refine ⟨hn, hq.imp (fun ⟨r, hr, h1, h2, h3⟩ => ⟨r, hr, h1, h2, ?_⟩) id⟩
    obtain ⟨h, q1, q2, q3, q4, q5, q6⟩ := he.2.2 i h2.1.1 h2.1.2
    rw [h3 h q1 q2]
    unfold stpV stepC
    rw [q3, q4, q5, q6]
  refine opx_get (vb := stepC I w i) hR (c_L_step (d := 30) hC1 (fun E J R h => h.2.2)) (fun I1 hk => ?_) (fun _ => rfl)
  have := c_X12_step (G := G) (d := 29) (I := I1) (i := i) (w := w) hW (by rw [hk 91 (by decide)]; exact he.2.1)
  unfold stepC at this ⊢
  rw [hk 91 (by decide), hk 121 (by decide), hk 122 (by decide), hk 123 (by decide), hk 124 (by decide)] at this
  exact this
theorem op_bag {s : Int} (hR : REL c I P) : OPX G mL_bag mX12_bag [.inl s] (fun b => b) c I P := by
  obtain ⟨t, g, T, ha, hb, hcc, hd, he, hf, hg, hh, hi⟩ := id hR
  obtain ⟨hW, h1t, h1g, hTo, hGo, hne, hM, hT, hF⟩ := id ha
  have h1 := c_X11_bag (G := G) (d := 22) (s := s) hW hM h1t hF (by rw [hf.1]; exact hf.2.1)
  rw [hf.1] at h1
  refine opx_get (vb := I 125 s) hR (c_L_bag (d := 30) h1 (fun E J R h => h.2.2)) (fun I1 hk => ?_) (fun hC => hf.2.2 hC.2 s hC.1.1 hC.1.2)
  have := c_X12_bag (G := G) (d := 29) (I := I1) (s := s) hW (hT.o hk) hF (by rw [hk 91 (by decide)]; exact hf.2.1)
  rw [hk 91 (by decide), hk 125 (by decide)] at this
  exact this
theorem op_ordered {i : Int} (hR : REL c I P) : OPX G mL_ordered mX12_ordered [.inl i] (fun b => b) c I P := by
  obtain ⟨t, g, T, ha, hb, hcc, hd, he, hf, hg, hh, hi⟩ := id hR
  obtain ⟨hW, h1t, h1g, hTo, hGo, hne, hM, hT, hF⟩ := id ha
  have h1 := c_X11_ordered (G := G) (I := I) (P := P) (d := 22) (i := i) hW (by rw [hg.1]; exact hg.2.1)
  rw [hg.1] at h1
  refine opx_get (vb := I 130 i) hR (c_L_ordered (d := 30) h1 (fun E J R h => h.2.2)) (fun I1 hk => ?_) (fun hC => hg.2.2 i hC.1 hC.2)
  have := c_X12_ordered (G := G) (d := 29) (I := I1) (i := i) hW (by rw [hk 91 (by decide)]; exact hg.2.1)
  rw [hk 91 (by decide), hk 130 (by decide)] at this
  exact this
theorem op_shared {p s : Int} (hR : REL c I P) : OPX G mL_shared mX12_shared [.inl p, .inl s] (fun b => b) c I P := by
  obtain ⟨t, g, T, ha, hb, hcc, hd, he, hf, hg, hh, hi⟩ := id hR
  obtain ⟨hW, h1t, h1g, hTo, hGo, hne, hM, hT, hF⟩ := id ha
  have f1 := hF.1
  have f2 := hF.2.1
  have h1 := c_X11_shared (G := G) (d := 22) (p := p) (s := s) hW hM h1t hF (by rw [hh.1]; exact hh.2.1)
  rw [hh.1] at h1
  refine opx_get (vb := I 142 (8 * p + s)) hR (c_L_shared (d := 30) h1 (fun E J R h => h.2.2)) (fun I1 hk => ?_) (fun hC => hh.2.2 hC.2 _ (by have := hC.1; unfold okPS at this; omega) (by have := hC.1; unfold okPS at this; omega))
  have := c_X12_shared (G := G) (d := 29) (I := I1) (p := p) (s := s) hW (hT.o hk) hF (by rw [hk 91 (by decide)]; exact hh.2.1)
  rw [hk 91 (by decide), hk 142 (by decide)] at this
  exact this
theorem op_fault (hR : REL c I P) : OPD G mX11_fault mX12_fault [] c I P := by
  obtain ⟨t, g, T, ha, hb, hcc, hd, he, hf, hg, hh, hi⟩ := id hR
  refine ⟨_, c_X11_fault (d := 31) ha.1, fun k I1 P1 h => ?_⟩
  obtain ⟨rfl, rfl, rfl⟩ := h
  refine ⟨_, c_X12_fault (d := 31) ha.1, fun b I2 P2 h2 => ?_⟩
  obtain ⟨rfl, rfl, rfl⟩ := h2
  exact ⟨hd.1.symm, hR.same (PK.rf ha.1) SMx.f0 (by omega)⟩
theorem op_freely (hR : REL c I P) : OPD G mX11_freely mX12_freely [] c I P := by
  obtain ⟨t, g, T, ha, hb, hcc, hd, he, hf, hg, hh, hi⟩ := id hR
  obtain ⟨hW, h1t, h1g, hTo, hGo, hne, hM, hT, hF⟩ := id ha
  refine ⟨_, c_X11_freely (d := 29) hW hM h1t hF (hb.2.rw hb.1), fun k I1 P1 h => ?_⟩
  obtain ⟨rfl, rfl, rfl⟩ := h
  refine ⟨_, c_X12_freely (d := 30) hW hT hF hb.1, fun b I2 P2 h2 => ?_⟩
  obtain ⟨rfl, rfl, rfl⟩ := h2
  exact ⟨hb.2.free hF, hR.same (PK.rf hW) SMx.f0 (by omega)⟩
/-- the model's side stands as the class's side goes on -/
theorem REL.mid {S : Nat → Prop} {J : Mem} {R : Ptr} (hR : REL c I P) (hP : PK P R) (hf : Fc S I J) (hs : ∀ a, KO a → ¬ S a) (h9 : ¬ S 91) : REL c J R := hR.same hP (SMx.fc hf (fun a ha _ => hs a ha) h9) (Int.le_refl _)
theorem op_best (hR : REL c I P) : OPD G mX11_best mX12_best [] c I P := by
  obtain ⟨t, g, T, ha, hb, hcc, hd, he, hf, hg, hh, hi⟩ := id hR
  obtain ⟨hW, h1t, h1g, hTo, hGo, hne, hM, hT, hF⟩ := id ha
  refine ⟨_, c_X11_best (d := 25) hW hM h1t hF (hb.2.rw hb.1), fun k I1 P1 h => ?_⟩
  obtain ⟨⟨hP, hFc⟩, hk⟩ := h
  have hR1 : REL c I1 P1 := hR.mid hP hFc (fun a ha => by unfold KO at ha; unfold sGL; omega) (by unfold sGL; omega)
  have e : ∀ a, 91 ≤ a → I1 a = I a := fun a h => hFc a (by unfold sGL; omega)
  have hT1 : MT I1 T := hT.ge e
  refine ⟨_, c_X12_best (d := 24) hP.1 hT1 hF (by rw [e 98 (by decide)]; exact hb.1), fun b I2 P2 h2 => ?_⟩
  obtain ⟨rfl, rfl, -, h4⟩ := h2
  refine ⟨?_, hR1.same (PK.rf hP.1) (SMx.fr h4 (fun a ha _ => by unfold KO at ha; simp; omega) (fun k hk _ => by unfold KF at hk; simp; omega)) (by omega)⟩
  rw [e 98 (by decide), hk]
  exact hb.2.bestl hF
end
