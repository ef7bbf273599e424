/-! ===== the reference: pairs, people ===== -/
theorem RSt.any {K : Mem} {tp : Rw} {n i j : Int} {x : Int × Int} (h : RSt K tp n x i) (hx : x.1 ≠ 0) : RSt K tp n x j := Or.inr ⟨hx, (h.resolve_left (fun q => hx q.1)).2⟩
theorem pairS_RP {K J : Mem} {S : Tn} {u v w : Int} (h : RP K S) (h6 : S 3 (S 0 1) ≠ 6) (hf : Fr [104, 103] pF K J) (h1 : J 104 = u1 (u1 (u1 (K 104) (18 * S 0 1 + 3 * S 3 (S 0 1)) u) (18 * S 0 1 + 3 * S 3 (S 0 1) + 1) v) (18 * S 0 1 + 3 * S 3 (S 0 1) + 2) w) (h2 : J 103 = u1 (K 103) (S 0 1) (S 3 (S 0 1) + 1)) : RP J (pairW S u v w) := by
  obtain ⟨⟨m0, m1, m2, m3, m4, m5⟩, sb, l6, t8, t10⟩ := h
  have kf : ∀ k : Int, 27 ≤ k → J 91 k = K 91 k := fun k k0 => hf.2 k (fun q => by
    have : ∀ x ∈ pF, x < 27 := by decide
    have := this k q
    omega)
  have ka : ∀ x, x ≠ 91 → x ≠ 104 → x ≠ 103 → J x = K x := fun x h0 h1 h2 => hf.1 x h0 (fun q => by simp [h1, h2] at q)
  have s0 : ∀ x, x ≠ 4 → x ≠ 3 → pairW S u v w x = S x := fun x h1 h2 => by unfold pairW; rw [uI_ne h2, uI_ne h1, uI_ne h1, uI_ne h1]
  have s4 : pairW S u v w 4 = u1 (u1 (u1 (S 4) (18 * S 0 1 + 3 * S 3 (S 0 1)) u) (18 * S 0 1 + 3 * S 3 (S 0 1) + 1) v) (18 * S 0 1 + 3 * S 3 (S 0 1) + 2) w := by unfold pairW; rw [uI_ne (by decide), uI_eq, uI_eq, uI_eq]
  have s3 : pairW S u v w 3 = u1 (S 3) (S 0 1) (S 3 (S 0 1) + 1) := by unfold pairW; rw [uI_eq, uI_ne (by decide), uI_ne (by decide), uI_ne (by decide)]
  obtain ⟨sb1, sb2, sb3, sb4, sb5, sb6, sb7, sb8, sb9⟩ := sb
  have sbp := sb5 (S 0 1)
  refine ⟨⟨?_, ?_, ?_, ?_, ?_, ?_⟩, ?_, ?_, ?_, ?_⟩
  · rw [kf 27 (by decide), kf 28 (by decide), kf 29 (by decide), kf 30 (by decide), kf 31 (by decide), kf 32 (by decide), kf 33 (by decide), kf 34 (by decide), s0 0 (by decide) (by decide), s0 11 (by decide) (by decide)]; exact m0
  · rw [ka 101 (by decide) (by decide) (by decide), ka 107 (by decide) (by decide) (by decide), s0 0 (by decide) (by decide), s0 1 (by decide) (by decide), s0 7 (by decide) (by decide)]; exact m1
  · intro p p0 p1
    rw [s0 0 (by decide) (by decide)] at p1
    rw [ka 102 (by decide) (by decide) (by decide), s0 2 (by decide) (by decide), h2, s3]
    refine ⟨(m2 p p0 p1).1, ?_⟩
    unfold u1
    split
    · rfl
    · exact (m2 p p0 p1).2
  · intro p k j p0 p1 k0 k1 j0 j1
    rw [s0 0 (by decide) (by decide)] at p1
    rw [s3] at k1
    rw [h1, s4]
    have hk6 : k < 6 := by
      unfold u1 at k1
      split at k1
      · omega
      · have := sb5 p; omega
    by_cases e2 : 18 * p + 3 * k + j = 18 * S 0 1 + 3 * S 3 (S 0 1) + 2
    · rw [e2, u1_eq, u1_eq]
    rw [u1_ne e2, u1_ne e2]
    by_cases e1 : 18 * p + 3 * k + j = 18 * S 0 1 + 3 * S 3 (S 0 1) + 1
    · rw [e1, u1_eq, u1_eq]
    rw [u1_ne e1, u1_ne e1]
    by_cases e0 : 18 * p + 3 * k + j = 18 * S 0 1 + 3 * S 3 (S 0 1)
    · rw [e0, u1_eq, u1_eq]
    rw [u1_ne e0, u1_ne e0]
    refine m3 p k j p0 p1 k0 ?_ j0 j1
    unfold u1 at k1
    split at k1
    · next e => rw [e] at e0 e1 e2 ⊢; omega
    · exact k1
  · rw [ka 105 (by decide) (by decide) (by decide), s0 0 (by decide) (by decide), s0 5 (by decide) (by decide)]; exact m4
  · rw [ka 106 (by decide) (by decide) (by decide), s0 0 (by decide) (by decide), s0 6 (by decide) (by decide)]; exact m5
  · unfold SB
    rw [s0 0 (by decide) (by decide), s0 10 (by decide) (by decide), s0 11 (by decide) (by decide), s0 8 (by decide) (by decide), s0 9 (by decide) (by decide), s3]
    refine ⟨sb1, sb2, sb3, sb4, fun p => ?_, sb6, sb7, sb8, sb9⟩
    unfold u1
    split
    · omega
    · exact sb5 p
  · rw [s0 0 (by decide) (by decide)]; exact l6
  · rw [ka 108 (by decide) (by decide) (by decide), ka 109 (by decide) (by decide) (by decide), s0 0 (by decide) (by decide), s0 8 (by decide) (by decide), s0 9 (by decide) (by decide)]; exact t8
  · rw [ka 110 (by decide) (by decide) (by decide), s0 0 (by decide) (by decide), s0 10 (by decide) (by decide)]; exact t10
theorem fallS_RP {K J : Mem} {S : Tn} {v : Int} (h : RP K S) (hf : Fr [102, 110] pF K J) (h1 : J 102 = u1 (K 102) (S 0 1) v) (h2 : J 110 = u1 (K 110) (S 0 1) 1) : RP J (uI (uI S 10 0 1) 2 (S 0 1) v) := by
  obtain ⟨⟨m0, m1, m2, m3, m4, m5⟩, sb, l6, t8, t10⟩ := h
  have kf : ∀ k : Int, 27 ≤ k → J 91 k = K 91 k := fun k k0 => hf.2 k (fun q => by
    have : ∀ x ∈ pF, x < 27 := by decide
    have := this k q
    omega)
  have ka : ∀ x, x ≠ 91 → x ≠ 102 → x ≠ 110 → J x = K x := fun x h0 h1 h2 => hf.1 x h0 (fun q => by simp [h1, h2] at q)
  have s0 : ∀ x, x ≠ 2 → x ≠ 10 → uI (uI S 10 0 1) 2 (S 0 1) v x = S x := fun x h1 h2 => by rw [uI_ne h1, uI_ne h2]
  have s2 : uI (uI S 10 0 1) 2 (S 0 1) v 2 = u1 (S 2) (S 0 1) v := by rw [uI_eq, uI_ne (by decide)]
  have s10 : uI (uI S 10 0 1) 2 (S 0 1) v 10 = u1 (S 10) 0 1 := by rw [uI_ne (by decide), uI_eq]
  obtain ⟨sb1, sb2, sb3, sb4, sb5, sb6, sb7, sb8, sb9⟩ := sb
  refine ⟨⟨?_, ?_, ?_, ?_, ?_, ?_⟩, ?_, ?_, ?_, ?_⟩
  · rw [kf 27 (by decide), kf 28 (by decide), kf 29 (by decide), kf 30 (by decide), kf 31 (by decide), kf 32 (by decide), kf 33 (by decide), kf 34 (by decide), s0 0 (by decide) (by decide), s0 11 (by decide) (by decide)]; exact m0
  · rw [ka 101 (by decide) (by decide) (by decide), ka 107 (by decide) (by decide) (by decide), s0 0 (by decide) (by decide), s0 1 (by decide) (by decide), s0 7 (by decide) (by decide)]; exact m1
  · intro p p0 p1
    rw [s0 0 (by decide) (by decide)] at p1
    rw [ka 103 (by decide) (by decide) (by decide), s0 3 (by decide) (by decide), h1, s2]
    refine ⟨?_, (m2 p p0 p1).2⟩
    unfold u1
    split
    · rfl
    · exact (m2 p p0 p1).1
  · rw [ka 104 (by decide) (by decide) (by decide), s0 0 (by decide) (by decide), s0 4 (by decide) (by decide), s0 3 (by decide) (by decide)]; exact m3
  · rw [ka 105 (by decide) (by decide) (by decide), s0 0 (by decide) (by decide), s0 5 (by decide) (by decide)]; exact m4
  · rw [ka 106 (by decide) (by decide) (by decide), s0 0 (by decide) (by decide), s0 6 (by decide) (by decide)]; exact m5
  · unfold SB
    rw [s0 0 (by decide) (by decide), s10, s0 11 (by decide) (by decide), s0 8 (by decide) (by decide), s0 9 (by decide) (by decide), s0 3 (by decide) (by decide), u1_eq]
    exact ⟨sb1, sb2, sb3, sb4, sb5, sb6, Or.inr rfl, sb8, sb9⟩
  · rw [s0 0 (by decide) (by decide)]; exact l6
  · rw [ka 108 (by decide) (by decide) (by decide), ka 109 (by decide) (by decide) (by decide), s0 0 (by decide) (by decide), s0 8 (by decide) (by decide), s0 9 (by decide) (by decide)]; exact t8
  · rw [s0 0 (by decide) (by decide), s10, h2, u1_eq, u1_eq]
section
variable {G : HX} {d : Nat} {I : Mem} {P : Ptr} {T : Tn}
theorem c_X12_readsPair {tp : Rw} {n i : Int} {S : Tn} (hW : WP P) (hi0 : 0 ≤ i) (hG : GD I tp n i) (hS : RP I S) : Cv G mX12_readsPair (d + 3) 0 0 [.inr (.inl 91)] NO I P (qV (fun n' I' P' => n' = NO ∧ P' = P ∧ Fr [104, 103] pF I I' ∧ RES RP I' tp n (pairR (tkS tp n) (i + 1) S))) := by
  have e28 : I 91 28 = S 0 2 := hS.1.1.2.1
  have e27 : I 91 27 = S 0 1 := hS.1.1.1
  have f1 := hS.2.1.1
  have f2 := hS.2.1.2.1
  have f3 := hS.2.1.2.2.2.2.1 (S 0 1)
  have l6 := hS.2.2.1
  have e103 : I 103 (S 0 1) = S 3 (S 0 1) := (hS.1.2.2.1 (S 0 1) f1.1 (by omega)).2
  have hR0 : RSt I tp n (0, 0) i := RSt.o rfl hG
  obtain ⟨c0, hc0⟩ : ∃ c0 : Int × Int, c0 = (if S 3 (S 0 1) = 6 then 2 else 0, tkS tp n 1 i) := ⟨_, rfl⟩
  obtain ⟨c1, hc1⟩ : ∃ c1 : Int × Int, c1 = (belC (tkS tp n) (S 0 2) (i + 1), tkS tp n 1 (i + 1)) := ⟨_, rfl⟩
  obtain ⟨c2, hc2⟩ : ∃ c2 : Int × Int, c2 = (belC (tkS tp n) (S 0 2) (i + 2), tkS tp n 1 (i + 2)) := ⟨_, rfl⟩
  obtain ⟨c3, hc3⟩ : ∃ c3 : Int × Int, c3 = (if tkS tp n 2 (i + 2) = tkS tp n 2 (i + 1) then 4 else 0, tkS tp n 1 (i + 2)) := ⟨_, rfl⟩
  obtain ⟨c4, hc4⟩ : ∃ c4 : Int × Int, c4 = (numC (tkS tp n) 0 99 (i + 3), tkS tp n 1 (i + 3)) := ⟨_, rfl⟩
  have hcp : cpR (pairR (tkS tp n) (i + 1) S) = chk c0 (chk c1 (chk c2 (chk c3 (chk c4 (0, 0))))) := by
    unfold pairR
    rw [cp_ck, cp_ck, cp_ck, cp_ck, cp_ck, cp_ok, show i + 1 - 1 = i by omega, show i + 1 + 1 = i + 2 by omega, show i + 1 + 2 = i + 3 by omega, hc0, hc1, hc2, hc3, hc4]
  refine x_enter mfX12_readsPair rfl (Nat.le_of_ble_eq_true rfl) (fun _ => ?_)
  have h3 : c0.1 = 0 → ∀ (K : Mem) (one other : Int), RSt K tp n (chk (chk c1 c2) c3) (i + 3) → Fr [] pF I K → ((chk (chk c1 c2) c3).1 = 0 → one = tkS tp n 2 (i + 1) ∧ other = tkS tp n 2 (i + 2)) → V G mX12_readsPair (d + 3) 0 0 100 [some (.inr (.inl 91)), some (.inl (18 * S 0 1 + 3 * S 3 (S 0 1))), some (.inl (one)), some (.inl (other)), none] [] NO K P (qV (fun n' I' P' => n' = NO ∧ P' = P ∧ Fr [104, 103] pF I I' ∧ RES RP I' tp n (pairR (tkS tp n) (i + 1) S))) := fun z0 K one other hRK hFr hv => by
    refine y_aln (i := 0) dX12_readsPair_100 at91.ne0 rfl rfl ?_
    refine y_ic dX12_readsPair_101 ⟨by decide, by decide⟩ ?_
    refine y_bi dX12_readsPair_102 ⟨by decide, by decide⟩ ?_
    refine x_callVI (c_X12_number hW (by omega) hRK (by decide)) dX12_readsPair_104 lkX12_257 mfX12_number cfX12 at91 rfl rfl rfl rfl (Nat.le_of_ble_eq_true rfl) (fun r104 I104 P104 hr104 hf104 => ?_)
    rw [← hc4] at hf104
    obtain ⟨rfl, fr104, rs104, hr104, hv104⟩ := hf104
    have hFr2 : Fr [] pF I I104 := hFr.tr fr104
    have k27 : I104 91 27 = S 0 1 := (hFr2.2 27 (by decide)).trans e27
    have k103 : I104 103 = I 103 := hFr2.1 103 (by decide) (by decide)
    have k104 : I104 104 = I 104 := hFr2.1 104 (by decide) (by decide)
    refine x_istore (i := 4) dX12_readsPair_107 rfl (Nat.le_of_ble_eq_true rfl) ?_
    refine y_aln (i := 0) dX12_readsPair_109 at91.ne0 rfl rfl ?_
    refine x_callVI (c_X12_isGood hW rs104) dX12_readsPair_110 lkX12_238 mfX12_isGood cfX12 at91 rfl rfl rfl rfl (Nat.le_of_ble_eq_true rfl) (fun r110 I110 P110 hr110 hf110 => ?_)
    obtain ⟨i110, p110, q110⟩ := hf110
    rw [i110, p110]
    refine x_if_ne (tgt := 117) dX12_readsPair_113 rfl (fun h113 => ?_) (fun h113 => ?_)
    · have hgz := (q110.resolve_right (fun q => by have := q.1; omega)).2
      have hg := rs104.g hgz
      have hr := hv104 hgz
      have hgz2 := chk_z.mp hgz
      have hv2 := hv hgz2.1
      have hgz3 := chk_z.mp hgz2.1
      have hgz4 := chk_z.mp hgz3.1
      rw [hr, hv2.1, hv2.2]
      have ne6 : S 3 (S 0 1) ≠ 6 := fun q => by rw [hc0, if_pos q] at z0; exact absurd (show (2 : Int) = 0 from z0) (by decide)
      refine y_aln (i := 0) dX12_readsPair_117 at91.ne0 rfl rfl ?_
      refine y_getp (z := 38) (v := 104) dX12_readsPair_118 frX12_59 cfX12 at91 rfl rfl (wp (v := 104) hW rfl rfl (by decide)) ?_
      refine x_iload_n (i := 1) dX12_readsPair_121 rfl rfl ?_
      refine x_iload_n (i := 2) dX12_readsPair_122 rfl rfl ?_
      refine x_iast dX12_readsPair_123 ar104 ⟨by omega, by omega⟩ ?_
      refine y_aln (i := 0) dX12_readsPair_124 at91.ne0 rfl rfl ?_
      refine y_getp (z := 38) (v := 104) dX12_readsPair_125 frX12_59 cfX12 at91 rfl rfl (wp (v := 104) hW rfl rfl (by decide)) ?_
      refine x_iload_n (i := 1) dX12_readsPair_128 rfl rfl ?_
      refine y_ic dX12_readsPair_129 ⟨by decide, by decide⟩ ?_
      refine x_iadd dX12_readsPair_130 ⟨by omega, by omega⟩ ?_
      refine x_iload_n (i := 3) dX12_readsPair_131 rfl rfl ?_
      refine x_iast dX12_readsPair_132 ar104 ⟨by omega, by omega⟩ ?_
      refine y_aln (i := 0) dX12_readsPair_133 at91.ne0 rfl rfl ?_
      refine y_getp (z := 38) (v := 104) dX12_readsPair_134 frX12_59 cfX12 at91 rfl rfl (wp (v := 104) hW rfl rfl (by decide)) ?_
      refine x_iload_n (i := 1) dX12_readsPair_137 rfl rfl ?_
      refine y_ic dX12_readsPair_138 ⟨by decide, by decide⟩ ?_
      refine x_iadd dX12_readsPair_139 ⟨by omega, by omega⟩ ?_
      refine x_iload (i := 4) dX12_readsPair_140 rfl ?_
      refine x_iast dX12_readsPair_142 ar104 ⟨by omega, by omega⟩ ?_
      refine y_aln (i := 0) dX12_readsPair_143 at91.ne0 rfl rfl ?_
      refine y_getp (z := 37) (v := 103) dX12_readsPair_144 frX12_56 cfX12 at91 rfl rfl (wp (v := 103) hW rfl rfl (by decide)) ?_
      refine y_aln (i := 0) dX12_readsPair_147 at91.ne0 rfl rfl ?_
      refine y_geti (z := 27) dX12_readsPair_148 frX12_254 cfX12 at91 rfl rfl ?_
      rw [uI_ne (by decide), uI_ne (by decide), uI_ne (by decide), k27]
      refine x_dup2 dX12_readsPair_151 rfl rfl ?_
      skip
      refine x_iald dX12_readsPair_152 ar103 ⟨by omega, by omega⟩ ?_
      rw [uI_ne (by decide), uI_ne (by decide), uI_ne (by decide), k103, e103]
      refine y_ic dX12_readsPair_153 ⟨by decide, by decide⟩ ?_
      refine x_iadd dX12_readsPair_154 ⟨by omega, by omega⟩ ?_
      refine x_iast dX12_readsPair_155 ar103 ⟨by omega, by omega⟩ ?_
      refine x_vret dX12_readsPair_156 rfl ?_
      obtain ⟨J, hJ⟩ : ∃ J, J = uI (uI (uI (uI I104 104 (18 * S 0 1 + 3 * S 3 (S 0 1)) (tkS tp n 2 (i + 1))) 104 (18 * S 0 1 + 3 * S 3 (S 0 1) + 1) (tkS tp n 2 (i + 2))) 104 (18 * S 0 1 + 3 * S 3 (S 0 1) + 2) (tkS tp n 2 (i + 3))) 103 (S 0 1) (S 3 (S 0 1) + 1) := ⟨_, rfl⟩
      rw [← hJ]
      have fJ : Fr [104, 103] [] I104 J := by rw [hJ]; exact (((Fr.rf.ui (by decide) (by decide)).ui (by decide) (by decide)).ui (by decide) (by decide)).ui (by decide) (by decide)
      have hFJ : Fr [104, 103] pF I J := (hFr2.mo (by decide) (by decide)).tr (fJ.mo (by decide) (by decide))
      have hR : pairR (tkS tp n) (i + 1) S = okR (i + 4) (pairW S (tkS tp n 2 (i + 1)) (tkS tp n 2 (i + 2)) (tkS tp n 2 (i + 3))) := by
        unfold pairR
        rw [show i + 1 - 1 = i by omega, show i + 1 + 1 = i + 2 by omega, show i + 1 + 2 = i + 3 by omega, show i + 1 + 3 = i + 4 by omega]
        rw [ckR_0 (by rw [hc0] at z0; exact z0), ckR_0 (by have := hgz4.1; rw [hc1] at this; exact this), ckR_0 (by have := hgz4.2; rw [hc2] at this; exact this), ckR_0 (by have := hgz3.2; rw [hc3] at this; exact this), ckR_0 (by have := hgz2.2; rw [hc4] at this; exact this)]
      rw [hR]
      refine ⟨rfl, rfl, hFJ, Or.inl ⟨rfl, ?_, pairS_RP hS ne6 hFJ ?_ ?_⟩⟩
      · have := hg.fr fJ
        rw [show i + 3 + 1 = i + 4 by omega] at this
        exact this
      · rw [hJ, uI_ne (by decide), uI_eq, uI_eq, uI_eq, k104]
      · rw [hJ, uI_eq, uI_ne (by decide), uI_ne (by decide), uI_ne (by decide), k103]
    · have hbz := (q110.resolve_left (fun q => by have := q.1; omega)).2
      refine x_vret dX12_readsPair_116 rfl ?_
      exact ⟨rfl, rfl, hFr2.mo (by decide) (by decide), RES.bad rs104 hbz (by
        rw [hcp, chk_0 z0, ← chk_a, ← chk_a, ← chk_a]
        exact chk_e hbz)⟩
  have h2 : c0.1 = 0 → ∀ (K : Mem) (one : Int), RSt K tp n (chk (chk c1 c2) c3) (i + 2) → Fr [] pF I K → ((chk (chk c1 c2) c3).1 = 0 → one = tkS tp n 2 (i + 1) ∧ K 91 25 = tkS tp n 2 (i + 2)) → V G mX12_readsPair (d + 3) 0 0 84 [some (.inr (.inl 91)), some (.inl (18 * S 0 1 + 3 * S 3 (S 0 1))), some (.inl (one)), none, none] [] NO K P (qV (fun n' I' P' => n' = NO ∧ P' = P ∧ Fr [104, 103] pF I I' ∧ RES RP I' tp n (pairR (tkS tp n) (i + 1) S))) := fun z0 K one hRK hFr hv => by
    refine y_aln (i := 0) dX12_readsPair_84 at91.ne0 rfl rfl ?_
    refine y_geti (z := 25) dX12_readsPair_85 frX12_211 cfX12 at91 rfl rfl ?_
    refine x_istore_n (i := 3) dX12_readsPair_88 rfl rfl (Nat.le_of_ble_eq_true rfl) ?_
    refine y_aln (i := 0) dX12_readsPair_89 at91.ne0 rfl rfl ?_
    refine x_callVI (c_X12_isGood hW hRK) dX12_readsPair_90 lkX12_238 mfX12_isGood cfX12 at91 rfl rfl rfl rfl (Nat.le_of_ble_eq_true rfl) (fun r90 I90 P90 hr90 hf90 => ?_)
    obtain ⟨i90, p90, q90⟩ := hf90
    rw [i90, p90]
    refine x_if_eq (tgt := 100) dX12_readsPair_93 rfl (fun h93 => ?_) (fun h93 => ?_)
    · have hbz := (q90.resolve_left (fun q => by have := q.1; omega)).2
      refine x_keep [1, 1, 1, 1, 0] ?_
      first | exact h3 z0 I97 one _ (RSt.o (q90.resolve_right (fun q => by have := q.1; omega)).2 hg2) (hFr.tr (fr97.mo (by decide) (by decide))) hv | exact h3 z0 K one _ (hRK.any hbz) hFr hv
    · have hg := hRK.g (q90.resolve_right (fun q => by have := q.1; omega)).2
      refine y_aln (i := 0) dX12_readsPair_96 at91.ne0 rfl rfl ?_
      refine x_callVV (c_X12_goes hW hg.2.2.1 (by omega) hg.2.2.2.1) dX12_readsPair_97 lkX12_242 mfX12_goes cfX12 at91 rfl rfl rfl rfl (Nat.le_of_ble_eq_true rfl) (fun n97 I97 P97 hf97 => ?_)
      obtain ⟨rfl, rfl, fr97, tk97⟩ := hf97
      have hg2 := hg.go fr97 tk97
      rw [show i + 2 + 1 = i + 3 by omega] at hg2
      refine x_keep [1, 1, 1, 1, 0] ?_
      first | exact h3 z0 I97 one _ (RSt.o (q90.resolve_right (fun q => by have := q.1; omega)).2 hg2) (hFr.tr (fr97.mo (by decide) (by decide))) hv | exact h3 z0 K one _ (hRK.any hbz) hFr hv
  have h1 : ∀ K : Mem, RSt K tp n c0 i → Fr [] pF I K → V G mX12_readsPair (d + 3) 0 0 19 [some (.inr (.inl 91)), none, none, none, none] [] NO K P (qV (fun n' I' P' => n' = NO ∧ P' = P ∧ Fr [104, 103] pF I I' ∧ RES RP I' tp n (pairR (tkS tp n) (i + 1) S))) := fun K hRK hFr => by
    refine y_aln (i := 0) dX12_readsPair_19 at91.ne0 rfl rfl ?_
    refine x_callVI (c_X12_isGood hW hRK) dX12_readsPair_20 lkX12_238 mfX12_isGood cfX12 at91 rfl rfl rfl rfl (Nat.le_of_ble_eq_true rfl) (fun r20 I20 P20 hr20 hf20 => ?_)
    obtain ⟨i20, p20, q20⟩ := hf20
    rw [i20, p20]
    refine x_if_ne (tgt := 27) dX12_readsPair_23 rfl (fun h23 => ?_) (fun h23 => ?_)
    · have z0 := (q20.resolve_right (fun q => by have := q.1; omega)).2
      have hg := hRK.g z0
      refine y_aln (i := 0) dX12_readsPair_27 at91.ne0 rfl rfl ?_
      refine x_callVV (c_X12_goes hW hg.2.2.1 (by omega) hg.2.2.2.1) dX12_readsPair_28 lkX12_242 mfX12_goes cfX12 at91 rfl rfl rfl rfl (Nat.le_of_ble_eq_true rfl) (fun n28 I28 P28 hf28 => ?_)
      obtain ⟨rfl, rfl, fr28, tk28⟩ := hf28
      have hg2 := hg.go fr28 tk28
      have hFr2 : Fr [] pF I I28 := hFr.tr (fr28.mo (by decide) (by decide))
      have k27 : I28 91 27 = S 0 1 := (hFr2.2 27 (by decide)).trans e27
      have k103 : I28 103 (I28 91 27) = S 3 (S 0 1) := by rw [k27, hFr2.1 103 (by decide) (by decide)]; exact e103
      have k28 : I28 91 28 = S 0 2 := (hFr2.2 28 (by decide)).trans e28
      refine y_bi dX12_readsPair_31 ⟨by decide, by decide⟩ ?_
      refine y_aln (i := 0) dX12_readsPair_33 at91.ne0 rfl rfl ?_
      refine y_geti (z := 27) dX12_readsPair_34 frX12_254 cfX12 at91 rfl rfl ?_
      refine x_imul dX12_readsPair_37 ⟨by omega, by omega⟩ ?_
      refine y_ic dX12_readsPair_38 ⟨by decide, by decide⟩ ?_
      refine y_aln (i := 0) dX12_readsPair_39 at91.ne0 rfl rfl ?_
      refine y_getp (z := 37) (v := 103) dX12_readsPair_40 frX12_56 cfX12 at91 rfl rfl (wp (v := 103) hW rfl rfl (by decide)) ?_
      refine y_aln (i := 0) dX12_readsPair_43 at91.ne0 rfl rfl ?_
      refine y_geti (z := 27) dX12_readsPair_44 frX12_254 cfX12 at91 rfl rfl ?_
      refine x_iald dX12_readsPair_47 ar103 ⟨by omega, by omega⟩ ?_
      refine x_imul dX12_readsPair_48 (by rw [k103]; exact ⟨by omega, by omega⟩) ?_
      refine x_iadd dX12_readsPair_49 (by rw [k103, k27]; exact ⟨by omega, by omega⟩) ?_
      rw [k103, k27]
      refine x_istore_n (i := 1) dX12_readsPair_50 rfl rfl (Nat.le_of_ble_eq_true rfl) ?_
      refine y_aln (i := 0) dX12_readsPair_51 at91.ne0 rfl rfl ?_
      refine y_aln (i := 0) dX12_readsPair_52 at91.ne0 rfl rfl ?_
      refine y_geti (z := 28) dX12_readsPair_53 frX12_251 cfX12 at91 rfl rfl ?_
      refine x_callVI (c_X12_taken (x := ((0 : Int), (0 : Int))) hW (by omega) (RSt.o rfl hg2)) dX12_readsPair_56 lkX12_261 mfX12_taken cfX12 at91 rfl rfl rfl rfl (Nat.le_of_ble_eq_true rfl) (fun r56 I56 P56 hr56 hf56 => ?_)
      rw [chk_0 rfl, k28, ← hc1] at hf56
      obtain ⟨rfl, fr56, rs56, hv56⟩ := hf56
      rw [show i + 1 + 1 = i + 2 by omega] at rs56
      have k28b : I56 91 28 = S 0 2 := (fr56.2 28 (by decide)).trans k28
      have hFr3 : Fr [] pF I I56 := hFr2.tr fr56
      refine x_istore_n (i := 2) dX12_readsPair_59 rfl rfl (Nat.le_of_ble_eq_true rfl) ?_
      refine y_aln (i := 0) dX12_readsPair_60 at91.ne0 rfl rfl ?_
      refine y_aln (i := 0) dX12_readsPair_61 at91.ne0 rfl rfl ?_
      refine y_geti (z := 28) dX12_readsPair_62 frX12_251 cfX12 at91 rfl rfl ?_
      refine x_callVI (c_X12_among hW rs56) dX12_readsPair_65 lkX12_248 mfX12_among cfX12 at91 rfl rfl rfl rfl (Nat.le_of_ble_eq_true rfl) (fun r65 I65 P65 hr65 hf65 => ?_)
      rw [k28b, ← hc2] at hf65
      obtain ⟨rfl, fr65, rs65, h65⟩ := hf65
      have hFr4 : Fr [] pF I I65 := hFr3.tr (fr65.mo (by decide) (by decide))
      refine x_if_eq (tgt := 84) dX12_readsPair_68 rfl (fun h68 => ?_) (fun h68 => ?_)
      · have hbz := (h65.resolve_left (fun q => by have := q.1; omega)).2
        refine x_keep [1, 1, 1, 0, 0] ?_
        first | (have hx : chk (chk c1 c2) ((4 : Int), tkS tp n 1 (i + 2)) = chk (chk c1 c2) c3 := (by rw [hc3, if_pos (by omega)]); rw [hx] at rs81; exact h2 z0 I81 _ rs81 (hFr4.tr (fr81.mo (by decide) (by decide))) (fun q => by rw [k25]; exact ⟨gone, gv1⟩)) | (have hx : chk (chk c1 c2) ((0 : Int), tkS tp n 1 (i + 2)) = chk (chk c1 c2) c3 := (by rw [hc3, if_neg (by omega)]); have rsz := rs65.z (p := tkS tp n 1 (i + 2)); rw [hx] at rsz; exact h2 z0 I65 _ rsz hFr4 (fun q => ⟨gone, gv1⟩)) | exact h2 z0 I65 _ (rs65.b hbz) hFr4 (fun q => absurd (chk_z.mp q).1 hbz)
      · obtain ⟨-, gz, gv1, gv2, gv3⟩ := h65.resolve_right (fun q => by have := q.1; omega)
        have gone := (hv56 (chk_z.mp gz).1).1
        refine y_aln (i := 0) dX12_readsPair_71 at91.ne0 rfl rfl ?_
        refine y_geti (z := 25) dX12_readsPair_72 frX12_211 cfX12 at91 rfl rfl ?_
        refine x_iload_n (i := 2) dX12_readsPair_75 rfl rfl ?_
        refine x_icmp_ne (tgt := 84) dX12_readsPair_76 rfl (fun h76 => ?_) (fun h76 => ?_)
        · refine x_keep [1, 1, 1, 0, 0] ?_
          first | (have hx : chk (chk c1 c2) ((4 : Int), tkS tp n 1 (i + 2)) = chk (chk c1 c2) c3 := (by rw [hc3, if_pos (by omega)]); rw [hx] at rs81; exact h2 z0 I81 _ rs81 (hFr4.tr (fr81.mo (by decide) (by decide))) (fun q => by rw [k25]; exact ⟨gone, gv1⟩)) | (have hx : chk (chk c1 c2) ((0 : Int), tkS tp n 1 (i + 2)) = chk (chk c1 c2) c3 := (by rw [hc3, if_neg (by omega)]); have rsz := rs65.z (p := tkS tp n 1 (i + 2)); rw [hx] at rsz; exact h2 z0 I65 _ rsz hFr4 (fun q => ⟨gone, gv1⟩)) | exact h2 z0 I65 _ (rs65.b hbz) hFr4 (fun q => absurd (chk_z.mp q).1 hbz)
        · refine y_aln (i := 0) dX12_readsPair_79 at91.ne0 rfl rfl ?_
          refine y_ic dX12_readsPair_80 ⟨by decide, by decide⟩ ?_
          refine x_callVV (c_X12_wrong hW rs65 (by decide)) dX12_readsPair_81 lkX12_245 mfX12_wrong cfX12 at91 rfl rfl rfl rfl (Nat.le_of_ble_eq_true rfl) (fun n81 I81 P81 hf81 => ?_)
          obtain ⟨rfl, rfl, fr81, rs81⟩ := hf81
          have k25 : I81 91 25 = I65 91 25 := fr81.2 25 (by decide)
          refine x_keep [1, 1, 1, 0, 0] ?_
          first | (have hx : chk (chk c1 c2) ((4 : Int), tkS tp n 1 (i + 2)) = chk (chk c1 c2) c3 := (by rw [hc3, if_pos (by omega)]); rw [hx] at rs81; exact h2 z0 I81 _ rs81 (hFr4.tr (fr81.mo (by decide) (by decide))) (fun q => by rw [k25]; exact ⟨gone, gv1⟩)) | (have hx : chk (chk c1 c2) ((0 : Int), tkS tp n 1 (i + 2)) = chk (chk c1 c2) c3 := (by rw [hc3, if_neg (by omega)]); have rsz := rs65.z (p := tkS tp n 1 (i + 2)); rw [hx] at rsz; exact h2 z0 I65 _ rsz hFr4 (fun q => ⟨gone, gv1⟩)) | exact h2 z0 I65 _ (rs65.b hbz) hFr4 (fun q => absurd (chk_z.mp q).1 hbz)
    · have hbz := (q20.resolve_left (fun q => by have := q.1; omega)).2
      refine x_vret dX12_readsPair_26 rfl ?_
      exact ⟨rfl, rfl, hFr.mo (by decide) (by decide), RES.bad hRK hbz (by rw [hcp, chk_1 hbz])⟩
  refine y_aln (i := 0) dX12_readsPair_0 at91.ne0 rfl rfl ?_
  refine y_getp (z := 37) (v := 103) dX12_readsPair_1 frX12_56 cfX12 at91 rfl rfl (wp (v := 103) hW rfl rfl (by decide)) ?_
  refine y_aln (i := 0) dX12_readsPair_4 at91.ne0 rfl rfl ?_
  refine y_geti (z := 27) dX12_readsPair_5 frX12_254 cfX12 at91 rfl rfl ?_
  refine x_iald dX12_readsPair_8 ar103 (by rw [e27]; exact ⟨by omega, by omega⟩) ?_
  rw [e27, e103]
  refine y_bi dX12_readsPair_9 ⟨by decide, by decide⟩ ?_
  refine x_icmp_ne (tgt := 19) dX12_readsPair_11 rfl (fun h11 => ?_) (fun h11 => ?_)
  · refine x_keep [1, 0, 0, 0, 0] ?_
    first | exact h1 I16 (by rw [hc0, if_pos (by omega)]; exact rs16) (fr16.mo (by decide) (by decide)) | exact h1 I (by rw [hc0, if_neg (by omega)]; exact RSt.o rfl hG) Fr.rf
  · refine y_aln (i := 0) dX12_readsPair_14 at91.ne0 rfl rfl ?_
    refine y_ic dX12_readsPair_15 ⟨by decide, by decide⟩ ?_
    refine x_callVV (c_X12_wrong hW hR0 (by decide)) dX12_readsPair_16 lkX12_245 mfX12_wrong cfX12 at91 rfl rfl rfl rfl (Nat.le_of_ble_eq_true rfl) (fun n16 I16 P16 hf16 => ?_)
    rw [chk_0 rfl] at hf16
    obtain ⟨rfl, rfl, fr16, rs16⟩ := hf16
    refine x_keep [1, 0, 0, 0, 0] ?_
    first | exact h1 I16 (by rw [hc0, if_pos (by omega)]; exact rs16) (fr16.mo (by decide) (by decide)) | exact h1 I (by rw [hc0, if_neg (by omega)]; exact RSt.o rfl hG) Fr.rf
end

