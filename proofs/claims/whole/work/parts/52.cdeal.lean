/-! ===== the class: deals, ties, meetings, days ===== -/
theorem keepS_lt {T : Tn} {γ : Rw} (hg : 1 ≤ T 0 3) : 0 ≤ keepS T γ ∧ keepS T γ < T 0 3 := by
  unfold keepS
  split
  · omega
  · split
    · omega
    · split <;> omega
def cdB (T : Tn) (a b : Int) (γ : Rw) (c k : Int) : Int := (if c = 8 * a + γ k then -1 else 0) + (if c = 8 * b + γ k then (if T 0 7 = 0 then 1 else 0) else 0)
theorem cd_sum {T : Tn} {a b c : Int} {γ : Rw} (hT : WF T) : sumN (dlS T a b γ c) (T 0 3) = sumN (cdB T a b γ c) (T 0 3) + (if T 0 7 ≠ 0 ∧ c = 8 * b + γ (keepS T γ) then 1 else 0) := by
  have hk := keepS_lt (T := T) (γ := γ) hT.2.2.1.1
  by_cases h7 : T 0 7 = 0
  · rw [if_neg (fun q => q.1 h7), Int.add_zero]
    exact sumN_congr (fun k k0 k1 => by unfold dlS cdB; rw [if_pos (Or.inr h7), if_pos h7])
  · have h1 : sumN (dlS T a b γ c) (T 0 3) = sumN (fun k => cdB T a b γ c k + (if k = keepS T γ then (if c = 8 * b + γ (keepS T γ) then 1 else 0) else 0)) (T 0 3) := sumN_congr (fun k k0 k1 => by
      unfold dlS cdB
      rw [if_neg h7]
      by_cases e : k = keepS T γ
      · rw [if_pos (Or.inl e), if_pos e, e]
        split <;> split <;> omega
      · rw [if_neg (show ¬ (k = keepS T γ ∨ T 0 7 = 0) from fun q => q.elim e h7), if_neg e]; omega)
    rw [h1, sumN_add, sumN_ite hk.1 hk.2]
    congr 1
    by_cases e : c = 8 * b + γ (keepS T γ)
    · rw [if_pos e, if_pos ⟨h7, e⟩]
    · rw [if_neg e, if_neg (fun q => e q.2)]
theorem cd_bd {T : Tn} {a b c k : Int} {γ : Rw} (hk : 0 ≤ k) : -k ≤ sumN (cdB T a b γ c) k ∧ sumN (cdB T a b γ c) k ≤ k := by
  have h := sumN_bd (f := cdB T a b γ c) (n := k) (lo := -1) (hi := 1) hk (fun i _ _ => by
    show -1 ≤ cdB T a b γ c i ∧ cdB T a b γ c i ≤ 1
    unfold cdB
    split <;> split <;> (try split) <;> omega)
  omega
def knxS (T : Tn) (r : Rw) (p t x : Int) : Rw := fun c => r c + x * knotS T (fun _ => 0) p t c
theorem knx_1 {T : Tn} {r : Rw} {p t : Int} : knxS T r p t 1 = knotS T r p t := by
  funext c
  unfold knxS knotS
  dsimp only
  omega
theorem knx_m {T : Tn} {r : Rw} {p t : Int} : knxS T (knotS T r p t) p t (-1) = r := by
  funext c
  unfold knxS knotS
  dsimp only
  omega
section
variable {G : HX} {d : Nat} {I : Mem} {P : Ptr} {T : Tn}
theorem c_X3_isLawful {q t l : Nat} {a b o z : Int} (hW : WP P) (hM : MK I P q t l T) (hF : WF T) (hr : RC (I (q + 1))) (ha : 0 ≤ a ∧ a < 6) (hb : 0 ≤ b ∧ b < 6) (ho : 0 ≤ o ∧ o < OFN T) (hz : 0 ≤ z ∧ z < 8) : Cv G mX3_isLawful (d + 1) 0 0 [.inr (.inl q), .inl a, .inl b, .inl o, .inl z] NO I P (qI NO (fun r I' P' => I' = I ∧ P' = P ∧ ((r = 1 ∧ lawP T (I (q + 1)) a b (OF T o) z) ∨ (r = 0 ∧ ¬ lawP T (I (q + 1)) a b (OF T o) z)))) := by
  have hq := hM.1
  refine x_enter mfX3_isLawful rfl (Nat.le_of_ble_eq_true rfl) (fun _ => ?_)
  refine y_aln (i := 0) dX3_isLawful_0 hq.at.ne0 rfl rfl ?_
  refine x_iload_n (i := 1) dX3_isLawful_1 rfl rfl ?_
  refine x_iload_n (i := 3) dX3_isLawful_2 rfl rfl ?_
  refine x_callVI (c_X3_canGive hW hM hF hr ha ho) dX3_isLawful_3 lkX3_78 mfX3_canGive cfX3 hq.at rfl rfl rfl rfl (Nat.le_of_ble_eq_true rfl) (fun r3 I3 P3 hr3 hf3 => ?_)
  obtain ⟨i3, p3, q3⟩ := hf3
  rw [i3, p3]
  refine x_if_eq (tgt := 24) dX3_isLawful_6 rfl (fun h6 => ?_) (fun h6 => ?_)
  · have hng := (q3.resolve_left (fun q => by have := q.1; omega)).2
    refine y_ic dX3_isLawful_24 ⟨by decide, by decide⟩ ?_
    refine x_zret dX3_isLawful_25 (by omega) rfl ?_
    first | (have z1 := hng; exact ⟨rfl, rfl, Or.inr ⟨rfl, fun h => hng (law_gg.mp h).1⟩⟩) | (have z1 := hng2; exact ⟨rfl, rfl, Or.inr ⟨rfl, fun h => hng2 (law_gg.mp h).2⟩⟩) | (have z1 := hg2; exact ⟨rfl, rfl, Or.inl ⟨rfl, law_gg.mpr ⟨hg, hg2⟩⟩⟩)
  · have hg := (q3.resolve_right (fun q => by have := q.1; omega)).2
    refine y_aln (i := 0) dX3_isLawful_9 hq.at.ne0 rfl rfl ?_
    refine x_iload_n (i := 2) dX3_isLawful_10 rfl rfl ?_
    refine x_iload_n (i := 3) dX3_isLawful_11 rfl rfl ?_
    refine x_iload (i := 4) dX3_isLawful_12 rfl ?_
    refine x_callVI (c_X3_canGet hW hM hF hb ho hz) dX3_isLawful_14 lkX3_82 mfX3_canGet cfX3 hq.at rfl rfl rfl rfl (Nat.le_of_ble_eq_true rfl) (fun r14 I14 P14 hr14 hf14 => ?_)
    obtain ⟨i14, p14, q14⟩ := hf14
    rw [i14, p14]
    refine x_if_eq (tgt := 24) dX3_isLawful_17 rfl (fun h17 => ?_) (fun h17 => ?_)
    · have hng2 := (q14.resolve_left (fun q => by have := q.1; omega)).2
      refine y_ic dX3_isLawful_24 ⟨by decide, by decide⟩ ?_
      refine x_zret dX3_isLawful_25 (by omega) rfl ?_
      first | (have z1 := hng; exact ⟨rfl, rfl, Or.inr ⟨rfl, fun h => hng (law_gg.mp h).1⟩⟩) | (have z1 := hng2; exact ⟨rfl, rfl, Or.inr ⟨rfl, fun h => hng2 (law_gg.mp h).2⟩⟩) | (have z1 := hg2; exact ⟨rfl, rfl, Or.inl ⟨rfl, law_gg.mpr ⟨hg, hg2⟩⟩⟩)
    · have hg2 := (q14.resolve_right (fun q => by have := q.1; omega)).2
      refine y_ic dX3_isLawful_20 ⟨by decide, by decide⟩ ?_
      refine x_goto (tgt := 25) dX3_isLawful_21 rfl ?_
      refine x_zret dX3_isLawful_25 (by omega) rfl ?_
      first | (have z1 := hng; exact ⟨rfl, rfl, Or.inr ⟨rfl, fun h => hng (law_gg.mp h).1⟩⟩) | (have z1 := hng2; exact ⟨rfl, rfl, Or.inr ⟨rfl, fun h => hng2 (law_gg.mp h).2⟩⟩) | (have z1 := hg2; exact ⟨rfl, rfl, Or.inl ⟨rfl, law_gg.mpr ⟨hg, hg2⟩⟩⟩)
theorem c_X3_deal {q t l : Nat} {a b o z x : Int} (hW : WP P) (hM : MK I P q t l T) (hF : WF T) (hr : RC (I (q + 1))) (ha : 0 ≤ a ∧ a < 6) (hb : 0 ≤ b ∧ b < 6) (ho : 0 ≤ o ∧ o < OFN T) (hz : 0 ≤ z ∧ z < 8) (hx : x = 1 ∨ x = -1) : Cv G mX3_deal d 0 0 [.inr (.inl q), .inl a, .inl b, .inl o, .inl z, .inl x] NO I P (qV (fun n' I' P' => n' = NO ∧ I' = uA I (q + 1) (delS T (I (q + 1)) a b (OF T o) z x) ∧ P' = P)) := by
  obtain ⟨hq, hTo, hLo, hpt, hpl, hca, hcl⟩ := id hM
  have wL := wp_L hW hLo
  have hON := OFN_bd hF
  have f3 := hF.2.2.1
  have f7 := hF.2.2.2.2.2.2.1
  obtain ⟨g0, g1, g2, -, g4⟩ := hcl
  obtain ⟨hth, -, hkp, -⟩ := g4 o ho.1 ho.2
  have hO8 : ∀ j, 0 ≤ j → j < 3 → 0 ≤ OF T o j ∧ OF T o j < 8 := fun j j0 j1 => by have := OF_bd hF ho.1 ho.2 j0 j1; have := hF.2.1; omega
  have hkb := keepS_bd T (OF T o)
  have hk8 := hO8 (keepS T (OF T o)) hkb.1 (by omega)
  have hl1 := hLo.1
  have hq1 := hq
  unfold isM at hq1
  have nl : l ≠ q + 1 ∧ l + 1 ≠ q + 1 ∧ l + 3 ≠ q + 1 := by omega
  obtain ⟨γ, hγ⟩ : ∃ γ, γ = OF T o := ⟨_, rfl⟩
  rw [← hγ] at hth hkp hO8 hkb hk8
  refine x_enter mfX3_deal rfl (Nat.le_of_ble_eq_true rfl) (fun _ => ?_)
  rw [← hγ]
  have hfin : ∀ (J : Mem), (∀ c, J (q + 1) c = I (q + 1) c + x * sumN (dlS T a b γ c) (T 0 3)) → (∀ y, y ≠ q + 1 → J y = I y) → V G mX3_deal d 0 0 125 [some (.inr (.inl q)), none, none, none, some (.inl z), some (.inl x), some (.inl (8 * a)), some (.inl (8 * b)), none, none, none] [] NO J P (qV (fun n' I' P' => n' = NO ∧ I' = uA I (q + 1) (delS T (I (q + 1)) a b γ z x) ∧ P' = P)) := fun J hJ hJ2 => by
    have hbd : ∀ c, 0 ≤ c → c < 48 → -10 ≤ J (q + 1) c ∧ J (q + 1) c ≤ 970 := fun c c0 c1 => by
      have q1 := hr c c0 c1
      have q2 := dl_sum_bd (T := T) (a := a) (b := b) (γ := γ) (c := c) (k := T 0 3) (by omega)
      rw [hJ]
      rcases hx with rfl | rfl <;> omega
    refine y_aln (i := 0) dX3_deal_125 hq.at.ne0 rfl rfl ?_
    refine y_getp (z := 2) (v := (q + 1)) dX3_deal_126 frX3_9 cfX3 hq.at rfl rfl (p3_2 hW hq) ?_
    refine x_iload (i := 6) dX3_deal_129 rfl ?_
    refine x_iload (i := 4) dX3_deal_131 rfl ?_
    refine x_iadd dX3_deal_133 ⟨by omega, by omega⟩ ?_
    have w1 := hbd (8 * a + z) (by omega) (by omega)
    have w2 := hbd (8 * b + z) (by omega) (by omega)
    have w3 : ∀ i v, -11 ≤ v → v ≤ 971 → -11 ≤ uI J (q + 1) i v (q + 1) (8 * b + z) ∧ uI J (q + 1) i v (q + 1) (8 * b + z) ≤ 971 := fun i v v0 v1 => by
      rw [uI_eq]
      unfold u1
      split <;> omega
    have w4 := w3 (8 * a + z) (J (q + 1) (8 * a + z) + x) (by omega) (by omega)
    refine x_dup2 dX3_deal_134 rfl rfl ?_
    refine x_iald dX3_deal_135 (a3_2 hq) ⟨by omega, by omega⟩ ?_
    refine x_iload (i := 5) dX3_deal_136 rfl ?_
    refine x_iadd dX3_deal_138 ⟨by omega, by omega⟩ ?_
    refine x_iast dX3_deal_139 (a3_2 hq) ⟨by omega, by omega⟩ ?_
    refine y_aln (i := 0) dX3_deal_140 hq.at.ne0 rfl rfl ?_
    refine y_getp (z := 2) (v := (q + 1)) dX3_deal_141 frX3_9 cfX3 hq.at rfl rfl (p3_2 hW hq) ?_
    refine x_iload (i := 7) dX3_deal_144 rfl ?_
    refine x_iload (i := 4) dX3_deal_146 rfl ?_
    refine x_iadd dX3_deal_148 ⟨by omega, by omega⟩ ?_
    refine x_dup2 dX3_deal_149 rfl rfl ?_
    refine x_iald dX3_deal_150 (a3_2 hq) ⟨by omega, by omega⟩ ?_
    refine x_iload (i := 5) dX3_deal_151 rfl ?_
    refine x_isub dX3_deal_153 ⟨by omega, by omega⟩ ?_
    refine x_iast dX3_deal_154 (a3_2 hq) ⟨by omega, by omega⟩ ?_
    refine x_vret dX3_deal_155 rfl ?_
    refine ⟨rfl, mem_eq (fun c => ?_) (fun y hy => by rw [uI_ne hy, uI_ne hy]; exact hJ2 y hy), rfl⟩
    simp only [uI_eq]
    rw [bump2 (x := x) (y := -x) rfl (by omega), hJ]
    unfold delS ddS
    rw [Int.mul_sub, Int.mul_add]
    rcases hx with rfl | rfl <;> split <;> split <;> omega
  have hL : ∀ (j : Nat) (k : Int) (J : Mem), (T 0 3 - k).toNat < j → 0 ≤ k → k ≤ T 0 3 → (∀ c, J (q + 1) c = I (q + 1) c + x * sumN (cdB T a b γ c) k) → (∀ y, y ≠ q + 1 → J y = I y) → V G mX3_deal d 0 0 20 [some (.inr (.inl q)), none, none, some (.inl o), some (.inl z), some (.inl x), some (.inl (8 * a)), some (.inl (8 * b)), some (.inl (3 * o)), some (.inl k), none] [] NO J P (qV (fun n' I' P' => n' = NO ∧ I' = uA I (q + 1) (delS T (I (q + 1)) a b γ z x) ∧ P' = P)) := by
    intro j
    induction j with
    | zero => intro k J hj; omega
    | succ j ih =>
      intro k J hj hk hk2 hJ hJ2
      have e0 : J l 0 = T 0 3 := by rw [hJ2 l nl.1]; exact g0
      have e2 : J l 2 = T 0 7 := by rw [hJ2 l nl.1]; exact g2
      have e1 : J (l + 1) = I (l + 1) := hJ2 (l + 1) nl.2.1
      have e3 : J (l + 3) = I (l + 3) := hJ2 (l + 3) nl.2.2
      have hbd : ∀ c, 0 ≤ c → c < 48 → -5 ≤ J (q + 1) c ∧ J (q + 1) c ≤ 965 := fun c h0 h1 => by
        have q1 := hr c h0 h1
        have q2 := cd_bd (T := T) (a := a) (b := b) (γ := γ) (c := c) hk
        rw [hJ]
        rcases hx with rfl | rfl <;> omega
      have nx : ∀ J2 : Mem, k < T 0 3 → (∀ c, J2 (q + 1) c = J (q + 1) c + x * cdB T a b γ c k) → (∀ y, y ≠ q + 1 → J2 y = J y) → V G mX3_deal d 0 0 87 [some (.inr (.inl q)), none, none, some (.inl o), some (.inl z), some (.inl x), some (.inl (8 * a)), some (.inl (8 * b)), some (.inl (3 * o)), some (.inl k), none] [] NO J2 P (qV (fun n' I' P' => n' = NO ∧ I' = uA I (q + 1) (delS T (I (q + 1)) a b γ z x) ∧ P' = P)) := fun J2 hk3 h1 h2 => by
        refine x_iinc dX3_deal_87 rfl ⟨by omega, by omega⟩ rfl (Nat.le_of_ble_eq_true rfl) ?_
        refine x_goto (tgt := 20) dX3_deal_90 rfl ?_
        refine x_keep [1, 0, 0, 1, 1, 1, 1, 1, 1, 1, 0] ?_
        refine ih (k + 1) J2 (by omega) (by omega) (by omega) (fun c => ?_) (fun y hy => (h2 y hy).trans (hJ2 y hy))
        rw [h1, hJ, sumN_s _ hk, Int.mul_add, Int.add_assoc]
      refine x_iload (i := 9) dX3_deal_20 rfl ?_
      refine y_aln (i := 0) dX3_deal_22 hq.at.ne0 rfl rfl ?_
      refine y_getp (z := 1) (v := l) dX3_deal_23 frX3_25 cfX3 hq.at rfl rfl hpl ?_
      refine y_geti (z := 0) dX3_deal_26 frX3_92 cfX2 hLo.at rfl rfl ?_
      refine x_icmp_ge (tgt := 93) dX3_deal_29 rfl (fun h29 => ?_) (fun h29 => ?_)
      · refine y_aln (i := 0) dX3_deal_93 hq.at.ne0 rfl rfl ?_
        refine y_getp (z := 1) (v := l) dX3_deal_94 frX3_25 cfX3 hq.at rfl rfl hpl ?_
        refine y_geti (z := 2) dX3_deal_97 frX3_101 cfX2 hLo.at rfl rfl ?_
        rw [e2]
        refine x_if_eq (tgt := 125) dX3_deal_100 rfl (fun h100 => ?_) (fun h100 => ?_)
        · have b0 : T 0 7 = 0 := by omega
          refine x_keep [1, 0, 0, 0, 1, 1, 1, 1, 0, 0, 0] ?_
          first | (have z1 := b1; refine hfin _ (fun c => ?_) (fun y hy => by rw [uI_ne hy]; exact hJ2 y hy); rw [uI_eq, bump1 (x := x) rfl, hJ, cd_sum hF, show k = T 0 3 by omega, Int.mul_add, Int.add_assoc]; congr 1; congr 1; by_cases e : c = 8 * b + γ (keepS T γ); (rw [if_pos e, if_pos ⟨b1, e⟩, Int.mul_one]); (rw [if_neg e, if_neg (fun q => e q.2), Int.mul_zero])) | (have z1 := b0; refine hfin J (fun c => ?_) hJ2; rw [hJ, cd_sum hF, show k = T 0 3 by omega, if_neg (fun q => q.1 b0), Int.add_zero])
        · have b1 : ¬ T 0 7 = 0 := h100
          refine y_aln (i := 0) dX3_deal_103 hq.at.ne0 rfl rfl ?_
          refine y_getp (z := 2) (v := (q + 1)) dX3_deal_104 frX3_9 cfX3 hq.at rfl rfl (p3_2 hW hq) ?_
          refine x_iload (i := 7) dX3_deal_107 rfl ?_
          refine y_aln (i := 0) dX3_deal_109 hq.at.ne0 rfl rfl ?_
          refine y_getp (z := 1) (v := l) dX3_deal_110 frX3_25 cfX3 hq.at rfl rfl hpl ?_
          refine y_getp (z := 6) (v := (l + 3)) dX3_deal_113 frX3_105 cfX2 hLo.at rfl rfl (p2_6 wL hLo) ?_
          refine x_iload_n (i := 3) dX3_deal_116 rfl rfl ?_
          refine x_iald dX3_deal_117 (a2_6 hLo) ⟨by omega, by omega⟩ ?_
          rw [e3, hkp]
          refine x_iadd dX3_deal_118 ⟨by omega, by omega⟩ ?_
          have q5 := hbd (8 * b + γ (keepS T γ)) (by omega) (by omega)
          refine x_dup2 dX3_deal_119 rfl rfl ?_
          refine x_iald dX3_deal_120 (a3_2 hq) ⟨by omega, by omega⟩ ?_
          refine x_iload (i := 5) dX3_deal_121 rfl ?_
          refine x_iadd dX3_deal_123 ⟨by omega, by omega⟩ ?_
          refine x_iast dX3_deal_124 (a3_2 hq) ⟨by omega, by omega⟩ ?_
          refine x_keep [1, 0, 0, 0, 1, 1, 1, 1, 0, 0, 0] ?_
          first | (have z1 := b1; refine hfin _ (fun c => ?_) (fun y hy => by rw [uI_ne hy]; exact hJ2 y hy); rw [uI_eq, bump1 (x := x) rfl, hJ, cd_sum hF, show k = T 0 3 by omega, Int.mul_add, Int.add_assoc]; congr 1; congr 1; by_cases e : c = 8 * b + γ (keepS T γ); (rw [if_pos e, if_pos ⟨b1, e⟩, Int.mul_one]); (rw [if_neg e, if_neg (fun q => e q.2), Int.mul_zero])) | (have z1 := b0; refine hfin J (fun c => ?_) hJ2; rw [hJ, cd_sum hF, show k = T 0 3 by omega, if_neg (fun q => q.1 b0), Int.add_zero])
      · have ht := hth k hk (by omega)
        have hgk := hO8 k hk (by omega)
        refine y_aln (i := 0) dX3_deal_32 hq.at.ne0 rfl rfl ?_
        refine y_getp (z := 1) (v := l) dX3_deal_33 frX3_25 cfX3 hq.at rfl rfl hpl ?_
        refine y_getp (z := 4) (v := (l + 1)) dX3_deal_36 frX3_95 cfX2 hLo.at rfl rfl (p2_4 wL hLo) ?_
        refine x_iload (i := 8) dX3_deal_39 rfl ?_
        refine x_iload (i := 9) dX3_deal_41 rfl ?_
        refine x_iadd dX3_deal_43 ⟨by omega, by omega⟩ ?_
        refine x_iald dX3_deal_44 (a2_4 hLo) ⟨by omega, by omega⟩ ?_
        rw [e1, ht]
        refine x_istore (i := 10) dX3_deal_45 rfl (Nat.le_of_ble_eq_true rfl) ?_
        refine y_aln (i := 0) dX3_deal_47 hq.at.ne0 rfl rfl ?_
        refine y_getp (z := 2) (v := (q + 1)) dX3_deal_48 frX3_9 cfX3 hq.at rfl rfl (p3_2 hW hq) ?_
        refine x_iload (i := 6) dX3_deal_51 rfl ?_
        refine x_iload (i := 10) dX3_deal_53 rfl ?_
        refine x_iadd dX3_deal_55 ⟨by omega, by omega⟩ ?_
        have q1 := hbd (8 * a + γ k) (by omega) (by omega)
        have q2 := hbd (8 * b + γ k) (by omega) (by omega)
        have q3 : ∀ i v, -6 ≤ v → v ≤ 966 → -6 ≤ uI J (q + 1) i v (q + 1) (8 * b + γ k) ∧ uI J (q + 1) i v (q + 1) (8 * b + γ k) ≤ 966 := fun i v h3 h4 => by
          rw [uI_eq]
          unfold u1
          split <;> omega
        have q4 := q3 (8 * a + γ k) (J (q + 1) (8 * a + γ k) - x) (by omega) (by omega)
        refine x_dup2 dX3_deal_56 rfl rfl ?_
        refine x_iald dX3_deal_57 (a3_2 hq) ⟨by omega, by omega⟩ ?_
        refine x_iload (i := 5) dX3_deal_58 rfl ?_
        refine x_isub dX3_deal_60 ⟨by omega, by omega⟩ ?_
        refine x_iast dX3_deal_61 (a3_2 hq) ⟨by omega, by omega⟩ ?_
        refine y_aln (i := 0) dX3_deal_62 hq.at.ne0 rfl rfl ?_
        refine y_getp (z := 1) (v := l) dX3_deal_63 frX3_25 cfX3 hq.at rfl rfl hpl ?_
        refine y_geti (z := 2) dX3_deal_66 frX3_101 cfX2 hLo.at rfl rfl ?_
        rw [uI_ne nl.1, e2]
        refine x_if_ne (tgt := 87) dX3_deal_69 rfl (fun h69 => ?_) (fun h69 => ?_)
        · have b1 : ¬ T 0 7 = 0 := h69
          refine x_keep [1, 0, 0, 1, 1, 1, 1, 1, 1, 1, 0] ?_
          first | (have z1 := b1; refine nx _ (by omega) (fun c => ?_) (fun y hy => uI_ne hy); rw [uI_eq, bump1 (x := -x) (by omega)]; unfold cdB; rw [if_neg b1]; rcases hx with rfl | rfl <;> split <;> split <;> omega) | (have z1 := b0; refine nx _ (by omega) (fun c => ?_) (fun y hy => by rw [uI_ne hy, uI_ne hy]); simp only [uI_eq]; rw [bump2 (x := -x) (y := x) (by omega) rfl]; unfold cdB; rw [if_pos b0]; rcases hx with rfl | rfl <;> split <;> split <;> omega)
        · have b0 : T 0 7 = 0 := by omega
          refine y_aln (i := 0) dX3_deal_72 hq.at.ne0 rfl rfl ?_
          refine y_getp (z := 2) (v := (q + 1)) dX3_deal_73 frX3_9 cfX3 hq.at rfl rfl (p3_2 hW hq) ?_
          refine x_iload (i := 7) dX3_deal_76 rfl ?_
          refine x_iload (i := 10) dX3_deal_78 rfl ?_
          refine x_iadd dX3_deal_80 ⟨by omega, by omega⟩ ?_
          refine x_dup2 dX3_deal_81 rfl rfl ?_
          refine x_iald dX3_deal_82 (a3_2 hq) ⟨by omega, by omega⟩ ?_
          refine x_iload (i := 5) dX3_deal_83 rfl ?_
          refine x_iadd dX3_deal_85 ⟨by omega, by omega⟩ ?_
          refine x_iast dX3_deal_86 (a3_2 hq) ⟨by omega, by omega⟩ ?_
          refine x_keep [1, 0, 0, 1, 1, 1, 1, 1, 1, 1, 0] ?_
          first | (have z1 := b1; refine nx _ (by omega) (fun c => ?_) (fun y hy => uI_ne hy); rw [uI_eq, bump1 (x := -x) (by omega)]; unfold cdB; rw [if_neg b1]; rcases hx with rfl | rfl <;> split <;> split <;> omega) | (have z1 := b0; refine nx _ (by omega) (fun c => ?_) (fun y hy => by rw [uI_ne hy, uI_ne hy]); simp only [uI_eq]; rw [bump2 (x := -x) (y := x) (by omega) rfl]; unfold cdB; rw [if_pos b0]; rcases hx with rfl | rfl <;> split <;> split <;> omega)
  refine x_iload_n (i := 1) dX3_deal_0 rfl rfl ?_
  refine y_bi dX3_deal_1 ⟨by decide, by decide⟩ ?_
  refine x_imul dX3_deal_3 ⟨by omega, by omega⟩ ?_
  rw [Int.mul_comm a 8]
  refine x_istore (i := 6) dX3_deal_4 rfl (Nat.le_of_ble_eq_true rfl) ?_
  refine x_iload_n (i := 2) dX3_deal_6 rfl rfl ?_
  refine y_bi dX3_deal_7 ⟨by decide, by decide⟩ ?_
  refine x_imul dX3_deal_9 ⟨by omega, by omega⟩ ?_
  rw [Int.mul_comm b 8]
  refine x_istore (i := 7) dX3_deal_10 rfl (Nat.le_of_ble_eq_true rfl) ?_
  refine x_iload_n (i := 3) dX3_deal_12 rfl rfl ?_
  refine y_ic dX3_deal_13 ⟨by decide, by decide⟩ ?_
  refine x_imul dX3_deal_14 ⟨by omega, by omega⟩ ?_
  rw [Int.mul_comm o 3]
  refine x_istore (i := 8) dX3_deal_15 rfl (Nat.le_of_ble_eq_true rfl) ?_
  refine y_ic dX3_deal_17 ⟨by decide, by decide⟩ ?_
  refine x_istore (i := 9) dX3_deal_18 rfl (Nat.le_of_ble_eq_true rfl) ?_
  refine x_keep [1, 0, 0, 1, 1, 1, 1, 1, 1, 1, 0] ?_
  exact hL _ 0 I (Nat.lt_succ_self _) (Int.le_refl 0) (by omega) (fun c => by rw [sumN_0, Int.mul_zero, Int.add_zero]) (fun _ _ => rfl)
theorem c_X3_canTie {q t l : Nat} {p x : Int} (hW : WP P) (hM : MK I P q t l T) (hF : WF T) (hp : 0 ≤ p ∧ p < T 0 1) (hx : 0 ≤ x ∧ x < T 0 5) : Cv G mX3_canTie d 0 0 [.inr (.inl q), .inl p, .inl x] NO I P (qI NO (fun r I' P' => I' = I ∧ P' = P ∧ ((r = 1 ∧ tieP T (I (q + 1)) p x) ∨ (r = 0 ∧ ¬ tieP T (I (q + 1)) p x)))) := by
  obtain ⟨hq, hTo, hLo, hpt, hpl, hca, hcl⟩ := id hM
  have wT := wp_T hW hTo
  have f1 := hF.1
  have f2 := hF.2.1
  have f5 := hF.2.2.2.2.1
  have f12 := hF.2.2.2.2.2.2.2.2.2.2.2.1 x
  have q0 := f12 0 hx.1 hx.2 (by decide) (by decide)
  have q1 := f12 1 hx.1 hx.2 (by decide) (by decide)
  rw [Int.add_zero] at q0
  obtain ⟨k1, k2, k3⟩ := hca.2.2.2.2.2.2.2.1 x hx.1 hx.2
  refine x_enter mfX3_canTie rfl (Nat.le_of_ble_eq_true rfl) (fun _ => ?_)
  refine x_iload_n (i := 1) dX3_canTie_0 rfl rfl ?_
  refine y_bi dX3_canTie_1 ⟨by decide, by decide⟩ ?_
  refine x_imul dX3_canTie_3 ⟨by omega, by omega⟩ ?_
  rw [Int.mul_comm p 8]
  refine x_istore_n (i := 3) dX3_canTie_4 rfl rfl (Nat.le_of_ble_eq_true rfl) ?_
  refine y_aln (i := 0) dX3_canTie_5 hq.at.ne0 rfl rfl ?_
  refine y_getp (z := 0) (v := t) dX3_canTie_6 frX3_15 cfX3 hq.at rfl rfl hpt ?_
  refine y_getp (z := 11) (v := (t + 8)) dX3_canTie_9 frX3_108 cfX10 hTo.at rfl rfl (p10_11 wT hTo) ?_
  refine x_iload_n (i := 2) dX3_canTie_12 rfl rfl ?_
  refine x_iald dX3_canTie_13 (a10_11 hTo) ⟨by omega, by omega⟩ ?_
  rw [k1]
  refine x_istore (i := 4) dX3_canTie_14 rfl (Nat.le_of_ble_eq_true rfl) ?_
  refine y_aln (i := 0) dX3_canTie_16 hq.at.ne0 rfl rfl ?_
  refine y_getp (z := 0) (v := t) dX3_canTie_17 frX3_15 cfX3 hq.at rfl rfl hpt ?_
  refine y_getp (z := 12) (v := (t + 9)) dX3_canTie_20 frX3_111 cfX10 hTo.at rfl rfl (p10_12 wT hTo) ?_
  refine x_iload_n (i := 2) dX3_canTie_23 rfl rfl ?_
  refine x_iald dX3_canTie_24 (a10_12 hTo) ⟨by omega, by omega⟩ ?_
  rw [k2]
  refine x_istore (i := 5) dX3_canTie_25 rfl (Nat.le_of_ble_eq_true rfl) ?_
  refine x_iload (i := 4) dX3_canTie_27 rfl ?_
  refine x_iload (i := 5) dX3_canTie_29 rfl ?_
  refine x_icmp_ne (tgt := 53) dX3_canTie_31 rfl (fun h31 => ?_) (fun h31 => ?_)
  · refine y_aln (i := 0) dX3_canTie_53 hq.at.ne0 rfl rfl ?_
    refine y_getp (z := 2) (v := (q + 1)) dX3_canTie_54 frX3_9 cfX3 hq.at rfl rfl (p3_2 hW hq) ?_
    refine x_iload_n (i := 3) dX3_canTie_57 rfl rfl ?_
    refine x_iload (i := 4) dX3_canTie_58 rfl ?_
    refine x_iadd dX3_canTie_60 ⟨by omega, by omega⟩ ?_
    refine x_iald dX3_canTie_61 (a3_2 hq) ⟨by omega, by omega⟩ ?_
    refine x_if_le (tgt := 81) dX3_canTie_62 rfl (fun h62 => ?_) (fun h62 => ?_)
    · refine y_ic dX3_canTie_81 ⟨by decide, by decide⟩ ?_
      refine x_zret dX3_canTie_82 (by omega) rfl ?_
      refine ⟨rfl, rfl, ?_⟩
      unfold tieP
      first | exact Or.inl ⟨rfl, by rw [if_neg (by omega)]; omega⟩ | exact Or.inr ⟨rfl, by rw [if_neg (by omega)]; omega⟩
    · refine y_aln (i := 0) dX3_canTie_65 hq.at.ne0 rfl rfl ?_
      refine y_getp (z := 2) (v := (q + 1)) dX3_canTie_66 frX3_9 cfX3 hq.at rfl rfl (p3_2 hW hq) ?_
      refine x_iload_n (i := 3) dX3_canTie_69 rfl rfl ?_
      refine x_iload (i := 5) dX3_canTie_70 rfl ?_
      refine x_iadd dX3_canTie_72 ⟨by omega, by omega⟩ ?_
      refine x_iald dX3_canTie_73 (a3_2 hq) ⟨by omega, by omega⟩ ?_
      refine x_if_le (tgt := 81) dX3_canTie_74 rfl (fun h74 => ?_) (fun h74 => ?_)
      · refine y_ic dX3_canTie_81 ⟨by decide, by decide⟩ ?_
        refine x_zret dX3_canTie_82 (by omega) rfl ?_
        refine ⟨rfl, rfl, ?_⟩
        unfold tieP
        first | exact Or.inl ⟨rfl, by rw [if_neg (by omega)]; omega⟩ | exact Or.inr ⟨rfl, by rw [if_neg (by omega)]; omega⟩
      · refine y_ic dX3_canTie_77 ⟨by decide, by decide⟩ ?_
        refine x_goto (tgt := 82) dX3_canTie_78 rfl ?_
        refine x_zret dX3_canTie_82 (by omega) rfl ?_
        refine ⟨rfl, rfl, ?_⟩
        unfold tieP
        first | exact Or.inl ⟨rfl, by rw [if_neg (by omega)]; omega⟩ | exact Or.inr ⟨rfl, by rw [if_neg (by omega)]; omega⟩
  · refine y_aln (i := 0) dX3_canTie_34 hq.at.ne0 rfl rfl ?_
    refine y_getp (z := 2) (v := (q + 1)) dX3_canTie_35 frX3_9 cfX3 hq.at rfl rfl (p3_2 hW hq) ?_
    refine x_iload_n (i := 3) dX3_canTie_38 rfl rfl ?_
    refine x_iload (i := 4) dX3_canTie_39 rfl ?_
    refine x_iadd dX3_canTie_41 ⟨by omega, by omega⟩ ?_
    refine x_iald dX3_canTie_42 (a3_2 hq) ⟨by omega, by omega⟩ ?_
    refine y_ic dX3_canTie_43 ⟨by decide, by decide⟩ ?_
    refine x_icmp_le (tgt := 51) dX3_canTie_44 rfl (fun h44 => ?_) (fun h44 => ?_)
    · refine y_ic dX3_canTie_51 ⟨by decide, by decide⟩ ?_
      refine x_zret dX3_canTie_52 (by omega) rfl ?_
      refine ⟨rfl, rfl, ?_⟩
      unfold tieP
      first | exact Or.inl ⟨rfl, by rw [if_pos (by omega)]; omega⟩ | exact Or.inr ⟨rfl, by rw [if_pos (by omega)]; omega⟩
    · refine y_ic dX3_canTie_47 ⟨by decide, by decide⟩ ?_
      refine x_goto (tgt := 52) dX3_canTie_48 rfl ?_
      refine x_zret dX3_canTie_52 (by omega) rfl ?_
      refine ⟨rfl, rfl, ?_⟩
      unfold tieP
      first | exact Or.inl ⟨rfl, by rw [if_pos (by omega)]; omega⟩ | exact Or.inr ⟨rfl, by rw [if_pos (by omega)]; omega⟩
theorem c_X3_knot {q t l : Nat} {p y x : Int} (hW : WP P) (hM : MK I P q t l T) (hF : WF T) (hr : RC (I (q + 1))) (hp : 0 ≤ p ∧ p < T 0 1) (hy : 0 ≤ y ∧ y < T 0 5) (hx : x = 1 ∨ x = -1) : Cv G mX3_knot d 0 0 [.inr (.inl q), .inl p, .inl y, .inl x] NO I P (qV (fun n' I' P' => n' = NO ∧ I' = uA I (q + 1) (knxS T (I (q + 1)) p y x) ∧ P' = P)) := by
  obtain ⟨hq, hTo, hLo, hpt, hpl, hca, hcl⟩ := id hM
  have wT := wp_T hW hTo
  have f1 := hF.1
  have f2 := hF.2.1
  have f5 := hF.2.2.2.2.1
  have f12 := hF.2.2.2.2.2.2.2.2.2.2.2.1 y
  have q0 := f12 0 hy.1 hy.2 (by decide) (by decide)
  have q1 := f12 1 hy.1 hy.2 (by decide) (by decide)
  have q2 := f12 2 hy.1 hy.2 (by decide) (by decide)
  rw [Int.add_zero] at q0
  obtain ⟨k1, k2, k3⟩ := hca.2.2.2.2.2.2.2.1 y hy.1 hy.2
  have b0 := hr (8 * p + T 5 (3 * y)) (by omega) (by omega)
  have b1 := hr (8 * p + T 5 (3 * y + 1)) (by omega) (by omega)
  have b2 := hr (8 * p + T 5 (3 * y + 2)) (by omega) (by omega)
  have ht1 := hTo.1
  have hq1 := hq
  unfold isM at hq1
  have nt : t + 9 ≠ q + 1 ∧ t + 10 ≠ q + 1 := by omega
  refine x_enter mfX3_knot rfl (Nat.le_of_ble_eq_true rfl) (fun _ => ?_)
  refine x_iload_n (i := 1) dX3_knot_0 rfl rfl ?_
  refine y_bi dX3_knot_1 ⟨by decide, by decide⟩ ?_
  refine x_imul dX3_knot_3 ⟨by omega, by omega⟩ ?_
  rw [Int.mul_comm p 8]
  refine x_istore (i := 4) dX3_knot_4 rfl (Nat.le_of_ble_eq_true rfl) ?_
  refine y_aln (i := 0) dX3_knot_6 hq.at.ne0 rfl rfl ?_
  refine y_getp (z := 2) (v := (q + 1)) dX3_knot_7 frX3_9 cfX3 hq.at rfl rfl (p3_2 hW hq) ?_
  refine x_iload (i := 4) dX3_knot_10 rfl ?_
  refine y_aln (i := 0) dX3_knot_12 hq.at.ne0 rfl rfl ?_
  refine y_getp (z := 0) (v := t) dX3_knot_13 frX3_15 cfX3 hq.at rfl rfl hpt ?_
  refine y_getp (z := 11) (v := (t + 8)) dX3_knot_16 frX3_108 cfX10 hTo.at rfl rfl (p10_11 wT hTo) ?_
  refine x_iload_n (i := 2) dX3_knot_19 rfl rfl ?_
  refine x_iald dX3_knot_20 (a10_11 hTo) ⟨by omega, by omega⟩ ?_
  rw [k1]
  refine x_iadd dX3_knot_21 ⟨by omega, by omega⟩ ?_
  skip
  refine x_dup2 dX3_knot_22 rfl rfl ?_
  refine x_iald dX3_knot_23 (a3_2 hq) ⟨by omega, by omega⟩ ?_
  refine x_iload_n (i := 3) dX3_knot_24 rfl rfl ?_
  refine x_isub dX3_knot_25 ⟨by omega, by omega⟩ ?_
  refine x_iast dX3_knot_26 (a3_2 hq) ⟨by omega, by omega⟩ ?_
  refine x_gen (x := -x) (by omega) (fun J1 v1 w1 => ?_)
  refine y_aln (i := 0) dX3_knot_27 hq.at.ne0 rfl rfl ?_
  refine y_getp (z := 2) (v := (q + 1)) dX3_knot_28 frX3_9 cfX3 hq.at rfl rfl (p3_2 hW hq) ?_
  refine x_iload (i := 4) dX3_knot_31 rfl ?_
  refine y_aln (i := 0) dX3_knot_33 hq.at.ne0 rfl rfl ?_
  refine y_getp (z := 0) (v := t) dX3_knot_34 frX3_15 cfX3 hq.at rfl rfl hpt ?_
  refine y_getp (z := 12) (v := (t + 9)) dX3_knot_37 frX3_111 cfX10 hTo.at rfl rfl (p10_12 wT hTo) ?_
  refine x_iload_n (i := 2) dX3_knot_40 rfl rfl ?_
  refine x_iald dX3_knot_41 (a10_12 hTo) ⟨by omega, by omega⟩ ?_
  rw [w1 _ nt.1, k2]
  refine x_iadd dX3_knot_42 ⟨by omega, by omega⟩ ?_
  have c1 := v1 (8 * p + T 5 (3 * y + 1))
  refine x_dup2 dX3_knot_43 rfl rfl ?_
  refine x_iald dX3_knot_44 (a3_2 hq) ⟨by omega, by omega⟩ ?_
  refine x_iload_n (i := 3) dX3_knot_45 rfl rfl ?_
  refine x_isub dX3_knot_46 ⟨by omega, by omega⟩ ?_
  refine x_iast dX3_knot_47 (a3_2 hq) ⟨by omega, by omega⟩ ?_
  refine x_gen (x := -x) (by omega) (fun J2 v2 w2 => ?_)
  refine y_aln (i := 0) dX3_knot_48 hq.at.ne0 rfl rfl ?_
  refine y_getp (z := 2) (v := (q + 1)) dX3_knot_49 frX3_9 cfX3 hq.at rfl rfl (p3_2 hW hq) ?_
  refine x_iload (i := 4) dX3_knot_52 rfl ?_
  refine y_aln (i := 0) dX3_knot_54 hq.at.ne0 rfl rfl ?_
  refine y_getp (z := 0) (v := t) dX3_knot_55 frX3_15 cfX3 hq.at rfl rfl hpt ?_
  refine y_getp (z := 13) (v := (t + 10)) dX3_knot_58 frX3_114 cfX10 hTo.at rfl rfl (p10_13 wT hTo) ?_
  refine x_iload_n (i := 2) dX3_knot_61 rfl rfl ?_
  refine x_iald dX3_knot_62 (a10_13 hTo) ⟨by omega, by omega⟩ ?_
  rw [w2 _ nt.2, w1 _ nt.2, k3]
  refine x_iadd dX3_knot_63 ⟨by omega, by omega⟩ ?_
  have c2 := v2 (8 * p + T 5 (3 * y + 2))
  rw [v1] at c2
  refine x_dup2 dX3_knot_64 rfl rfl ?_
  refine x_iald dX3_knot_65 (a3_2 hq) ⟨by omega, by omega⟩ ?_
  refine x_iload_n (i := 3) dX3_knot_66 rfl rfl ?_
  refine x_iadd dX3_knot_67 ⟨by omega, by omega⟩ ?_
  refine x_iast dX3_knot_68 (a3_2 hq) ⟨by omega, by omega⟩ ?_
  refine x_gen (x := x) (by omega) (fun J3 v3 w3 => ?_)
  refine x_vret dX3_knot_69 rfl ?_
  refine ⟨rfl, mem_eq (fun c => ?_) (fun z hz => by rw [w3 z hz, w2 z hz, w1 z hz]), rfl⟩
  rw [v3, v2, v1]
  unfold knxS knotS
  dsimp only
  rcases hx with rfl | rfl <;> split <;> split <;> split <;> omega
end

