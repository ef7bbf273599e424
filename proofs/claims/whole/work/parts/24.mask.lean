/-! ===== the reference: what is asked, trades and ties done ===== -/
section
variable {G : HX} {d : Nat} {I : Mem} {P : Ptr} {T : Tn}
theorem x_gen {Y : MI} {kc ks pc : Nat} {lv : LV} {st : List AV} {n a : Nat} {Q : QT} {i v x : Int} (hv : v = I a i + x) (k : ∀ J : Mem, (∀ c, J a c = I a c + (if c = i then x else 0)) → (∀ b, b ≠ a → J b = I b) → V G Y d kc ks pc lv st n J P Q) : V G Y d kc ks pc lv st n (uI I a i v) P Q := k _ (fun c => by rw [uI_eq]; exact bump1 hv) (fun b hb => uI_ne hb)
theorem c_X12_mayTie {of : Nat} {p t : Int} (hW : WP P) (hT : MT I T) (hF : WF T) (hA : AR NO of 20 48) (hp : 0 ≤ p ∧ p < T 0 1) (ht : 0 ≤ t ∧ t < T 0 5) : Cv G mX12_mayTie d 0 0 [.inr (.inl 91), .inr (.inl of), .inl p, .inl t] NO I P (qI NO (fun r I' P' => I' = I ∧ P' = P ∧ ((r = 1 ∧ tieP T (I of) p t) ∨ (r = 0 ∧ ¬ tieP T (I of) p t)))) := by
  have f1 := hF.1
  have f2 := hF.2.1
  have f5 := hF.2.2.2.2.1
  have f12 := hF.2.2.2.2.2.2.2.2.2.2.2.1 t
  have q0 := f12 0 ht.1 ht.2 (by decide) (by decide)
  have q1 := f12 1 ht.1 ht.2 (by decide) (by decide)
  rw [Int.add_zero] at q0
  have e96 : I 96 = T 5 := hT.2.2.2.2.2.1
  refine x_enter mfX12_mayTie rfl (Nat.le_of_ble_eq_true rfl) (fun _ => ?_)
  refine y_aln (i := 0) dX12_mayTie_0 at91.ne0 rfl rfl ?_
  refine y_getp (z := 12) (v := 96) dX12_mayTie_1 frX12_32 cfX12 at91 rfl rfl (wp (v := 96) hW rfl rfl (by decide)) ?_
  refine y_ic dX12_mayTie_4 ⟨by decide, by decide⟩ ?_
  refine x_iload_n (i := 3) dX12_mayTie_5 rfl rfl ?_
  refine x_imul dX12_mayTie_6 ⟨by omega, by omega⟩ ?_
  refine x_iald dX12_mayTie_7 ar96 ⟨by omega, by omega⟩ ?_
  rw [e96]
  refine x_istore (i := 4) dX12_mayTie_8 rfl (Nat.le_of_ble_eq_true rfl) ?_
  refine y_aln (i := 0) dX12_mayTie_10 at91.ne0 rfl rfl ?_
  refine y_getp (z := 12) (v := 96) dX12_mayTie_11 frX12_32 cfX12 at91 rfl rfl (wp (v := 96) hW rfl rfl (by decide)) ?_
  refine y_ic dX12_mayTie_14 ⟨by decide, by decide⟩ ?_
  refine x_iload_n (i := 3) dX12_mayTie_15 rfl rfl ?_
  refine x_imul dX12_mayTie_16 ⟨by omega, by omega⟩ ?_
  refine y_ic dX12_mayTie_17 ⟨by decide, by decide⟩ ?_
  refine x_iadd dX12_mayTie_18 ⟨by omega, by omega⟩ ?_
  refine x_iald dX12_mayTie_19 ar96 ⟨by omega, by omega⟩ ?_
  rw [e96]
  refine x_istore (i := 5) dX12_mayTie_20 rfl (Nat.le_of_ble_eq_true rfl) ?_
  refine x_iload (i := 4) dX12_mayTie_22 rfl ?_
  refine x_iload (i := 5) dX12_mayTie_24 rfl ?_
  refine x_icmp_ne (tgt := 50) dX12_mayTie_26 rfl (fun h26 => ?_) (fun h26 => ?_)
  · refine y_aln (i := 1) dX12_mayTie_50 hA.ne0 rfl rfl ?_
    refine y_bi dX12_mayTie_51 ⟨by decide, by decide⟩ ?_
    refine x_iload_n (i := 2) dX12_mayTie_53 rfl rfl ?_
    refine x_imul dX12_mayTie_54 ⟨by omega, by omega⟩ ?_
    refine x_iload (i := 4) dX12_mayTie_55 rfl ?_
    refine x_iadd dX12_mayTie_57 ⟨by omega, by omega⟩ ?_
    refine x_iald dX12_mayTie_58 hA ⟨by omega, by omega⟩ ?_
    refine x_if_le (tgt := 78) dX12_mayTie_59 rfl (fun h59 => ?_) (fun h59 => ?_)
    · refine y_ic dX12_mayTie_78 ⟨by decide, by decide⟩ ?_
      refine x_zret dX12_mayTie_79 (by omega) rfl ?_
      refine ⟨rfl, rfl, ?_⟩
      unfold tieP
      first | exact Or.inl ⟨rfl, by rw [if_pos (by omega)]; omega⟩ | exact Or.inl ⟨rfl, by rw [if_neg (by omega)]; omega⟩ | exact Or.inr ⟨rfl, by rw [if_pos (by omega)]; omega⟩ | exact Or.inr ⟨rfl, by rw [if_neg (by omega)]; omega⟩
    · refine y_aln (i := 1) dX12_mayTie_62 hA.ne0 rfl rfl ?_
      refine y_bi dX12_mayTie_63 ⟨by decide, by decide⟩ ?_
      refine x_iload_n (i := 2) dX12_mayTie_65 rfl rfl ?_
      refine x_imul dX12_mayTie_66 ⟨by omega, by omega⟩ ?_
      refine x_iload (i := 5) dX12_mayTie_67 rfl ?_
      refine x_iadd dX12_mayTie_69 ⟨by omega, by omega⟩ ?_
      refine x_iald dX12_mayTie_70 hA ⟨by omega, by omega⟩ ?_
      refine x_if_le (tgt := 78) dX12_mayTie_71 rfl (fun h71 => ?_) (fun h71 => ?_)
      · refine y_ic dX12_mayTie_78 ⟨by decide, by decide⟩ ?_
        refine x_zret dX12_mayTie_79 (by omega) rfl ?_
        refine ⟨rfl, rfl, ?_⟩
        unfold tieP
        first | exact Or.inl ⟨rfl, by rw [if_pos (by omega)]; omega⟩ | exact Or.inl ⟨rfl, by rw [if_neg (by omega)]; omega⟩ | exact Or.inr ⟨rfl, by rw [if_pos (by omega)]; omega⟩ | exact Or.inr ⟨rfl, by rw [if_neg (by omega)]; omega⟩
      · refine y_ic dX12_mayTie_74 ⟨by decide, by decide⟩ ?_
        refine x_goto (tgt := 79) dX12_mayTie_75 rfl ?_
        refine x_zret dX12_mayTie_79 (by omega) rfl ?_
        refine ⟨rfl, rfl, ?_⟩
        unfold tieP
        first | exact Or.inl ⟨rfl, by rw [if_pos (by omega)]; omega⟩ | exact Or.inl ⟨rfl, by rw [if_neg (by omega)]; omega⟩ | exact Or.inr ⟨rfl, by rw [if_pos (by omega)]; omega⟩ | exact Or.inr ⟨rfl, by rw [if_neg (by omega)]; omega⟩
  · refine y_aln (i := 1) dX12_mayTie_29 hA.ne0 rfl rfl ?_
    refine y_bi dX12_mayTie_30 ⟨by decide, by decide⟩ ?_
    refine x_iload_n (i := 2) dX12_mayTie_32 rfl rfl ?_
    refine x_imul dX12_mayTie_33 ⟨by omega, by omega⟩ ?_
    refine x_iload (i := 4) dX12_mayTie_34 rfl ?_
    refine x_iadd dX12_mayTie_36 ⟨by omega, by omega⟩ ?_
    refine x_iald dX12_mayTie_37 hA ⟨by omega, by omega⟩ ?_
    refine y_ic dX12_mayTie_38 ⟨by decide, by decide⟩ ?_
    refine x_icmp_le (tgt := 46) dX12_mayTie_39 rfl (fun h39 => ?_) (fun h39 => ?_)
    · refine y_ic dX12_mayTie_46 ⟨by decide, by decide⟩ ?_
      refine x_goto (tgt := 79) dX12_mayTie_47 rfl ?_
      refine x_zret dX12_mayTie_79 (by omega) rfl ?_
      refine ⟨rfl, rfl, ?_⟩
      unfold tieP
      first | exact Or.inl ⟨rfl, by rw [if_pos (by omega)]; omega⟩ | exact Or.inl ⟨rfl, by rw [if_neg (by omega)]; omega⟩ | exact Or.inr ⟨rfl, by rw [if_pos (by omega)]; omega⟩ | exact Or.inr ⟨rfl, by rw [if_neg (by omega)]; omega⟩
    · refine y_ic dX12_mayTie_42 ⟨by decide, by decide⟩ ?_
      refine x_goto (tgt := 79) dX12_mayTie_43 rfl ?_
      refine x_zret dX12_mayTie_79 (by omega) rfl ?_
      refine ⟨rfl, rfl, ?_⟩
      unfold tieP
      first | exact Or.inl ⟨rfl, by rw [if_pos (by omega)]; omega⟩ | exact Or.inl ⟨rfl, by rw [if_neg (by omega)]; omega⟩ | exact Or.inr ⟨rfl, by rw [if_pos (by omega)]; omega⟩ | exact Or.inr ⟨rfl, by rw [if_neg (by omega)]; omega⟩
theorem c_X12_ties0 {of : Nat} {p t : Int} (hW : WP P) (hT : MT I T) (hF : WF T) (hA : AR NO of 20 48) (h9 : of < 92 ∨ 97 < of) (hr : RC (I of)) (hp : 0 ≤ p ∧ p < T 0 1) (ht : 0 ≤ t ∧ t < T 0 5) : Cv G mX12_ties0 d 0 0 [.inr (.inl 91), .inr (.inl of), .inl p, .inl t] NO I P (qV (fun n I' P' => n = NO ∧ I' = uA I of (knotS T (I of) p t) ∧ P' = P)) := by
  have f1 := hF.1
  have f2 := hF.2.1
  have f5 := hF.2.2.2.2.1
  have f12 := hF.2.2.2.2.2.2.2.2.2.2.2.1 t
  have q0 := f12 0 ht.1 ht.2 (by decide) (by decide)
  have q1 := f12 1 ht.1 ht.2 (by decide) (by decide)
  have q2 := f12 2 ht.1 ht.2 (by decide) (by decide)
  rw [Int.add_zero] at q0
  have e96 : I 96 = T 5 := hT.2.2.2.2.2.1
  have b0 := hr (8 * p + T 5 (3 * t)) (by omega) (by omega)
  have b1 := hr (8 * p + T 5 (3 * t + 1)) (by omega) (by omega)
  have b2 := hr (8 * p + T 5 (3 * t + 2)) (by omega) (by omega)
  have n96 : 96 ≠ of := by omega
  refine x_enter mfX12_ties0 rfl (Nat.le_of_ble_eq_true rfl) (fun _ => ?_)
  refine y_aln (i := 1) dX12_ties0_0 hA.ne0 rfl rfl ?_
  refine y_bi dX12_ties0_1 ⟨by decide, by decide⟩ ?_
  refine x_iload_n (i := 2) dX12_ties0_3 rfl rfl ?_
  refine x_imul dX12_ties0_4 ⟨by omega, by omega⟩ ?_
  refine y_aln (i := 0) dX12_ties0_5 at91.ne0 rfl rfl ?_
  refine y_getp (z := 12) (v := 96) dX12_ties0_6 frX12_32 cfX12 at91 rfl rfl (wp (v := 96) hW rfl rfl (by decide)) ?_
  refine y_ic dX12_ties0_9 ⟨by decide, by decide⟩ ?_
  refine x_iload_n (i := 3) dX12_ties0_10 rfl rfl ?_
  refine x_imul dX12_ties0_11 ⟨by omega, by omega⟩ ?_
  refine x_iald dX12_ties0_12 ar96 ⟨by omega, by omega⟩ ?_
  rw [e96]
  refine x_iadd dX12_ties0_13 ⟨by omega, by omega⟩ ?_
  refine x_dup2 dX12_ties0_14 rfl rfl ?_
  refine x_iald dX12_ties0_15 hA ⟨by omega, by omega⟩ ?_
  refine y_ic dX12_ties0_16 ⟨by decide, by decide⟩ ?_
  refine x_isub dX12_ties0_17 ⟨by omega, by omega⟩ ?_
  refine x_iast dX12_ties0_18 hA ⟨by omega, by omega⟩ ?_
  refine x_gen (x := -1) (by omega) (fun J1 v1 w1 => ?_)
  refine y_aln (i := 1) dX12_ties0_19 hA.ne0 rfl rfl ?_
  refine y_bi dX12_ties0_20 ⟨by decide, by decide⟩ ?_
  refine x_iload_n (i := 2) dX12_ties0_22 rfl rfl ?_
  refine x_imul dX12_ties0_23 ⟨by omega, by omega⟩ ?_
  refine y_aln (i := 0) dX12_ties0_24 at91.ne0 rfl rfl ?_
  refine y_getp (z := 12) (v := 96) dX12_ties0_25 frX12_32 cfX12 at91 rfl rfl (wp (v := 96) hW rfl rfl (by decide)) ?_
  refine y_ic dX12_ties0_28 ⟨by decide, by decide⟩ ?_
  refine x_iload_n (i := 3) dX12_ties0_29 rfl rfl ?_
  refine x_imul dX12_ties0_30 ⟨by omega, by omega⟩ ?_
  refine y_ic dX12_ties0_31 ⟨by decide, by decide⟩ ?_
  refine x_iadd dX12_ties0_32 ⟨by omega, by omega⟩ ?_
  refine x_iald dX12_ties0_33 ar96 ⟨by omega, by omega⟩ ?_
  rw [w1 96 n96, e96]
  refine x_iadd dX12_ties0_34 ⟨by omega, by omega⟩ ?_
  refine x_dup2 dX12_ties0_35 rfl rfl ?_
  have c1 := v1 (8 * p + T 5 (3 * t + 1))
  refine x_iald dX12_ties0_36 hA ⟨by omega, by omega⟩ ?_
  refine y_ic dX12_ties0_37 ⟨by decide, by decide⟩ ?_
  refine x_isub dX12_ties0_38 ⟨by omega, by omega⟩ ?_
  refine x_iast dX12_ties0_39 hA ⟨by omega, by omega⟩ ?_
  refine x_gen (x := -1) (by omega) (fun J2 v2 w2 => ?_)
  refine y_aln (i := 1) dX12_ties0_40 hA.ne0 rfl rfl ?_
  refine y_bi dX12_ties0_41 ⟨by decide, by decide⟩ ?_
  refine x_iload_n (i := 2) dX12_ties0_43 rfl rfl ?_
  refine x_imul dX12_ties0_44 ⟨by omega, by omega⟩ ?_
  refine y_aln (i := 0) dX12_ties0_45 at91.ne0 rfl rfl ?_
  refine y_getp (z := 12) (v := 96) dX12_ties0_46 frX12_32 cfX12 at91 rfl rfl (wp (v := 96) hW rfl rfl (by decide)) ?_
  refine y_ic dX12_ties0_49 ⟨by decide, by decide⟩ ?_
  refine x_iload_n (i := 3) dX12_ties0_50 rfl rfl ?_
  refine x_imul dX12_ties0_51 ⟨by omega, by omega⟩ ?_
  refine y_ic dX12_ties0_52 ⟨by decide, by decide⟩ ?_
  refine x_iadd dX12_ties0_53 ⟨by omega, by omega⟩ ?_
  refine x_iald dX12_ties0_54 ar96 ⟨by omega, by omega⟩ ?_
  rw [w2 96 n96, w1 96 n96, e96]
  refine x_iadd dX12_ties0_55 ⟨by omega, by omega⟩ ?_
  refine x_dup2 dX12_ties0_56 rfl rfl ?_
  have c2 := v2 (8 * p + T 5 (3 * t + 2))
  rw [v1] at c2
  refine x_iald dX12_ties0_57 hA ⟨by omega, by omega⟩ ?_
  refine y_ic dX12_ties0_58 ⟨by decide, by decide⟩ ?_
  refine x_iadd dX12_ties0_59 ⟨by omega, by omega⟩ ?_
  refine x_iast dX12_ties0_60 hA ⟨by omega, by omega⟩ ?_
  refine x_gen (x := 1) (by omega) (fun J3 v3 w3 => ?_)
  refine x_vret dX12_ties0_61 rfl ?_
  refine ⟨rfl, mem_eq (fun c => ?_) (fun x hx => by rw [w3 x hx, w2 x hx, w1 x hx]), rfl⟩
  rw [v3, v2, v1]
  unfold knotS
  split <;> split <;> split <;> omega
theorem c_X12_reads {v : Int} (hW : WP P) (hT : MT I T) (hF : WF T) : Cv G mX12_reads d 0 0 [.inr (.inl 91), .inl v] NO I P (qI NO (fun r I' P' => P' = P ∧ ((r = 1 ∧ vdS T v ∧ (∀ j, 0 ≤ j → j < T 0 3 → I' 111 j = dgS (T 0 3) v j)) ∨ (r = 0 ∧ ¬ vdS T v)) ∧ Fr [111] [] I I')) := by
  have f2 := hF.2.1
  have f3 := hF.2.2.1
  refine x_enter mfX12_reads rfl (Nat.le_of_ble_eq_true rfl) (fun _ => ?_)
  refine x_rng 1 rfl (fun hw => ?_)
  obtain ⟨w1, w2⟩ := hw
  have hL : ∀ (j : Nat) (k u g : Int) (K : Mem), (k + 1).toNat < j → -1 ≤ k → k < T 0 3 → ((g = 0 ∧ ¬ vdS T v) ∨ (g = 1 ∧ 0 ≤ v ∧ u = v / pwS (T 0 3) k ∧ (∀ j, k < j → j < T 0 3 → K 111 j = dgS (T 0 3) v j ∧ 0 ≤ dgS (T 0 3) v j ∧ dgS (T 0 3) v j < T 0 2) ∧ (∀ j, k < j → j + 1 < T 0 3 → dgS (T 0 3) v j ≤ dgS (T 0 3) v (j + 1)))) → Fr [111] [] I K → V G mX12_reads d 0 0 20 [some (.inr (.inl 91)), none, some (.inl (u)), some (.inl (g)), some (.inl (k))] [] NO K P (qI NO (fun r I' P' => P' = P ∧ ((r = 1 ∧ vdS T v ∧ (∀ j, 0 ≤ j → j < T 0 3 → I' 111 j = dgS (T 0 3) v j)) ∨ (r = 0 ∧ ¬ vdS T v)) ∧ Fr [111] [] I I')) := by
    intro j
    induction j with
    | zero => intro k u g K hj; omega
    | succ j ih =>
      intro k u g K hj hk hk2 hg hFr
      have hTK := hT.fr hFr
      have e2 : K 91 2 = T 0 2 := hTK.1 2 (by decide) (by decide)
      have e3 : K 91 3 = T 0 3 := hTK.1 3 (by decide) (by decide)
      have hpw := pwS_bd (T 0 3) k
      have hu : g = 1 → 0 ≤ u ∧ u ≤ v := fun q => by
        rcases hg with ⟨q2, _⟩ | ⟨_, q2, q3, _⟩
        · omega
        · rw [q3]; exact ⟨Int.ediv_nonneg q2 (by omega), Int.ediv_le_self _ q2⟩
      have stop : (k < 0 ∨ g = 0) → ∀ (r : Int), (r = 1 ∧ g ≠ 0 ∧ u = 0 ∨ r = 0 ∧ (g = 0 ∨ u ≠ 0)) → (r = 1 ∧ vdS T v ∧ (∀ j, 0 ≤ j → j < T 0 3 → K 111 j = dgS (T 0 3) v j)) ∨ (r = 0 ∧ ¬ vdS T v) := fun hs r hr => by
        rcases hg with ⟨q1, q2⟩ | ⟨q1, q2, q3, q4, q5⟩
        · exact Or.inr ⟨by omega, q2⟩
        · have ek : k = -1 := by omega
          have e9 := pwS_s (k := 0) f3 (by omega) (by omega)
          rw [ek] at q3
          rw [show (0 : Int) - 1 = -1 by omega] at e9
          rw [e9] at q3
          have hb := pwS_bd (T 0 3) 0
          have hdiv : u = 0 ↔ v < 9 * pwS (T 0 3) 0 := by
            rw [q3]
            constructor
            · intro h; exact Int.not_le.mp (fun h2 => by have := Int.le_ediv_of_mul_le (a := 1) (c := 9 * pwS (T 0 3) 0) (b := v) (by omega) (by omega); omega)
            · intro h; exact Int.ediv_eq_zero_of_lt q2 h
          rcases hr with ⟨r1, r2, r3⟩ | ⟨r1, r2⟩
          · exact Or.inl ⟨r1, ⟨q2, hdiv.mp r3, fun j h0 h1 => ⟨(q4 j (by omega) h1).2, fun h2 => q5 j (by omega) h2⟩⟩, fun j h0 h1 => (q4 j (by omega) h1).1⟩
          · exact Or.inr ⟨r1, fun h => by have := hdiv.mpr h.2.1; omega⟩
      refine x_iload (i := 4) dX12_reads_20 rfl ?_
      refine x_if_lt (tgt := 113) dX12_reads_22 rfl (fun h22 => ?_) (fun h22 => ?_)
      · refine x_iload_n (i := 3) dX12_reads_113 rfl rfl ?_
        refine x_if_eq (tgt := 125) dX12_reads_114 rfl (fun h114 => ?_) (fun h114 => ?_)
        · refine y_ic dX12_reads_125 ⟨by decide, by decide⟩ ?_
          refine x_zret dX12_reads_126 (by omega) rfl ?_
          first | exact ⟨rfl, stop (by omega) 1 (by omega), hFr⟩ | exact ⟨rfl, stop (by omega) 0 (by omega), hFr⟩
        · refine x_iload_n (i := 2) dX12_reads_117 rfl rfl ?_
          refine x_if_ne (tgt := 125) dX12_reads_118 rfl (fun h118 => ?_) (fun h118 => ?_)
          · refine y_ic dX12_reads_125 ⟨by decide, by decide⟩ ?_
            refine x_zret dX12_reads_126 (by omega) rfl ?_
            first | exact ⟨rfl, stop (by omega) 1 (by omega), hFr⟩ | exact ⟨rfl, stop (by omega) 0 (by omega), hFr⟩
          · refine y_ic dX12_reads_121 ⟨by decide, by decide⟩ ?_
            refine x_goto (tgt := 126) dX12_reads_122 rfl ?_
            refine x_zret dX12_reads_126 (by omega) rfl ?_
            first | exact ⟨rfl, stop (by omega) 1 (by omega), hFr⟩ | exact ⟨rfl, stop (by omega) 0 (by omega), hFr⟩
      · refine x_iload_n (i := 3) dX12_reads_25 rfl rfl ?_
        refine x_if_eq (tgt := 113) dX12_reads_26 rfl (fun h26 => ?_) (fun h26 => ?_)
        · refine x_iload_n (i := 3) dX12_reads_113 rfl rfl ?_
          refine x_if_eq (tgt := 125) dX12_reads_114 rfl (fun h114 => ?_) (fun h114 => ?_)
          · refine y_ic dX12_reads_125 ⟨by decide, by decide⟩ ?_
            refine x_zret dX12_reads_126 (by omega) rfl ?_
            first | exact ⟨rfl, stop (by omega) 1 (by omega), hFr⟩ | exact ⟨rfl, stop (by omega) 0 (by omega), hFr⟩
          · refine x_iload_n (i := 2) dX12_reads_117 rfl rfl ?_
            refine x_if_ne (tgt := 125) dX12_reads_118 rfl (fun h118 => ?_) (fun h118 => ?_)
            · refine y_ic dX12_reads_125 ⟨by decide, by decide⟩ ?_
              refine x_zret dX12_reads_126 (by omega) rfl ?_
              first | exact ⟨rfl, stop (by omega) 1 (by omega), hFr⟩ | exact ⟨rfl, stop (by omega) 0 (by omega), hFr⟩
            · refine y_ic dX12_reads_121 ⟨by decide, by decide⟩ ?_
              refine x_goto (tgt := 126) dX12_reads_122 rfl ?_
              refine x_zret dX12_reads_126 (by omega) rfl ?_
              first | exact ⟨rfl, stop (by omega) 1 (by omega), hFr⟩ | exact ⟨rfl, stop (by omega) 0 (by omega), hFr⟩
        · have hg1 : g = 1 ∧ 0 ≤ v ∧ u = v / pwS (T 0 3) k ∧ (∀ j, k < j → j < T 0 3 → K 111 j = dgS (T 0 3) v j ∧ 0 ≤ dgS (T 0 3) v j ∧ dgS (T 0 3) v j < T 0 2) ∧ (∀ j, k < j → j + 1 < T 0 3 → dgS (T 0 3) v j ≤ dgS (T 0 3) v (j + 1)) := hg.resolve_left (fun q => h26 q.1)
          obtain ⟨g1, g2, g3, g4, g5⟩ := hg1
          have hu2 := hu g1
          have ed : u % 9 - 1 = dgS (T 0 3) v k := by rw [g3]; rfl
          have bd := dgS_bd (T 0 3) v k
          have ed9 : u / 9 = v / pwS (T 0 3) (k - 1) := by rw [g3, pwS_s f3 (by omega) hk2, Int.mul_comm 9, Int.ediv_ediv_of_nonneg (by omega)]
          refine y_aln (i := 0) dX12_reads_29 at91.ne0 rfl rfl ?_
          refine y_getp (z := 45) (v := 111) dX12_reads_30 frX12_81 cfX12 at91 rfl rfl (wp (v := 111) hW rfl rfl (by decide)) ?_
          refine x_iload (i := 4) dX12_reads_33 rfl ?_
          refine x_iload_n (i := 2) dX12_reads_35 rfl rfl ?_
          refine y_bi dX12_reads_36 ⟨by decide, by decide⟩ ?_
          refine x_irem dX12_reads_38 (by omega) (by omega) ?_
          refine y_ic dX12_reads_39 ⟨by decide, by decide⟩ ?_
          refine x_isub dX12_reads_40 ⟨by omega, by omega⟩ ?_
          refine x_iast dX12_reads_41 ar111 ⟨by omega, by omega⟩ ?_
          rw [ed]
          have hFr2 : Fr [111] [] I (uI K 111 k (dgS (T 0 3) v k)) := hFr.ui (by decide) (by decide)
          have y2 : uI K 111 k (dgS (T 0 3) v k) 91 2 = T 0 2 := by rw [uI_ne (by decide)]; exact e2
          have y3 : uI K 111 k (dgS (T 0 3) v k) 91 3 = T 0 3 := by rw [uI_ne (by decide)]; exact e3
          have y4 : uI K 111 k (dgS (T 0 3) v k) 111 k = dgS (T 0 3) v k := by rw [uI_eq, u1_eq]
          have y5 : k + 1 < T 0 3 → uI K 111 k (dgS (T 0 3) v k) 111 (k + 1) = dgS (T 0 3) v (k + 1) := fun q => by rw [uI_eq, u1_ne (by omega)]; exact (g4 (k + 1) (by omega) q).1
          have nx : ∀ g', (g' = 0 ∧ ¬ vdS T v) ∨ (g' = 1 ∧ (0 ≤ dgS (T 0 3) v k ∧ dgS (T 0 3) v k < T 0 2) ∧ (k + 1 < T 0 3 → dgS (T 0 3) v k ≤ dgS (T 0 3) v (k + 1))) → V G mX12_reads d 0 0 20 [some (.inr (.inl 91)), none, some (.inl (u / 9)), some (.inl (g')), some (.inl (k - 1))] [] NO (uI K 111 k (dgS (T 0 3) v k)) P (qI NO (fun r I' P' => P' = P ∧ ((r = 1 ∧ vdS T v ∧ (∀ j, 0 ≤ j → j < T 0 3 → I' 111 j = dgS (T 0 3) v j)) ∨ (r = 0 ∧ ¬ vdS T v)) ∧ Fr [111] [] I I')) := fun g' hg' => by
            refine ih (k - 1) (u / 9) g' _ (by omega) (by omega) (by omega) ?_ hFr2
            rcases hg' with hg' | ⟨q1, q2, q3⟩
            · exact Or.inl hg'
            · refine Or.inr ⟨q1, g2, ed9, fun j h0 h1 => ?_, fun j h0 h1 => ?_⟩
              · by_cases e : j = k
                · rw [e]; exact ⟨y4, q2⟩
                · rw [uI_eq, u1_ne e]; exact g4 j (by omega) h1
              · by_cases e : j = k
                · rw [e] at h1 ⊢; exact q3 h1
                · exact g5 j (by omega) h1
          refine x_iload_n (i := 2) dX12_reads_42 rfl rfl ?_
          refine y_bi dX12_reads_43 ⟨by decide, by decide⟩ ?_
          refine x_idiv dX12_reads_45 (by omega) (by omega) ?_
          refine x_istore_n (i := 2) dX12_reads_46 rfl rfl (Nat.le_of_ble_eq_true rfl) ?_
          refine y_aln (i := 0) dX12_reads_47 at91.ne0 rfl rfl ?_
          refine y_getp (z := 45) (v := 111) dX12_reads_48 frX12_81 cfX12 at91 rfl rfl (wp (v := 111) hW rfl rfl (by decide)) ?_
          refine x_iload (i := 4) dX12_reads_51 rfl ?_
          refine x_iald dX12_reads_53 ar111 ⟨by omega, by omega⟩ ?_
          refine x_if_lt (tgt := 105) dX12_reads_54 rfl (fun h54 => ?_) (fun h54 => ?_)
          · refine y_ic dX12_reads_105 ⟨by decide, by decide⟩ ?_
            refine x_istore_n (i := 3) dX12_reads_106 rfl rfl (Nat.le_of_ble_eq_true rfl) ?_
            refine x_iinc dX12_reads_107 rfl ⟨by omega, by omega⟩ rfl (Nat.le_of_ble_eq_true rfl) ?_
            refine x_goto (tgt := 20) dX12_reads_110 rfl ?_
            refine x_keep [1, 0, 1, 1, 1] ?_
            first | exact nx 1 (Or.inr ⟨rfl, by omega, fun q => by have := y5 q; omega⟩) | exact nx 0 (Or.inl ⟨rfl, fun h => by have h9 := h.2.2 k (by omega) hk2; by_cases q : k + 1 < T 0 3; (have := h9.2 q; have := y5 q; omega); omega⟩)
          · refine y_aln (i := 0) dX12_reads_57 at91.ne0 rfl rfl ?_
            refine y_getp (z := 45) (v := 111) dX12_reads_58 frX12_81 cfX12 at91 rfl rfl (wp (v := 111) hW rfl rfl (by decide)) ?_
            refine x_iload (i := 4) dX12_reads_61 rfl ?_
            refine x_iald dX12_reads_63 ar111 ⟨by omega, by omega⟩ ?_
            refine y_aln (i := 0) dX12_reads_64 at91.ne0 rfl rfl ?_
            refine y_geti (z := 2) dX12_reads_65 frX12_7 cfX12 at91 rfl rfl ?_
            refine x_icmp_ge (tgt := 105) dX12_reads_68 rfl (fun h68 => ?_) (fun h68 => ?_)
            · refine y_ic dX12_reads_105 ⟨by decide, by decide⟩ ?_
              refine x_istore_n (i := 3) dX12_reads_106 rfl rfl (Nat.le_of_ble_eq_true rfl) ?_
              refine x_iinc dX12_reads_107 rfl ⟨by omega, by omega⟩ rfl (Nat.le_of_ble_eq_true rfl) ?_
              refine x_goto (tgt := 20) dX12_reads_110 rfl ?_
              refine x_keep [1, 0, 1, 1, 1] ?_
              first | exact nx 1 (Or.inr ⟨rfl, by omega, fun q => by have := y5 q; omega⟩) | exact nx 0 (Or.inl ⟨rfl, fun h => by have h9 := h.2.2 k (by omega) hk2; by_cases q : k + 1 < T 0 3; (have := h9.2 q; have := y5 q; omega); omega⟩)
            · refine x_iload (i := 4) dX12_reads_71 rfl ?_
              refine y_aln (i := 0) dX12_reads_73 at91.ne0 rfl rfl ?_
              refine y_geti (z := 3) dX12_reads_74 frX12_13 cfX12 at91 rfl rfl ?_
              refine y_ic dX12_reads_77 ⟨by decide, by decide⟩ ?_
              refine x_isub dX12_reads_78 ⟨by omega, by omega⟩ ?_
              refine x_icmp_eq (tgt := 101) dX12_reads_79 rfl (fun h79 => ?_) (fun h79 => ?_)
              · refine y_ic dX12_reads_101 ⟨by decide, by decide⟩ ?_
                refine x_goto (tgt := 106) dX12_reads_102 rfl ?_
                refine x_istore_n (i := 3) dX12_reads_106 rfl rfl (Nat.le_of_ble_eq_true rfl) ?_
                refine x_iinc dX12_reads_107 rfl ⟨by omega, by omega⟩ rfl (Nat.le_of_ble_eq_true rfl) ?_
                refine x_goto (tgt := 20) dX12_reads_110 rfl ?_
                refine x_keep [1, 0, 1, 1, 1] ?_
                first | exact nx 1 (Or.inr ⟨rfl, by omega, fun q => by have := y5 q; omega⟩) | exact nx 0 (Or.inl ⟨rfl, fun h => by have h9 := h.2.2 k (by omega) hk2; by_cases q : k + 1 < T 0 3; (have := h9.2 q; have := y5 q; omega); omega⟩)
              · refine y_aln (i := 0) dX12_reads_82 at91.ne0 rfl rfl ?_
                refine y_getp (z := 45) (v := 111) dX12_reads_83 frX12_81 cfX12 at91 rfl rfl (wp (v := 111) hW rfl rfl (by decide)) ?_
                refine x_iload (i := 4) dX12_reads_86 rfl ?_
                refine x_iald dX12_reads_88 ar111 ⟨by omega, by omega⟩ ?_
                refine y_aln (i := 0) dX12_reads_89 at91.ne0 rfl rfl ?_
                refine y_getp (z := 45) (v := 111) dX12_reads_90 frX12_81 cfX12 at91 rfl rfl (wp (v := 111) hW rfl rfl (by decide)) ?_
                refine x_iload (i := 4) dX12_reads_93 rfl ?_
                refine y_ic dX12_reads_95 ⟨by decide, by decide⟩ ?_
                refine x_iadd dX12_reads_96 ⟨by omega, by omega⟩ ?_
                refine x_iald dX12_reads_97 ar111 ⟨by omega, by omega⟩ ?_
                refine x_icmp_gt (tgt := 105) dX12_reads_98 rfl (fun h98 => ?_) (fun h98 => ?_)
                · refine y_ic dX12_reads_105 ⟨by decide, by decide⟩ ?_
                  refine x_istore_n (i := 3) dX12_reads_106 rfl rfl (Nat.le_of_ble_eq_true rfl) ?_
                  refine x_iinc dX12_reads_107 rfl ⟨by omega, by omega⟩ rfl (Nat.le_of_ble_eq_true rfl) ?_
                  refine x_goto (tgt := 20) dX12_reads_110 rfl ?_
                  refine x_keep [1, 0, 1, 1, 1] ?_
                  first | exact nx 1 (Or.inr ⟨rfl, by omega, fun q => by have := y5 q; omega⟩) | exact nx 0 (Or.inl ⟨rfl, fun h => by have h9 := h.2.2 k (by omega) hk2; by_cases q : k + 1 < T 0 3; (have := h9.2 q; have := y5 q; omega); omega⟩)
                · refine y_ic dX12_reads_101 ⟨by decide, by decide⟩ ?_
                  refine x_goto (tgt := 106) dX12_reads_102 rfl ?_
                  refine x_istore_n (i := 3) dX12_reads_106 rfl rfl (Nat.le_of_ble_eq_true rfl) ?_
                  refine x_iinc dX12_reads_107 rfl ⟨by omega, by omega⟩ rfl (Nat.le_of_ble_eq_true rfl) ?_
                  refine x_goto (tgt := 20) dX12_reads_110 rfl ?_
                  refine x_keep [1, 0, 1, 1, 1] ?_
                  first | exact nx 1 (Or.inr ⟨rfl, by omega, fun q => by have := y5 q; omega⟩) | exact nx 0 (Or.inl ⟨rfl, fun h => by have h9 := h.2.2 k (by omega) hk2; by_cases q : k + 1 < T 0 3; (have := h9.2 q; have := y5 q; omega); omega⟩)
  have e3 : I 91 3 = T 0 3 := hT.1 3 (by decide) (by decide)
  have ini : v = v / pwS (T 0 3) (T 0 3 - 1) := by rw [pwS_l, Int.ediv_one]
  refine x_iload_n (i := 1) dX12_reads_0 rfl rfl ?_
  refine x_istore_n (i := 2) dX12_reads_1 rfl rfl (Nat.le_of_ble_eq_true rfl) ?_
  refine x_iload_n (i := 1) dX12_reads_2 rfl rfl ?_
  refine x_if_lt (tgt := 10) dX12_reads_3 rfl (fun h3 => ?_) (fun h3 => ?_)
  · refine y_ic dX12_reads_10 ⟨by decide, by decide⟩ ?_
    refine x_istore_n (i := 3) dX12_reads_11 rfl rfl (Nat.le_of_ble_eq_true rfl) ?_
    refine y_aln (i := 0) dX12_reads_12 at91.ne0 rfl rfl ?_
    refine y_geti (z := 3) dX12_reads_13 frX12_13 cfX12 at91 rfl rfl ?_
    refine y_ic dX12_reads_16 ⟨by decide, by decide⟩ ?_
    refine x_isub dX12_reads_17 ⟨by omega, by omega⟩ ?_
    refine x_istore (i := 4) dX12_reads_18 rfl (Nat.le_of_ble_eq_true rfl) ?_
    refine x_keep [1, 0, 1, 1, 1] ?_
    rw [e3]; first | exact hL _ _ _ _ _ (Nat.lt_succ_self _) (by omega) (by omega) (Or.inr ⟨rfl, by omega, ini, fun j h0 h1 => by omega, fun j h0 h1 => by omega⟩) Fr.rf | exact hL _ _ _ _ _ (Nat.lt_succ_self _) (by omega) (by omega) (Or.inl ⟨rfl, fun h => by have := h.1; omega⟩) Fr.rf
  · refine y_ic dX12_reads_6 ⟨by decide, by decide⟩ ?_
    refine x_goto (tgt := 11) dX12_reads_7 rfl ?_
    refine x_istore_n (i := 3) dX12_reads_11 rfl rfl (Nat.le_of_ble_eq_true rfl) ?_
    refine y_aln (i := 0) dX12_reads_12 at91.ne0 rfl rfl ?_
    refine y_geti (z := 3) dX12_reads_13 frX12_13 cfX12 at91 rfl rfl ?_
    refine y_ic dX12_reads_16 ⟨by decide, by decide⟩ ?_
    refine x_isub dX12_reads_17 ⟨by omega, by omega⟩ ?_
    refine x_istore (i := 4) dX12_reads_18 rfl (Nat.le_of_ble_eq_true rfl) ?_
    refine x_keep [1, 0, 1, 1, 1] ?_
    rw [e3]; first | exact hL _ _ _ _ _ (Nat.lt_succ_self _) (by omega) (by omega) (Or.inr ⟨rfl, by omega, ini, fun j h0 h1 => by omega, fun j h0 h1 => by omega⟩) Fr.rf | exact hL _ _ _ _ _ (Nat.lt_succ_self _) (by omega) (by omega) (Or.inl ⟨rfl, fun h => by have := h.1; omega⟩) Fr.rf
theorem c_X12_isTrade {a b v z : Int} (hW : WP P) (hT : MT I T) (hF : WF T) (hz : I 91 0 = 0) : Cv G mX12_isTrade (d + 1) 0 0 [.inr (.inl 91), .inl a, .inl b, .inl v, .inl z] NO I P (qI NO (fun r I' P' => P' = P ∧ ((r = 1 ∧ trOK T a b v z ∧ (∀ j, 0 ≤ j → j < T 0 3 → I' 111 j = dgS (T 0 3) v j) ∧ I' 91 0 = 0) ∨ (r = 0 ∧ ¬ trOK T a b v z ∧ I' 91 0 = 1)) ∧ Fr [111] [0] I I')) := by
  have e1 : I 91 1 = T 0 1 := hT.1 1 (by decide) (by decide)
  have e2 : I 91 2 = T 0 2 := hT.1 2 (by decide) (by decide)
  refine x_enter mfX12_isTrade rfl (Nat.le_of_ble_eq_true rfl) (fun _ => ?_)
  have hN : ∀ K : Mem, K 91 0 = 0 → ¬ trOK T a b v z → Fr [111] [] I K → V G mX12_isTrade (d + 1) 0 0 57 [none, none, none, none, none] [.inl 0, .inr (.inl 91)] NO K P (qI NO (fun r I' P' => P' = P ∧ ((r = 1 ∧ trOK T a b v z ∧ (∀ j, 0 ≤ j → j < T 0 3 → I' 111 j = dgS (T 0 3) v j) ∧ I' 91 0 = 0) ∨ (r = 0 ∧ ¬ trOK T a b v z ∧ I' 91 0 = 1)) ∧ Fr [111] [0] I I')) := fun K h0 hno hFr => by
    refine y_ic dX12_isTrade_57 ⟨by decide, by decide⟩ ?_
    refine x_callVI (c_X12_right2 hW h0 (by omega) (by decide)) dX12_isTrade_58 lkX12_309 mfX12_right cfX12 at91 rfl rfl rfl rfl (Nat.le_of_ble_eq_true rfl) (fun r58 I58 P58 hr58 hf58 => ?_)
    refine x_zret dX12_isTrade_61 (by omega) rfl ?_
    obtain ⟨p58, e58, i58⟩ := hf58
    rw [ifn_0 (by rfl)] at i58
    refine ⟨p58, Or.inr ⟨e58, hno, by rw [i58, uI_eq, u1_eq]⟩, ?_⟩
    rw [i58]
    exact (hFr.mo (fun x hx => hx) (fun x hx => absurd hx (by simp))).uf (by decide)
  have hY : ∀ K : Mem, K 91 0 = 0 → trOK T a b v z → (∀ j, 0 ≤ j → j < T 0 3 → K 111 j = dgS (T 0 3) v j) → Fr [111] [] I K → V G mX12_isTrade (d + 1) 0 0 57 [none, none, none, none, none] [.inl 1, .inr (.inl 91)] NO K P (qI NO (fun r I' P' => P' = P ∧ ((r = 1 ∧ trOK T a b v z ∧ (∀ j, 0 ≤ j → j < T 0 3 → I' 111 j = dgS (T 0 3) v j) ∧ I' 91 0 = 0) ∨ (r = 0 ∧ ¬ trOK T a b v z ∧ I' 91 0 = 1)) ∧ Fr [111] [0] I I')) := fun K h0 hno hd hFr => by
    refine y_ic dX12_isTrade_57 ⟨by decide, by decide⟩ ?_
    refine x_callVI (c_X12_right2 hW h0 (by omega) (by decide)) dX12_isTrade_58 lkX12_309 mfX12_right cfX12 at91 rfl rfl rfl rfl (Nat.le_of_ble_eq_true rfl) (fun r58 I58 P58 hr58 hf58 => ?_)
    refine x_zret dX12_isTrade_61 (by omega) rfl ?_
    obtain ⟨p58, e58, i58⟩ := hf58
    rw [ifn_1 (by decide)] at i58
    rw [i58]
    exact ⟨p58, Or.inl ⟨e58, hno, hd, h0⟩, hFr.mo (fun x hx => hx) (fun x hx => absurd hx (by simp))⟩
  refine y_aln (i := 0) dX12_isTrade_0 at91.ne0 rfl rfl ?_
  refine x_iload_n (i := 1) dX12_isTrade_1 rfl rfl ?_
  refine x_if_lt (tgt := 56) dX12_isTrade_2 rfl (fun h2 => ?_) (fun h2 => ?_)
  · refine y_ic dX12_isTrade_56 ⟨by decide, by decide⟩ ?_
    refine x_keep [0, 0, 0, 0, 0] ?_
    first | exact hN _ hz (fun q => by obtain ⟨q1, q2, q3, q4, q5⟩ := q; omega) Fr.rf | exact hN _ z46 (fun q => (hr46.resolve_left (fun q2 => by have := q2.1; omega)).2 q.2.2.2.2) fr46 | exact hY _ z46 ⟨by omega, by omega, by omega, by omega, (hr46.resolve_right (fun q2 => by have := q2.1; omega)).2.1⟩ (hr46.resolve_right (fun q2 => by have := q2.1; omega)).2.2 fr46
  · refine x_iload_n (i := 1) dX12_isTrade_5 rfl rfl ?_
    refine y_aln (i := 0) dX12_isTrade_6 at91.ne0 rfl rfl ?_
    refine y_geti (z := 1) dX12_isTrade_7 frX12_316 cfX12 at91 rfl rfl ?_
    refine x_icmp_ge (tgt := 56) dX12_isTrade_10 rfl (fun h10 => ?_) (fun h10 => ?_)
    · refine y_ic dX12_isTrade_56 ⟨by decide, by decide⟩ ?_
      refine x_keep [0, 0, 0, 0, 0] ?_
      first | exact hN _ hz (fun q => by obtain ⟨q1, q2, q3, q4, q5⟩ := q; omega) Fr.rf | exact hN _ z46 (fun q => (hr46.resolve_left (fun q2 => by have := q2.1; omega)).2 q.2.2.2.2) fr46 | exact hY _ z46 ⟨by omega, by omega, by omega, by omega, (hr46.resolve_right (fun q2 => by have := q2.1; omega)).2.1⟩ (hr46.resolve_right (fun q2 => by have := q2.1; omega)).2.2 fr46
    · refine x_iload_n (i := 2) dX12_isTrade_13 rfl rfl ?_
      refine x_if_lt (tgt := 56) dX12_isTrade_14 rfl (fun h14 => ?_) (fun h14 => ?_)
      · refine y_ic dX12_isTrade_56 ⟨by decide, by decide⟩ ?_
        refine x_keep [0, 0, 0, 0, 0] ?_
        first | exact hN _ hz (fun q => by obtain ⟨q1, q2, q3, q4, q5⟩ := q; omega) Fr.rf | exact hN _ z46 (fun q => (hr46.resolve_left (fun q2 => by have := q2.1; omega)).2 q.2.2.2.2) fr46 | exact hY _ z46 ⟨by omega, by omega, by omega, by omega, (hr46.resolve_right (fun q2 => by have := q2.1; omega)).2.1⟩ (hr46.resolve_right (fun q2 => by have := q2.1; omega)).2.2 fr46
      · refine x_iload_n (i := 2) dX12_isTrade_17 rfl rfl ?_
        refine y_aln (i := 0) dX12_isTrade_18 at91.ne0 rfl rfl ?_
        refine y_geti (z := 1) dX12_isTrade_19 frX12_316 cfX12 at91 rfl rfl ?_
        refine x_icmp_ge (tgt := 56) dX12_isTrade_22 rfl (fun h22 => ?_) (fun h22 => ?_)
        · refine y_ic dX12_isTrade_56 ⟨by decide, by decide⟩ ?_
          refine x_keep [0, 0, 0, 0, 0] ?_
          first | exact hN _ hz (fun q => by obtain ⟨q1, q2, q3, q4, q5⟩ := q; omega) Fr.rf | exact hN _ z46 (fun q => (hr46.resolve_left (fun q2 => by have := q2.1; omega)).2 q.2.2.2.2) fr46 | exact hY _ z46 ⟨by omega, by omega, by omega, by omega, (hr46.resolve_right (fun q2 => by have := q2.1; omega)).2.1⟩ (hr46.resolve_right (fun q2 => by have := q2.1; omega)).2.2 fr46
        · refine x_iload_n (i := 1) dX12_isTrade_25 rfl rfl ?_
          refine x_iload_n (i := 2) dX12_isTrade_26 rfl rfl ?_
          refine x_icmp_eq (tgt := 56) dX12_isTrade_27 rfl (fun h27 => ?_) (fun h27 => ?_)
          · refine y_ic dX12_isTrade_56 ⟨by decide, by decide⟩ ?_
            refine x_keep [0, 0, 0, 0, 0] ?_
            first | exact hN _ hz (fun q => by obtain ⟨q1, q2, q3, q4, q5⟩ := q; omega) Fr.rf | exact hN _ z46 (fun q => (hr46.resolve_left (fun q2 => by have := q2.1; omega)).2 q.2.2.2.2) fr46 | exact hY _ z46 ⟨by omega, by omega, by omega, by omega, (hr46.resolve_right (fun q2 => by have := q2.1; omega)).2.1⟩ (hr46.resolve_right (fun q2 => by have := q2.1; omega)).2.2 fr46
          · refine x_iload (i := 4) dX12_isTrade_30 rfl ?_
            refine x_if_lt (tgt := 56) dX12_isTrade_32 rfl (fun h32 => ?_) (fun h32 => ?_)
            · refine y_ic dX12_isTrade_56 ⟨by decide, by decide⟩ ?_
              refine x_keep [0, 0, 0, 0, 0] ?_
              first | exact hN _ hz (fun q => by obtain ⟨q1, q2, q3, q4, q5⟩ := q; omega) Fr.rf | exact hN _ z46 (fun q => (hr46.resolve_left (fun q2 => by have := q2.1; omega)).2 q.2.2.2.2) fr46 | exact hY _ z46 ⟨by omega, by omega, by omega, by omega, (hr46.resolve_right (fun q2 => by have := q2.1; omega)).2.1⟩ (hr46.resolve_right (fun q2 => by have := q2.1; omega)).2.2 fr46
            · refine x_iload (i := 4) dX12_isTrade_35 rfl ?_
              refine y_aln (i := 0) dX12_isTrade_37 at91.ne0 rfl rfl ?_
              refine y_geti (z := 2) dX12_isTrade_38 frX12_7 cfX12 at91 rfl rfl ?_
              refine x_icmp_ge (tgt := 56) dX12_isTrade_41 rfl (fun h41 => ?_) (fun h41 => ?_)
              · refine y_ic dX12_isTrade_56 ⟨by decide, by decide⟩ ?_
                refine x_keep [0, 0, 0, 0, 0] ?_
                first | exact hN _ hz (fun q => by obtain ⟨q1, q2, q3, q4, q5⟩ := q; omega) Fr.rf | exact hN _ z46 (fun q => (hr46.resolve_left (fun q2 => by have := q2.1; omega)).2 q.2.2.2.2) fr46 | exact hY _ z46 ⟨by omega, by omega, by omega, by omega, (hr46.resolve_right (fun q2 => by have := q2.1; omega)).2.1⟩ (hr46.resolve_right (fun q2 => by have := q2.1; omega)).2.2 fr46
              · refine y_aln (i := 0) dX12_isTrade_44 at91.ne0 rfl rfl ?_
                refine x_iload_n (i := 3) dX12_isTrade_45 rfl rfl ?_
                refine x_callVI (c_X12_reads hW hT hF) dX12_isTrade_46 lkX12_378 mfX12_reads cfX12 at91 rfl rfl rfl rfl (Nat.le_of_ble_eq_true rfl) (fun r46 I46 P46 hr46 hf46 => ?_)
                obtain ⟨rfl, hr46, fr46⟩ := hf46
                have z46 : I46 91 0 = 0 := (fr46.2 0 (by decide)).trans hz
                refine x_if_eq (tgt := 56) dX12_isTrade_49 rfl (fun h49 => ?_) (fun h49 => ?_)
                · refine y_ic dX12_isTrade_56 ⟨by decide, by decide⟩ ?_
                  refine x_keep [0, 0, 0, 0, 0] ?_
                  first | exact hN _ hz (fun q => by obtain ⟨q1, q2, q3, q4, q5⟩ := q; omega) Fr.rf | exact hN _ z46 (fun q => (hr46.resolve_left (fun q2 => by have := q2.1; omega)).2 q.2.2.2.2) fr46 | exact hY _ z46 ⟨by omega, by omega, by omega, by omega, (hr46.resolve_right (fun q2 => by have := q2.1; omega)).2.1⟩ (hr46.resolve_right (fun q2 => by have := q2.1; omega)).2.2 fr46
                · refine y_ic dX12_isTrade_52 ⟨by decide, by decide⟩ ?_
                  refine x_goto (tgt := 57) dX12_isTrade_53 rfl ?_
                  refine x_keep [0, 0, 0, 0, 0] ?_
                  first | exact hN _ hz (fun q => by obtain ⟨q1, q2, q3, q4, q5⟩ := q; omega) Fr.rf | exact hN _ z46 (fun q => (hr46.resolve_left (fun q2 => by have := q2.1; omega)).2 q.2.2.2.2) fr46 | exact hY _ z46 ⟨by omega, by omega, by omega, by omega, (hr46.resolve_right (fun q2 => by have := q2.1; omega)).2.1⟩ (hr46.resolve_right (fun q2 => by have := q2.1; omega)).2.2 fr46
theorem c_X12_look {a b v z w : Int} (hW : WP P) (hT : MT I T) (hF : WF T) (hr : RW T (I 98)) : Cv G mX12_look (d + 2) 0 0 [.inr (.inl 91), .inl a, .inl b, .inl v, .inl z, .inl w] NO I P (qI NO (fun r I' P' => P' = P ∧ r = (lookA T (I 98) a b v z w).2 ∧ I' 91 0 = (lookA T (I 98) a b v z w).1 ∧ Fr [111, 112] [0] I I')) := by
  have hT0 : MT (uI I 91 0 0) T := hT.uf (by decide)
  have f1 := hF.1
  have f2 := hF.2.1
  refine x_enter mfX12_look rfl (Nat.le_of_ble_eq_true rfl) (fun _ => ?_)
  have hN : ∀ K : Mem, K 91 0 = 1 → ¬ (trOK T a b v z ∧ 0 ≤ w ∧ w ≤ 3) → Fr [111, 112] [0] I K → V G mX12_look (d + 2) 0 0 32 [none, none, none, none, none, none, none, none, none] [] NO K P (qI NO (fun r I' P' => P' = P ∧ r = (lookA T (I 98) a b v z w).2 ∧ I' 91 0 = (lookA T (I 98) a b v z w).1 ∧ Fr [111, 112] [0] I I')) := fun K h0 hno hFr => by
    refine y_ic dX12_look_32 ⟨by decide, by decide⟩ ?_
    refine x_iret dX12_look_33 rfl ?_
    unfold lookA; rw [cif_neg hno]; exact ⟨rfl, rfl, h0, hFr⟩
  have hM : ∀ (w' r' : Int) (K : Mem), w' = 0 → r' = (lookA T (I 98) a b v z w).2 → (lookA T (I 98) a b v z w).1 = 0 → K 91 0 = 0 → Fr [111, 112] [0] I K → V G mX12_look (d + 2) 0 0 183 [none, none, none, none, none, none, none, none, none] [.inl r'] NO K P (qI NO (fun r I' P' => P' = P ∧ r = (lookA T (I 98) a b v z w).2 ∧ I' 91 0 = (lookA T (I 98) a b v z w).1 ∧ Fr [111, 112] [0] I I')) := fun w' r' K _ h1 h2 h3 hFr => by
    refine x_iret dX12_look_183 rfl ?_
    exact ⟨rfl, h1, h3.trans h2.symm, hFr⟩
  refine y_aln (i := 0) dX12_look_0 at91.ne0 rfl rfl ?_
  refine y_ic dX12_look_1 ⟨by decide, by decide⟩ ?_
  refine y_puti (z := 0) dX12_look_2 frX12_184 cfX12 at91 rfl rfl rfl ?_
  refine y_aln (i := 0) dX12_look_5 at91.ne0 rfl rfl ?_
  refine x_iload_n (i := 1) dX12_look_6 rfl rfl ?_
  refine x_iload_n (i := 2) dX12_look_7 rfl rfl ?_
  refine x_iload_n (i := 3) dX12_look_8 rfl rfl ?_
  refine x_iload (i := 4) dX12_look_9 rfl ?_
  refine x_callVI (c_X12_isTrade hW hT0 hF (by rw [uI_eq, u1_eq])) dX12_look_11 lkX12_381 mfX12_isTrade cfX12 at91 rfl rfl rfl rfl (Nat.le_of_ble_eq_true rfl) (fun r11 I11 P11 hr11 hf11 => ?_)
  obtain ⟨rfl, hr11, fr11⟩ := hf11
  have fr11' : Fr [111, 112] [0] I I11 := (Fr.rf.uf (by decide)).tr (fr11.mo (by decide) (fun x hx => hx))
  refine x_if_eq (tgt := 32) dX12_look_14 rfl (fun h14 => ?_) (fun h14 => ?_)
  · have no14 := hr11.resolve_left (fun q => by have := q.1; omega)
    refine x_keep [0, 0, 0, 0, 0, 0, 0, 0, 0] ?_
    first | exact hN _ no14.2.2 (fun q => no14.2.1 q.1) fr11' | exact hN _ (by rw [uI_eq, u1_eq]) (fun q => by obtain ⟨q1, q2⟩ := q; omega) (fr11'.uf (by decide))
  · obtain ⟨-, ok, hg, z11⟩ := hr11.resolve_right (fun q => by have := q.1; omega)
    have e98 : I11 98 = I 98 := fr11'.1 98 (by decide) (by decide)
    have hT11 := hT.fr fr11'
    obtain ⟨oa, ob, oab, oz, ov⟩ := id ok
    have hg8 : ∀ j, 0 ≤ j → j < T 0 3 → 0 ≤ I11 111 j ∧ I11 111 j < 8 := fun j h0 h1 => by rw [hg j h0 h1]; exact ov.g hF j h0 h1
    have hγ := fun k h0 h1 => (ov.2.2 k h0 h1).1
    refine y_aln (i := 0) dX12_look_17 at91.ne0 rfl rfl ?_
    refine x_iload (i := 5) dX12_look_18 rfl ?_
    refine y_ic dX12_look_20 ⟨by decide, by decide⟩ ?_
    refine y_ic dX12_look_21 ⟨by decide, by decide⟩ ?_
    refine x_callSI (c_X12_within) dX12_look_22 lkX12_354 mfX12_within rfl rfl rfl (Nat.le_of_ble_eq_true rfl) (fun r22 I22 P22 hr22 hf22 => ?_)
    obtain ⟨i22, p22, q22⟩ := hf22
    rw [i22, p22]
    refine y_ic dX12_look_25 ⟨by decide, by decide⟩ ?_
    refine x_callVI (c_X12_right2 hW (by first | rw [uI_eq, u1_eq] | assumption) (by omega) (by decide)) dX12_look_26 lkX12_309 mfX12_right cfX12 at91 rfl rfl rfl rfl (Nat.le_of_ble_eq_true rfl) (fun r26 I26 P26 hr26 hf26 => ?_)
    obtain ⟨rfl, e26, i26⟩ := hf26
    rw [i26]
    refine x_if_ne (tgt := 34) dX12_look_29 rfl (fun h29 => ?_) (fun h29 => ?_)
    · rw [ifn_1 (by omega)]
      refine y_aln (i := 0) dX12_look_34 at91.ne0 rfl rfl ?_
      refine y_aln (i := 0) dX12_look_35 at91.ne0 rfl rfl ?_
      refine y_getp (z := 14) (v := 98) dX12_look_36 frX12_38 cfX12 at91 rfl rfl (wp (v := 98) hW rfl rfl (by decide)) ?_
      refine x_iload_n (i := 1) dX12_look_39 rfl rfl ?_
      refine x_iload_n (i := 2) dX12_look_40 rfl rfl ?_
      refine x_iload (i := 4) dX12_look_41 rfl ?_
      refine x_callVI (c_X12_isLawful hW hT11 hF ar98 (by rw [e98]; exact hr.rc) (by omega) (by omega) (by omega) hg8) dX12_look_43 lkX12_385 mfX12_isLawful cfX12 at91 rfl rfl rfl rfl (Nat.le_of_ble_eq_true rfl) (fun r43 I43 P43 hr43 hf43 => ?_)
      obtain ⟨i43, p43, q43⟩ := hf43
      rw [i43, p43]
      rw [e98, lawP_congr hg] at q43
      have hok : trOK T a b v z ∧ 0 ≤ w ∧ w ≤ 3 := ⟨ok, by omega⟩
      refine x_istore (i := 6) dX12_look_46 rfl (Nat.le_of_ble_eq_true rfl) ?_
      refine x_iload (i := 5) dX12_look_48 rfl ?_
      refine x_if_ne (tgt := 64) dX12_look_50 rfl (fun h50 => ?_) (fun h50 => ?_)
      · refine y_aln (i := 0) dX12_look_64 at91.ne0 rfl rfl ?_
        refine x_iload (i := 6) dX12_look_65 rfl ?_
        refine y_ic dX12_look_67 ⟨by decide, by decide⟩ ?_
        refine x_callVI (c_X12_right2 hW (by first | rw [uI_eq, u1_eq] | assumption) (by omega) (by decide)) dX12_look_68 lkX12_309 mfX12_right cfX12 at91 rfl rfl rfl rfl (Nat.le_of_ble_eq_true rfl) (fun r68 I68 P68 hr68 hf68 => ?_)
        obtain ⟨rfl, e68, i68⟩ := hf68
        rw [i68]
        refine x_if_ne (tgt := 76) dX12_look_71 rfl (fun h71 => ?_) (fun h71 => ?_)
        · rw [ifn_1 (by omega)]
          have hl := (q43.resolve_right (fun q => by have := q.1; omega)).2
          refine y_aln (i := 0) dX12_look_76 at91.ne0 rfl rfl ?_
          refine y_aln (i := 0) dX12_look_77 at91.ne0 rfl rfl ?_
          refine y_getp (z := 14) (v := 98) dX12_look_78 frX12_38 cfX12 at91 rfl rfl (wp (v := 98) hW rfl rfl (by decide)) ?_
          refine y_aln (i := 0) dX12_look_81 at91.ne0 rfl rfl ?_
          refine y_getp (z := 46) (v := 112) dX12_look_82 frX12_84 cfX12 at91 rfl rfl (wp (v := 112) hW rfl rfl (by decide)) ?_
          refine x_callVV (c_X12_copies ar98 ar112 (by decide) (by decide) (by decide)) dX12_look_85 lkX12_328 mfX12_copies cfX12 at91 rfl rfl rfl rfl (Nat.le_of_ble_eq_true rfl) (fun n85 I85 P85 hf85 => ?_)
          obtain ⟨rfl, hI85, rfl⟩ := hf85
          have re85 : RE (I 98) (I85 112) := fun c h0 h1 => by rw [hI85, uA_eq, if_pos (by omega), e98]
          have g85 : I85 111 = I11 111 := by rw [hI85, uA_ne (by decide)]
          have fr85 : Fr [111, 112] [0] I I85 := by rw [hI85]; exact fr11'.ua (by decide) (by decide)
          have hT85 := hT.fr fr85
          refine y_aln (i := 0) dX12_look_88 at91.ne0 rfl rfl ?_
          refine y_aln (i := 0) dX12_look_89 at91.ne0 rfl rfl ?_
          refine y_getp (z := 46) (v := 112) dX12_look_90 frX12_84 cfX12 at91 rfl rfl (wp (v := 112) hW rfl rfl (by decide)) ?_
          refine x_iload_n (i := 1) dX12_look_93 rfl rfl ?_
          refine x_iload_n (i := 2) dX12_look_94 rfl rfl ?_
          refine x_iload (i := 4) dX12_look_95 rfl ?_
          refine x_callVV (c_X12_trades hW hT85 hF ar112 (re85.rc hr.rc) (by omega) (by omega) (by omega) (by rw [g85]; exact hg8)) dX12_look_97 lkX12_389 mfX12_trades cfX12 at91 rfl rfl rfl rfl (Nat.le_of_ble_eq_true rfl) (fun n97 I97 P97 hf97 => ?_)
          obtain ⟨rfl, hI97, rfl⟩ := hf97
          have re97 : RE (dealS T (I 98) a b (dgS (T 0 3) v) z) (I97 112) := fun c h0 h1 => by rw [hI97, uA_eq, g85, dealS_congr hF hg]; exact RE.deal re85 c h0 h1
          have fr97 : Fr [111, 112] [0] I I97 := by rw [hI97]; exact fr85.ua (by decide) (by decide)
          have hT97 := hT.fr fr97
          have z97 : I97 91 0 = 0 := by rw [hI97, uA_ne (by decide), hI85, uA_ne (by decide)]; exact z11
          have e97 : I97 98 = I 98 := fr97.1 98 (by decide) (by decide)
          have hD := deal_RW (γ := dgS (T 0 3) v) hF hr oa ob oab oz hγ hl
          have rc97 := re97.rc hD.rc
          have b1 := bagS_bd hF hD.rc oa
          have b2 := bagS_bd hF hD.rc ob
          have b3 := bagS_bd hF hr.rc oa
          have b4 := bagS_bd hF hr.rc ob
          refine y_aln (i := 0) dX12_look_100 at91.ne0 rfl rfl ?_
          refine y_aln (i := 0) dX12_look_101 at91.ne0 rfl rfl ?_
          refine y_getp (z := 46) (v := 112) dX12_look_102 frX12_84 cfX12 at91 rfl rfl (wp (v := 112) hW rfl rfl (by decide)) ?_
          refine x_iload_n (i := 1) dX12_look_105 rfl rfl ?_
          refine x_callVI (c_X12_bagOf hW hT97 hF ar112 rc97 oa) dX12_look_106 lkX12_351 mfX12_bagOf cfX12 at91 rfl rfl rfl rfl (Nat.le_of_ble_eq_true rfl) (fun r106 I106 P106 hr106 hf106 => ?_)
          obtain ⟨i106, p106, q106⟩ := hf106
          rw [i106, p106, q106]
          refine y_aln (i := 0) dX12_look_109 at91.ne0 rfl rfl ?_
          refine y_aln (i := 0) dX12_look_110 at91.ne0 rfl rfl ?_
          refine y_getp (z := 14) (v := 98) dX12_look_111 frX12_38 cfX12 at91 rfl rfl (wp (v := 98) hW rfl rfl (by decide)) ?_
          refine x_iload_n (i := 1) dX12_look_114 rfl rfl ?_
          refine x_callVI (c_X12_bagOf hW hT97 hF ar98 (by rw [e97]; exact hr.rc) oa) dX12_look_115 lkX12_351 mfX12_bagOf cfX12 at91 rfl rfl rfl rfl (Nat.le_of_ble_eq_true rfl) (fun r115 I115 P115 hr115 hf115 => ?_)
          obtain ⟨i115, p115, q115⟩ := hf115
          rw [i115, p115, q115]
          rw [e97, ← re97.bag hF oa]
          refine x_isub dX12_look_118 ⟨by omega, by omega⟩ ?_
          refine x_istore (i := 7) dX12_look_119 rfl (Nat.le_of_ble_eq_true rfl) ?_
          refine y_aln (i := 0) dX12_look_121 at91.ne0 rfl rfl ?_
          refine y_aln (i := 0) dX12_look_122 at91.ne0 rfl rfl ?_
          refine y_getp (z := 46) (v := 112) dX12_look_123 frX12_84 cfX12 at91 rfl rfl (wp (v := 112) hW rfl rfl (by decide)) ?_
          refine x_iload_n (i := 2) dX12_look_126 rfl rfl ?_
          refine x_callVI (c_X12_bagOf hW hT97 hF ar112 rc97 ob) dX12_look_127 lkX12_351 mfX12_bagOf cfX12 at91 rfl rfl rfl rfl (Nat.le_of_ble_eq_true rfl) (fun r127 I127 P127 hr127 hf127 => ?_)
          obtain ⟨i127, p127, q127⟩ := hf127
          rw [i127, p127, q127]
          refine y_aln (i := 0) dX12_look_130 at91.ne0 rfl rfl ?_
          refine y_aln (i := 0) dX12_look_131 at91.ne0 rfl rfl ?_
          refine y_getp (z := 14) (v := 98) dX12_look_132 frX12_38 cfX12 at91 rfl rfl (wp (v := 98) hW rfl rfl (by decide)) ?_
          refine x_iload_n (i := 2) dX12_look_135 rfl rfl ?_
          refine x_callVI (c_X12_bagOf hW hT97 hF ar98 (by rw [e97]; exact hr.rc) ob) dX12_look_136 lkX12_351 mfX12_bagOf cfX12 at91 rfl rfl rfl rfl (Nat.le_of_ble_eq_true rfl) (fun r136 I136 P136 hr136 hf136 => ?_)
          obtain ⟨i136, p136, q136⟩ := hf136
          rw [i136, p136, q136]
          rw [e97, ← re97.bag hF ob]
          refine x_isub dX12_look_139 ⟨by omega, by omega⟩ ?_
          refine x_istore (i := 8) dX12_look_140 rfl (Nat.le_of_ble_eq_true rfl) ?_
          refine x_iload (i := 5) dX12_look_142 rfl ?_
          refine y_ic dX12_look_144 ⟨by decide, by decide⟩ ?_
          refine x_icmp_ne (tgt := 153) dX12_look_145 rfl (fun h145 => ?_) (fun h145 => ?_)
          · refine x_iload (i := 5) dX12_look_153 rfl ?_
            refine y_ic dX12_look_155 ⟨by decide, by decide⟩ ?_
            refine x_icmp_ne (tgt := 164) dX12_look_156 rfl (fun h156 => ?_) (fun h156 => ?_)
            · refine x_iload (i := 7) dX12_look_164 rfl ?_
              refine x_if_le (tgt := 182) dX12_look_166 rfl (fun h166 => ?_) (fun h166 => ?_)
              · refine y_ic dX12_look_182 ⟨by decide, by decide⟩ ?_
                refine x_iret dX12_look_183 rfl ?_
                unfold lookA
                rw [cif_pos hok, if_neg (by omega), cif_pos hl]
                first | (rw [if_pos (by omega)]; exact ⟨rfl, rfl, z97, fr97⟩) | (rw [if_neg (by omega), if_pos (by omega)]; exact ⟨rfl, rfl, z97, fr97⟩) | (rw [if_neg (by omega), if_neg (by omega), if_pos (by omega)]; exact ⟨rfl, rfl, z97, fr97⟩) | (rw [if_neg (by omega), if_neg (by omega), if_neg (by omega)]; exact ⟨rfl, rfl, z97, fr97⟩)
              · refine x_iload (i := 8) dX12_look_169 rfl ?_
                refine x_if_le (tgt := 182) dX12_look_171 rfl (fun h171 => ?_) (fun h171 => ?_)
                · refine y_ic dX12_look_182 ⟨by decide, by decide⟩ ?_
                  refine x_iret dX12_look_183 rfl ?_
                  unfold lookA
                  rw [cif_pos hok, if_neg (by omega), cif_pos hl]
                  first | (rw [if_pos (by omega)]; exact ⟨rfl, rfl, z97, fr97⟩) | (rw [if_neg (by omega), if_pos (by omega)]; exact ⟨rfl, rfl, z97, fr97⟩) | (rw [if_neg (by omega), if_neg (by omega), if_pos (by omega)]; exact ⟨rfl, rfl, z97, fr97⟩) | (rw [if_neg (by omega), if_neg (by omega), if_neg (by omega)]; exact ⟨rfl, rfl, z97, fr97⟩)
                · refine x_iload (i := 7) dX12_look_174 rfl ?_
                  refine x_iload (i := 8) dX12_look_176 rfl ?_
                  refine x_iadd dX12_look_178 ⟨by omega, by omega⟩ ?_
                  refine x_goto (tgt := 183) dX12_look_179 rfl ?_
                  refine x_iret dX12_look_183 rfl ?_
                  unfold lookA
                  rw [cif_pos hok, if_neg (by omega), cif_pos hl]
                  first | (rw [if_pos (by omega)]; exact ⟨rfl, rfl, z97, fr97⟩) | (rw [if_neg (by omega), if_pos (by omega)]; exact ⟨rfl, rfl, z97, fr97⟩) | (rw [if_neg (by omega), if_neg (by omega), if_pos (by omega)]; exact ⟨rfl, rfl, z97, fr97⟩) | (rw [if_neg (by omega), if_neg (by omega), if_neg (by omega)]; exact ⟨rfl, rfl, z97, fr97⟩)
            · refine x_iload (i := 8) dX12_look_159 rfl ?_
              refine x_goto (tgt := 183) dX12_look_161 rfl ?_
              refine x_iret dX12_look_183 rfl ?_
              unfold lookA
              rw [cif_pos hok, if_neg (by omega), cif_pos hl]
              first | (rw [if_pos (by omega)]; exact ⟨rfl, rfl, z97, fr97⟩) | (rw [if_neg (by omega), if_pos (by omega)]; exact ⟨rfl, rfl, z97, fr97⟩) | (rw [if_neg (by omega), if_neg (by omega), if_pos (by omega)]; exact ⟨rfl, rfl, z97, fr97⟩) | (rw [if_neg (by omega), if_neg (by omega), if_neg (by omega)]; exact ⟨rfl, rfl, z97, fr97⟩)
          · refine x_iload (i := 7) dX12_look_148 rfl ?_
            refine x_goto (tgt := 183) dX12_look_150 rfl ?_
            refine x_iret dX12_look_183 rfl ?_
            unfold lookA
            rw [cif_pos hok, if_neg (by omega), cif_pos hl]
            first | (rw [if_pos (by omega)]; exact ⟨rfl, rfl, z97, fr97⟩) | (rw [if_neg (by omega), if_pos (by omega)]; exact ⟨rfl, rfl, z97, fr97⟩) | (rw [if_neg (by omega), if_neg (by omega), if_pos (by omega)]; exact ⟨rfl, rfl, z97, fr97⟩) | (rw [if_neg (by omega), if_neg (by omega), if_neg (by omega)]; exact ⟨rfl, rfl, z97, fr97⟩)
        · rw [ifn_0 (by omega)]
          refine y_ic dX12_look_74 ⟨by decide, by decide⟩ ?_
          refine x_iret dX12_look_75 rfl ?_
          unfold lookA
          rw [cif_pos hok, if_neg (by omega), cif_neg (q43.resolve_left (fun q => by have := q.1; omega)).2]
          exact ⟨rfl, rfl, by rw [uI_eq, u1_eq], fr11'.uf (by decide)⟩
      · refine x_iload (i := 6) dX12_look_53 rfl ?_
        refine x_if_eq (tgt := 62) dX12_look_55 rfl (fun h55 => ?_) (fun h55 => ?_)
        · refine y_ic dX12_look_62 ⟨by decide, by decide⟩ ?_
          refine x_iret dX12_look_63 rfl ?_
          unfold lookA
          rw [cif_pos hok, if_pos (by omega)]
          first | (rw [cif_pos (q43.resolve_right (fun q => by have := q.1; omega)).2]; exact ⟨rfl, rfl, z11, fr11'⟩) | (rw [cif_neg (q43.resolve_left (fun q => by have := q.1; omega)).2]; exact ⟨rfl, rfl, z11, fr11'⟩)
        · refine y_ic dX12_look_58 ⟨by decide, by decide⟩ ?_
          refine x_goto (tgt := 63) dX12_look_59 rfl ?_
          refine x_iret dX12_look_63 rfl ?_
          unfold lookA
          rw [cif_pos hok, if_pos (by omega)]
          first | (rw [cif_pos (q43.resolve_right (fun q => by have := q.1; omega)).2]; exact ⟨rfl, rfl, z11, fr11'⟩) | (rw [cif_neg (q43.resolve_left (fun q => by have := q.1; omega)).2]; exact ⟨rfl, rfl, z11, fr11'⟩)
    · rw [ifn_0 (by omega)]
      refine x_keep [0, 0, 0, 0, 0, 0, 0, 0, 0] ?_
      first | exact hN _ no14.2.2 (fun q => no14.2.1 q.1) fr11' | exact hN _ (by rw [uI_eq, u1_eq]) (fun q => by obtain ⟨q1, q2⟩ := q; omega) (fr11'.uf (by decide))
theorem c_X12_trade {a b v z : Int} (hW : WP P) (hT : MT I T) (hF : WF T) (hr : RW T (I 98)) : Cv G mX12_trade (d + 2) 0 0 [.inr (.inl 91), .inl a, .inl b, .inl v, .inl z] NO I P (qI NO (fun r I' P' => P' = P ∧ ((¬ trOK T a b v z ∧ r = 0 ∧ I' 91 0 = 1 ∧ I' 98 = I 98 ∧ I' 99 = I 99) ∨ (trOK T a b v z ∧ lawP T (I 98) a b (dgS (T 0 3) v) z ∧ r = 1 ∧ I' 91 0 = 0 ∧ I' 98 = dealS T (I 98) a b (dgS (T 0 3) v) z ∧ I' 99 = I 99) ∨ (trOK T a b v z ∧ ¬ lawP T (I 98) a b (dgS (T 0 3) v) z ∧ r = 0 ∧ I' 91 0 = 0 ∧ I' 98 = I 98 ∧ I' 99 = u1 (I 99) 1 (wr (I 99 1 + 1)))) ∧ Fr [98, 99, 111] [0] I I')) := by
  have hT0 : MT (uI I 91 0 0) T := hT.uf (by decide)
  have f1 := hF.1
  have f2 := hF.2.1
  refine x_enter mfX12_trade rfl (Nat.le_of_ble_eq_true rfl) (fun _ => ?_)
  refine y_aln (i := 0) dX12_trade_0 at91.ne0 rfl rfl ?_
  refine y_ic dX12_trade_1 ⟨by decide, by decide⟩ ?_
  refine y_puti (z := 0) dX12_trade_2 frX12_184 cfX12 at91 rfl rfl rfl ?_
  refine y_aln (i := 0) dX12_trade_5 at91.ne0 rfl rfl ?_
  refine x_iload_n (i := 1) dX12_trade_6 rfl rfl ?_
  refine x_iload_n (i := 2) dX12_trade_7 rfl rfl ?_
  refine x_iload_n (i := 3) dX12_trade_8 rfl rfl ?_
  refine x_iload (i := 4) dX12_trade_9 rfl ?_
  refine x_callVI (c_X12_isTrade hW hT0 hF (by rw [uI_eq, u1_eq])) dX12_trade_11 lkX12_381 mfX12_isTrade cfX12 at91 rfl rfl rfl rfl (Nat.le_of_ble_eq_true rfl) (fun r11 I11 P11 hr11 hf11 => ?_)
  obtain ⟨rfl, hr11, fr11⟩ := hf11
  have fr11' : Fr [98, 99, 111] [0] I I11 := (Fr.rf.uf (by decide)).tr (fr11.mo (by decide) (fun x hx => hx))
  have e98 : I11 98 = I 98 := (fr11.1 98 (by decide) (by decide)).trans (uI_ne (by decide))
  have e99 : I11 99 = I 99 := (fr11.1 99 (by decide) (by decide)).trans (uI_ne (by decide))
  refine x_if_ne (tgt := 19) dX12_trade_14 rfl (fun h14 => ?_) (fun h14 => ?_)
  · obtain ⟨-, ok, hg, z11⟩ := hr11.resolve_right (fun q => by have := q.1; omega)
    have hT11 := hT.fr fr11'
    obtain ⟨oa, ob, oab, oz, ov⟩ := id ok
    have hg8 : ∀ j, 0 ≤ j → j < T 0 3 → 0 ≤ I11 111 j ∧ I11 111 j < 8 := fun j h0 h1 => by rw [hg j h0 h1]; exact ov.g hF j h0 h1
    refine y_aln (i := 0) dX12_trade_19 at91.ne0 rfl rfl ?_
    refine y_aln (i := 0) dX12_trade_20 at91.ne0 rfl rfl ?_
    refine y_getp (z := 14) (v := 98) dX12_trade_21 frX12_38 cfX12 at91 rfl rfl (wp (v := 98) hW rfl rfl (by decide)) ?_
    refine x_iload_n (i := 1) dX12_trade_24 rfl rfl ?_
    refine x_iload_n (i := 2) dX12_trade_25 rfl rfl ?_
    refine x_iload (i := 4) dX12_trade_26 rfl ?_
    refine x_callVI (c_X12_isLawful hW hT11 hF ar98 (by rw [e98]; exact hr.rc) (by omega) (by omega) (by omega) hg8) dX12_trade_28 lkX12_385 mfX12_isLawful cfX12 at91 rfl rfl rfl rfl (Nat.le_of_ble_eq_true rfl) (fun r28 I28 P28 hr28 hf28 => ?_)
    obtain ⟨i28, p28, q28⟩ := hf28
    rw [i28, p28]
    rw [e98, lawP_congr hg] at q28
    refine x_if_ne (tgt := 46) dX12_trade_31 rfl (fun h31 => ?_) (fun h31 => ?_)
    · have hl := (q28.resolve_right (fun q => by have := q.1; omega)).2
      refine y_aln (i := 0) dX12_trade_46 at91.ne0 rfl rfl ?_
      refine y_aln (i := 0) dX12_trade_47 at91.ne0 rfl rfl ?_
      refine y_getp (z := 14) (v := 98) dX12_trade_48 frX12_38 cfX12 at91 rfl rfl (wp (v := 98) hW rfl rfl (by decide)) ?_
      refine x_iload_n (i := 1) dX12_trade_51 rfl rfl ?_
      refine x_iload_n (i := 2) dX12_trade_52 rfl rfl ?_
      refine x_iload (i := 4) dX12_trade_53 rfl ?_
      refine x_callVV (c_X12_trades hW hT11 hF ar98 (by rw [e98]; exact hr.rc) (by omega) (by omega) (by omega) hg8) dX12_trade_55 lkX12_389 mfX12_trades cfX12 at91 rfl rfl rfl rfl (Nat.le_of_ble_eq_true rfl) (fun n55 I55 P55 hf55 => ?_)
      obtain ⟨rfl, hI55, rfl⟩ := hf55
      refine y_ic dX12_trade_58 ⟨by decide, by decide⟩ ?_
      refine x_zret dX12_trade_59 (by omega) rfl ?_
      refine ⟨rfl, Or.inr (Or.inl ⟨ok, hl, rfl, ?_, ?_, ?_⟩), ?_⟩
      · rw [hI55, uA_ne (by decide)]; exact z11
      · rw [hI55, uA_eq, e98, dealS_congr hF hg]
      · rw [hI55, uA_ne (by decide)]; exact e99
      · rw [hI55]; exact fr11'.ua (by decide) (by decide)
    · refine y_aln (i := 0) dX12_trade_34 at91.ne0 rfl rfl ?_
      refine y_getp (z := 15) (v := 99) dX12_trade_35 frX12_41 cfX12 at91 rfl rfl (wp (v := 99) hW rfl rfl (by decide)) ?_
      refine y_ic dX12_trade_38 ⟨by decide, by decide⟩ ?_
      refine x_dup2 dX12_trade_39 rfl rfl ?_
      refine x_iald dX12_trade_40 ar99 ⟨by omega, by omega⟩ ?_
      refine y_ic dX12_trade_41 ⟨by decide, by decide⟩ ?_
      refine x_iaddW dX12_trade_42 ?_
      refine x_iast dX12_trade_43 ar99 ⟨by omega, by omega⟩ ?_
      refine y_ic dX12_trade_44 ⟨by decide, by decide⟩ ?_
      refine x_zret dX12_trade_45 (by omega) rfl ?_
      refine ⟨rfl, Or.inr (Or.inr ⟨ok, (q28.resolve_left (fun q => by have := q.1; omega)).2, rfl, ?_, ?_, ?_⟩), fr11'.ui (by decide) (by decide)⟩
      · rw [uI_ne (by decide)]; exact z11
      · rw [uI_ne (by decide)]; exact e98
      · rw [uI_eq, e99]
  · refine y_ic dX12_trade_17 ⟨by decide, by decide⟩ ?_
    refine x_zret dX12_trade_18 (by omega) rfl ?_
    obtain ⟨-, no, z1⟩ := hr11.resolve_left (fun q => by have := q.1; omega)
    exact ⟨rfl, Or.inl ⟨no, rfl, z1, e98, e99⟩, fr11'⟩
theorem c_X12_tie {p t : Int} (hW : WP P) (hT : MT I T) (hF : WF T) (hr : RW T (I 98)) : Cv G mX12_tie (d + 2) 0 0 [.inr (.inl 91), .inl p, .inl t] NO I P (qI NO (fun r I' P' => P' = P ∧ ((¬ ((0 ≤ p ∧ p < T 0 1) ∧ 0 ≤ t ∧ t < T 0 5) ∧ r = 0 ∧ I' 91 0 = 1 ∧ I' 98 = I 98 ∧ I' 99 = I 99) ∨ (((0 ≤ p ∧ p < T 0 1) ∧ 0 ≤ t ∧ t < T 0 5) ∧ tieP T (I 98) p t ∧ r = 1 ∧ I' 91 0 = 0 ∧ I' 98 = knotS T (I 98) p t ∧ I' 99 = I 99) ∨ (((0 ≤ p ∧ p < T 0 1) ∧ 0 ≤ t ∧ t < T 0 5) ∧ ¬ tieP T (I 98) p t ∧ r = 0 ∧ I' 91 0 = 0 ∧ I' 98 = I 98 ∧ I' 99 = u1 (I 99) 2 (wr (I 99 2 + 1)))) ∧ Fr [98, 99] [0] I I')) := by
  have hT0 : MT (uI I 91 0 0) T := hT.uf (by decide)
  have e5 : uI I 91 0 0 91 5 = T 0 5 := hT0.1 5 (by decide) (by decide)
  have e98 : uI I 91 0 0 98 = I 98 := uI_ne (by decide)
  have e99 : uI I 91 0 0 99 = I 99 := uI_ne (by decide)
  have z0 : uI I 91 0 0 91 0 = 0 := by rw [uI_eq, u1_eq]
  have fr0 : Fr [98, 99] [0] I (uI I 91 0 0) := Fr.rf.uf (by decide)
  refine x_enter mfX12_tie rfl (Nat.le_of_ble_eq_true rfl) (fun _ => ?_)
  have hN : ∀ K : Mem, K 91 0 = 1 → ¬ ((0 ≤ p ∧ p < T 0 1) ∧ 0 ≤ t ∧ t < T 0 5) → Fr [] [0] I K → V G mX12_tie (d + 2) 0 0 38 [none, none, none] [] NO K P (qI NO (fun r I' P' => P' = P ∧ ((¬ ((0 ≤ p ∧ p < T 0 1) ∧ 0 ≤ t ∧ t < T 0 5) ∧ r = 0 ∧ I' 91 0 = 1 ∧ I' 98 = I 98 ∧ I' 99 = I 99) ∨ (((0 ≤ p ∧ p < T 0 1) ∧ 0 ≤ t ∧ t < T 0 5) ∧ tieP T (I 98) p t ∧ r = 1 ∧ I' 91 0 = 0 ∧ I' 98 = knotS T (I 98) p t ∧ I' 99 = I 99) ∨ (((0 ≤ p ∧ p < T 0 1) ∧ 0 ≤ t ∧ t < T 0 5) ∧ ¬ tieP T (I 98) p t ∧ r = 0 ∧ I' 91 0 = 0 ∧ I' 98 = I 98 ∧ I' 99 = u1 (I 99) 2 (wr (I 99 2 + 1)))) ∧ Fr [98, 99] [0] I I')) := fun K h0 hno hFr => by
    refine y_ic dX12_tie_38 ⟨by decide, by decide⟩ ?_
    refine x_zret dX12_tie_39 (by omega) rfl ?_
    exact ⟨rfl, Or.inl ⟨hno, rfl, h0, hFr.1 98 (by decide) (by decide), hFr.1 99 (by decide) (by decide)⟩, hFr.mo (fun x hx => absurd hx (by simp)) (fun x hx => hx)⟩
  refine y_aln (i := 0) dX12_tie_0 at91.ne0 rfl rfl ?_
  refine y_ic dX12_tie_1 ⟨by decide, by decide⟩ ?_
  refine y_puti (z := 0) dX12_tie_2 frX12_184 cfX12 at91 rfl rfl rfl ?_
  refine y_aln (i := 0) dX12_tie_5 at91.ne0 rfl rfl ?_
  refine x_iload_n (i := 1) dX12_tie_6 rfl rfl ?_
  refine x_callVI (c_X12_isPerson hW hT0 z0) dX12_tie_7 lkX12_362 mfX12_isPerson cfX12 at91 rfl rfl rfl rfl (Nat.le_of_ble_eq_true rfl) (fun r7 I7 P7 hr7 hf7 => ?_)
  obtain ⟨rfl, hr7⟩ := hf7
  refine x_if_eq (tgt := 38) dX12_tie_10 rfl (fun h10 => ?_) (fun h10 => ?_)
  · obtain ⟨-, no, hI7⟩ := hr7.resolve_left (fun q => by have := q.1; omega)
    refine x_keep [0, 0, 0] ?_
    first | exact hN _ (by rw [hI7, uI_eq, u1_eq]) (fun q => no q.1) (by rw [hI7]; exact (Fr.rf.uf (by decide)).uf (by decide)) | exact hN _ (by rw [uI_eq, u1_eq]) (fun q => by obtain ⟨q1, q2⟩ := q; omega) ((Fr.rf.uf (by decide)).uf (by decide))
  · obtain ⟨-, op, hI7⟩ := hr7.resolve_right (fun q => by have := q.1; omega)
    rw [hI7]
    refine y_aln (i := 0) dX12_tie_13 at91.ne0 rfl rfl ?_
    refine x_iload_n (i := 2) dX12_tie_14 rfl rfl ?_
    refine x_if_lt (tgt := 30) dX12_tie_15 rfl (fun h15 => ?_) (fun h15 => ?_)
    · refine y_ic dX12_tie_30 ⟨by decide, by decide⟩ ?_
      refine y_ic dX12_tie_31 ⟨by decide, by decide⟩ ?_
      refine x_callVI (c_X12_right2 hW (by first | rw [uI_eq, u1_eq] | assumption) (by omega) (by decide)) dX12_tie_32 lkX12_309 mfX12_right cfX12 at91 rfl rfl rfl rfl (Nat.le_of_ble_eq_true rfl) (fun r32 I32 P32 hr32 hf32 => ?_)
      obtain ⟨rfl, e32, i32⟩ := hf32
      rw [i32]
      refine x_if_ne (tgt := 40) dX12_tie_35 rfl (fun h35 => ?_) (fun h35 => ?_)
      · rw [ifn_1 (by omega)]
        refine y_aln (i := 0) dX12_tie_40 at91.ne0 rfl rfl ?_
        refine y_aln (i := 0) dX12_tie_41 at91.ne0 rfl rfl ?_
        refine y_getp (z := 14) (v := 98) dX12_tie_42 frX12_38 cfX12 at91 rfl rfl (wp (v := 98) hW rfl rfl (by decide)) ?_
        refine x_iload_n (i := 1) dX12_tie_45 rfl rfl ?_
        refine x_iload_n (i := 2) dX12_tie_46 rfl rfl ?_
        refine x_callVI (c_X12_mayTie hW hT0 hF ar98 op (by omega)) dX12_tie_47 lkX12_393 mfX12_mayTie cfX12 at91 rfl rfl rfl rfl (Nat.le_of_ble_eq_true rfl) (fun r47 I47 P47 hr47 hf47 => ?_)
        obtain ⟨i47, p47, q47⟩ := hf47
        rw [i47, p47]
        rw [e98] at q47
        have ok : (0 ≤ p ∧ p < T 0 1) ∧ 0 ≤ t ∧ t < T 0 5 := ⟨op, by omega⟩
        refine x_if_ne (tgt := 65) dX12_tie_50 rfl (fun h50 => ?_) (fun h50 => ?_)
        · have hl := (q47.resolve_right (fun q => by have := q.1; omega)).2
          refine y_aln (i := 0) dX12_tie_65 at91.ne0 rfl rfl ?_
          refine y_aln (i := 0) dX12_tie_66 at91.ne0 rfl rfl ?_
          refine y_getp (z := 14) (v := 98) dX12_tie_67 frX12_38 cfX12 at91 rfl rfl (wp (v := 98) hW rfl rfl (by decide)) ?_
          refine x_iload_n (i := 1) dX12_tie_70 rfl rfl ?_
          refine x_iload_n (i := 2) dX12_tie_71 rfl rfl ?_
          refine x_callVV (c_X12_ties0 hW hT0 hF ar98 (by decide) (by rw [e98]; exact hr.rc) op ok.2) dX12_tie_72 lkX12_397 mfX12_ties0 cfX12 at91 rfl rfl rfl rfl (Nat.le_of_ble_eq_true rfl) (fun n72 I72 P72 hf72 => ?_)
          obtain ⟨rfl, hI72, rfl⟩ := hf72
          refine y_ic dX12_tie_75 ⟨by decide, by decide⟩ ?_
          refine x_zret dX12_tie_76 (by omega) rfl ?_
          refine ⟨rfl, Or.inr (Or.inl ⟨ok, hl, rfl, ?_, ?_, ?_⟩), ?_⟩
          · rw [hI72, uA_ne (by decide)]; exact z0
          · rw [hI72, uA_eq, e98]
          · rw [hI72, uA_ne (by decide)]; exact e99
          · rw [hI72]; exact fr0.ua (by decide) (by decide)
        · refine y_aln (i := 0) dX12_tie_53 at91.ne0 rfl rfl ?_
          refine y_getp (z := 15) (v := 99) dX12_tie_54 frX12_41 cfX12 at91 rfl rfl (wp (v := 99) hW rfl rfl (by decide)) ?_
          refine y_ic dX12_tie_57 ⟨by decide, by decide⟩ ?_
          refine x_dup2 dX12_tie_58 rfl rfl ?_
          refine x_iald dX12_tie_59 ar99 ⟨by omega, by omega⟩ ?_
          refine y_ic dX12_tie_60 ⟨by decide, by decide⟩ ?_
          refine x_iaddW dX12_tie_61 ?_
          refine x_iast dX12_tie_62 ar99 ⟨by omega, by omega⟩ ?_
          refine y_ic dX12_tie_63 ⟨by decide, by decide⟩ ?_
          refine x_zret dX12_tie_64 (by omega) rfl ?_
          refine ⟨rfl, Or.inr (Or.inr ⟨ok, (q47.resolve_left (fun q => by have := q.1; omega)).2, rfl, ?_, ?_, ?_⟩), fr0.ui (by decide) (by decide)⟩
          · rw [uI_ne (by decide)]; exact z0
          · rw [uI_ne (by decide)]; exact e98
          · rw [uI_eq, e99]
      · rw [ifn_0 (by omega)]
        refine x_keep [0, 0, 0] ?_
        first | exact hN _ (by rw [hI7, uI_eq, u1_eq]) (fun q => no q.1) (by rw [hI7]; exact (Fr.rf.uf (by decide)).uf (by decide)) | exact hN _ (by rw [uI_eq, u1_eq]) (fun q => by obtain ⟨q1, q2⟩ := q; omega) ((Fr.rf.uf (by decide)).uf (by decide))
    · refine x_iload_n (i := 2) dX12_tie_18 rfl rfl ?_
      refine y_aln (i := 0) dX12_tie_19 at91.ne0 rfl rfl ?_
      refine y_geti (z := 5) dX12_tie_20 frX12_319 cfX12 at91 rfl rfl ?_
      refine x_icmp_ge (tgt := 30) dX12_tie_23 rfl (fun h23 => ?_) (fun h23 => ?_)
      · refine y_ic dX12_tie_30 ⟨by decide, by decide⟩ ?_
        refine y_ic dX12_tie_31 ⟨by decide, by decide⟩ ?_
        refine x_callVI (c_X12_right2 hW (by first | rw [uI_eq, u1_eq] | assumption) (by omega) (by decide)) dX12_tie_32 lkX12_309 mfX12_right cfX12 at91 rfl rfl rfl rfl (Nat.le_of_ble_eq_true rfl) (fun r32 I32 P32 hr32 hf32 => ?_)
        obtain ⟨rfl, e32, i32⟩ := hf32
        rw [i32]
        refine x_if_ne (tgt := 40) dX12_tie_35 rfl (fun h35 => ?_) (fun h35 => ?_)
        · rw [ifn_1 (by omega)]
          refine y_aln (i := 0) dX12_tie_40 at91.ne0 rfl rfl ?_
          refine y_aln (i := 0) dX12_tie_41 at91.ne0 rfl rfl ?_
          refine y_getp (z := 14) (v := 98) dX12_tie_42 frX12_38 cfX12 at91 rfl rfl (wp (v := 98) hW rfl rfl (by decide)) ?_
          refine x_iload_n (i := 1) dX12_tie_45 rfl rfl ?_
          refine x_iload_n (i := 2) dX12_tie_46 rfl rfl ?_
          refine x_callVI (c_X12_mayTie hW hT0 hF ar98 op (by omega)) dX12_tie_47 lkX12_393 mfX12_mayTie cfX12 at91 rfl rfl rfl rfl (Nat.le_of_ble_eq_true rfl) (fun r47 I47 P47 hr47 hf47 => ?_)
          obtain ⟨i47, p47, q47⟩ := hf47
          rw [i47, p47]
          rw [e98] at q47
          have ok : (0 ≤ p ∧ p < T 0 1) ∧ 0 ≤ t ∧ t < T 0 5 := ⟨op, by omega⟩
          refine x_if_ne (tgt := 65) dX12_tie_50 rfl (fun h50 => ?_) (fun h50 => ?_)
          · have hl := (q47.resolve_right (fun q => by have := q.1; omega)).2
            refine y_aln (i := 0) dX12_tie_65 at91.ne0 rfl rfl ?_
            refine y_aln (i := 0) dX12_tie_66 at91.ne0 rfl rfl ?_
            refine y_getp (z := 14) (v := 98) dX12_tie_67 frX12_38 cfX12 at91 rfl rfl (wp (v := 98) hW rfl rfl (by decide)) ?_
            refine x_iload_n (i := 1) dX12_tie_70 rfl rfl ?_
            refine x_iload_n (i := 2) dX12_tie_71 rfl rfl ?_
            refine x_callVV (c_X12_ties0 hW hT0 hF ar98 (by decide) (by rw [e98]; exact hr.rc) op ok.2) dX12_tie_72 lkX12_397 mfX12_ties0 cfX12 at91 rfl rfl rfl rfl (Nat.le_of_ble_eq_true rfl) (fun n72 I72 P72 hf72 => ?_)
            obtain ⟨rfl, hI72, rfl⟩ := hf72
            refine y_ic dX12_tie_75 ⟨by decide, by decide⟩ ?_
            refine x_zret dX12_tie_76 (by omega) rfl ?_
            refine ⟨rfl, Or.inr (Or.inl ⟨ok, hl, rfl, ?_, ?_, ?_⟩), ?_⟩
            · rw [hI72, uA_ne (by decide)]; exact z0
            · rw [hI72, uA_eq, e98]
            · rw [hI72, uA_ne (by decide)]; exact e99
            · rw [hI72]; exact fr0.ua (by decide) (by decide)
          · refine y_aln (i := 0) dX12_tie_53 at91.ne0 rfl rfl ?_
            refine y_getp (z := 15) (v := 99) dX12_tie_54 frX12_41 cfX12 at91 rfl rfl (wp (v := 99) hW rfl rfl (by decide)) ?_
            refine y_ic dX12_tie_57 ⟨by decide, by decide⟩ ?_
            refine x_dup2 dX12_tie_58 rfl rfl ?_
            refine x_iald dX12_tie_59 ar99 ⟨by omega, by omega⟩ ?_
            refine y_ic dX12_tie_60 ⟨by decide, by decide⟩ ?_
            refine x_iaddW dX12_tie_61 ?_
            refine x_iast dX12_tie_62 ar99 ⟨by omega, by omega⟩ ?_
            refine y_ic dX12_tie_63 ⟨by decide, by decide⟩ ?_
            refine x_zret dX12_tie_64 (by omega) rfl ?_
            refine ⟨rfl, Or.inr (Or.inr ⟨ok, (q47.resolve_left (fun q => by have := q.1; omega)).2, rfl, ?_, ?_, ?_⟩), fr0.ui (by decide) (by decide)⟩
            · rw [uI_ne (by decide)]; exact z0
            · rw [uI_ne (by decide)]; exact e98
            · rw [uI_eq, e99]
        · rw [ifn_0 (by omega)]
          refine x_keep [0, 0, 0] ?_
          first | exact hN _ (by rw [hI7, uI_eq, u1_eq]) (fun q => no q.1) (by rw [hI7]; exact (Fr.rf.uf (by decide)).uf (by decide)) | exact hN _ (by rw [uI_eq, u1_eq]) (fun q => by obtain ⟨q1, q2⟩ := q; omega) ((Fr.rf.uf (by decide)).uf (by decide))
      · refine y_ic dX12_tie_26 ⟨by decide, by decide⟩ ?_
        refine x_goto (tgt := 31) dX12_tie_27 rfl ?_
        refine y_ic dX12_tie_31 ⟨by decide, by decide⟩ ?_
        refine x_callVI (c_X12_right2 hW (by first | rw [uI_eq, u1_eq] | assumption) (by omega) (by decide)) dX12_tie_32 lkX12_309 mfX12_right cfX12 at91 rfl rfl rfl rfl (Nat.le_of_ble_eq_true rfl) (fun r32 I32 P32 hr32 hf32 => ?_)
        obtain ⟨rfl, e32, i32⟩ := hf32
        rw [i32]
        refine x_if_ne (tgt := 40) dX12_tie_35 rfl (fun h35 => ?_) (fun h35 => ?_)
        · rw [ifn_1 (by omega)]
          refine y_aln (i := 0) dX12_tie_40 at91.ne0 rfl rfl ?_
          refine y_aln (i := 0) dX12_tie_41 at91.ne0 rfl rfl ?_
          refine y_getp (z := 14) (v := 98) dX12_tie_42 frX12_38 cfX12 at91 rfl rfl (wp (v := 98) hW rfl rfl (by decide)) ?_
          refine x_iload_n (i := 1) dX12_tie_45 rfl rfl ?_
          refine x_iload_n (i := 2) dX12_tie_46 rfl rfl ?_
          refine x_callVI (c_X12_mayTie hW hT0 hF ar98 op (by omega)) dX12_tie_47 lkX12_393 mfX12_mayTie cfX12 at91 rfl rfl rfl rfl (Nat.le_of_ble_eq_true rfl) (fun r47 I47 P47 hr47 hf47 => ?_)
          obtain ⟨i47, p47, q47⟩ := hf47
          rw [i47, p47]
          rw [e98] at q47
          have ok : (0 ≤ p ∧ p < T 0 1) ∧ 0 ≤ t ∧ t < T 0 5 := ⟨op, by omega⟩
          refine x_if_ne (tgt := 65) dX12_tie_50 rfl (fun h50 => ?_) (fun h50 => ?_)
          · have hl := (q47.resolve_right (fun q => by have := q.1; omega)).2
            refine y_aln (i := 0) dX12_tie_65 at91.ne0 rfl rfl ?_
            refine y_aln (i := 0) dX12_tie_66 at91.ne0 rfl rfl ?_
            refine y_getp (z := 14) (v := 98) dX12_tie_67 frX12_38 cfX12 at91 rfl rfl (wp (v := 98) hW rfl rfl (by decide)) ?_
            refine x_iload_n (i := 1) dX12_tie_70 rfl rfl ?_
            refine x_iload_n (i := 2) dX12_tie_71 rfl rfl ?_
            refine x_callVV (c_X12_ties0 hW hT0 hF ar98 (by decide) (by rw [e98]; exact hr.rc) op ok.2) dX12_tie_72 lkX12_397 mfX12_ties0 cfX12 at91 rfl rfl rfl rfl (Nat.le_of_ble_eq_true rfl) (fun n72 I72 P72 hf72 => ?_)
            obtain ⟨rfl, hI72, rfl⟩ := hf72
            refine y_ic dX12_tie_75 ⟨by decide, by decide⟩ ?_
            refine x_zret dX12_tie_76 (by omega) rfl ?_
            refine ⟨rfl, Or.inr (Or.inl ⟨ok, hl, rfl, ?_, ?_, ?_⟩), ?_⟩
            · rw [hI72, uA_ne (by decide)]; exact z0
            · rw [hI72, uA_eq, e98]
            · rw [hI72, uA_ne (by decide)]; exact e99
            · rw [hI72]; exact fr0.ua (by decide) (by decide)
          · refine y_aln (i := 0) dX12_tie_53 at91.ne0 rfl rfl ?_
            refine y_getp (z := 15) (v := 99) dX12_tie_54 frX12_41 cfX12 at91 rfl rfl (wp (v := 99) hW rfl rfl (by decide)) ?_
            refine y_ic dX12_tie_57 ⟨by decide, by decide⟩ ?_
            refine x_dup2 dX12_tie_58 rfl rfl ?_
            refine x_iald dX12_tie_59 ar99 ⟨by omega, by omega⟩ ?_
            refine y_ic dX12_tie_60 ⟨by decide, by decide⟩ ?_
            refine x_iaddW dX12_tie_61 ?_
            refine x_iast dX12_tie_62 ar99 ⟨by omega, by omega⟩ ?_
            refine y_ic dX12_tie_63 ⟨by decide, by decide⟩ ?_
            refine x_zret dX12_tie_64 (by omega) rfl ?_
            refine ⟨rfl, Or.inr (Or.inr ⟨ok, (q47.resolve_left (fun q => by have := q.1; omega)).2, rfl, ?_, ?_, ?_⟩), fr0.ui (by decide) (by decide)⟩
            · rw [uI_ne (by decide)]; exact z0
            · rw [uI_ne (by decide)]; exact e98
            · rw [uI_eq, e99]
        · rw [ifn_0 (by omega)]
          refine x_keep [0, 0, 0] ?_
          first | exact hN _ (by rw [hI7, uI_eq, u1_eq]) (fun q => no q.1) (by rw [hI7]; exact (Fr.rf.uf (by decide)).uf (by decide)) | exact hN _ (by rw [uI_eq, u1_eq]) (fun q => by obtain ⟨q1, q2⟩ := q; omega) ((Fr.rf.uf (by decide)).uf (by decide))
end

