/-! ===== the reference: states that can be come to ===== -/
section
variable {G : HX} {d : Nat} {I : Mem} {P : Ptr} {T : Tn}
theorem c_X12_mixOf {of : Nat} (hA : AR NO of 20 48) : Cv G mX12_mixOf d 0 0 [.inr (.inl of)] NO I P (qI NO (fun r I' P' => I' = I ∧ P' = P ∧ r = mixF (I of))) := by
  refine x_enter mfX12_mixOf rfl (Nat.le_of_ble_eq_true rfl) (fun _ => ?_)
  have hL : ∀ (j : Nat) (k v : Int), (48 - k).toNat < j → 0 ≤ k → k ≤ 48 → v = itN (fun k v => wr (wr (v * 31) + I of k)) k 0 → V G mX12_mixOf d 0 0 4 [some (.inr (.inl of)), some (.inl (v)), some (.inl (k))] [] NO I P (qI NO (fun r I' P' => I' = I ∧ P' = P ∧ r = mixF (I of))) := by
    intro j
    induction j with
    | zero => intro k v hj; omega
    | succ j ih =>
      intro k v hj hk hk2 hv
      refine x_iload_n (i := 2) dX12_mixOf_4 rfl rfl ?_
      refine y_bi dX12_mixOf_5 ⟨by decide, by decide⟩ ?_
      refine x_icmp_ge (tgt := 25) dX12_mixOf_7 rfl (fun h7 => ?_) (fun h7 => ?_)
      · refine x_iload_n (i := 1) dX12_mixOf_25 rfl rfl ?_
        refine x_iret dX12_mixOf_26 rfl ?_
        exact ⟨rfl, rfl, by rw [hv, show k = 48 by omega]; rfl⟩
      · refine x_iload_n (i := 1) dX12_mixOf_10 rfl rfl ?_
        refine y_bi dX12_mixOf_11 ⟨by decide, by decide⟩ ?_
        refine x_imulW dX12_mixOf_13 ?_
        refine y_aln (i := 0) dX12_mixOf_14 hA.ne0 rfl rfl ?_
        refine x_iload_n (i := 2) dX12_mixOf_15 rfl rfl ?_
        refine x_iald dX12_mixOf_16 hA ⟨by omega, by omega⟩ ?_
        refine x_iaddW dX12_mixOf_17 ?_
        refine x_istore_n (i := 1) dX12_mixOf_18 rfl rfl (Nat.le_of_ble_eq_true rfl) ?_
        refine x_iinc dX12_mixOf_19 rfl ⟨by omega, by omega⟩ rfl (Nat.le_of_ble_eq_true rfl) ?_
        refine x_goto (tgt := 4) dX12_mixOf_22 rfl ?_
        refine x_keep [1, 1, 1] ?_
        exact ih (k + 1) _ (by omega) (by omega) (by omega) (by rw [itN_s _ _ hk, ← hv])
  refine y_ic dX12_mixOf_0 ⟨by decide, by decide⟩ ?_
  refine x_istore_n (i := 1) dX12_mixOf_1 rfl rfl (Nat.le_of_ble_eq_true rfl) ?_
  refine y_ic dX12_mixOf_2 ⟨by decide, by decide⟩ ?_
  refine x_istore_n (i := 2) dX12_mixOf_3 rfl rfl (Nat.le_of_ble_eq_true rfl) ?_
  refine x_keep [1, 1, 1] ?_
  exact hL _ 0 0 (Nat.lt_succ_self _) (by decide) (by decide) rfl
theorem c_X12_isKnown {of : Nat} {mix : Int} {x : Sx} (hW : WP P) (hA : AR NO of 20 48) (hS : MX T I x) (hn : x.1 ≤ 1000) (hm : mix = mixF (I of)) : Cv G mX12_isKnown d 0 0 [.inr (.inl 91), .inr (.inl of), .inl mix] NO I P (qI NO (fun r I' P' => I' = I ∧ P' = P ∧ ((r = 1 ∧ knownX x (I of)) ∨ (r = 0 ∧ ¬ knownX x (I of))))) := by
  obtain ⟨s1, s2, -⟩ := hS
  refine x_enter mfX12_isKnown rfl (Nat.le_of_ble_eq_true rfl) (fun _ => ?_)
  have hL : ∀ (j : Nat) (s : Int), (x.1 - s).toNat < j → 0 ≤ s → (∀ t, 0 ≤ t → t < s → t < x.1 → ¬ RE (rowX x t) (I of)) → V G mX12_isKnown d 0 0 2 [some (.inr (.inl 91)), some (.inr (.inl of)), some (.inl (mix)), some (.inl (s)), none, none] [] NO I P (qI NO (fun r I' P' => I' = I ∧ P' = P ∧ ((r = 1 ∧ knownX x (I of)) ∨ (r = 0 ∧ ¬ knownX x (I of))))) := by
    intro j
    induction j with
    | zero => intro s hj; omega
    | succ j ih =>
      intro s hj hs hno
      have nx : s < x.1 → ¬ RE (rowX x s) (I of) → V G mX12_isKnown d 0 0 80 [some (.inr (.inl 91)), some (.inr (.inl of)), some (.inl (mix)), some (.inl (s)), none, none] [] NO I P (qI NO (fun r I' P' => I' = I ∧ P' = P ∧ ((r = 1 ∧ knownX x (I of)) ∨ (r = 0 ∧ ¬ knownX x (I of))))) := fun h1 h2 => by
        refine x_iinc dX12_isKnown_80 rfl ⟨by omega, by omega⟩ rfl (Nat.le_of_ble_eq_true rfl) ?_
        refine x_goto (tgt := 2) dX12_isKnown_83 rfl ?_
        refine x_keep [1, 1, 1, 1, 0, 0] ?_
        exact ih (s + 1) (by omega) (by omega) (fun t t0 t1 t2 => by by_cases e : t = s; (rw [e]; exact h2); exact hno t t0 (by omega) t2)
      have hK : s < x.1 → ∀ (j : Nat) (k same : Int), (48 - k).toNat < j → 0 ≤ k → k ≤ 48 → ((same = 1 ∧ ∀ c, 0 ≤ c → c < k → rowX x s c = I of c) ∨ (same = 0 ∧ ¬ RE (rowX x s) (I of))) → V G mX12_isKnown d 0 0 29 [some (.inr (.inl 91)), some (.inr (.inl of)), some (.inl (mix)), some (.inl (s)), some (.inl (same)), some (.inl (k))] [] NO I P (qI NO (fun r I' P' => I' = I ∧ P' = P ∧ ((r = 1 ∧ knownX x (I of)) ∨ (r = 0 ∧ ¬ knownX x (I of))))) := by
        intro h1 j
        induction j with
        | zero => intro k same hj; omega
        | succ j ihk =>
          intro k same hj hk hk2 hsm
          have h2 := (s2 s hs h1).1
          refine x_iload (i := 5) dX12_isKnown_29 rfl ?_
          refine y_bi dX12_isKnown_31 ⟨by decide, by decide⟩ ?_
          refine x_icmp_ge (tgt := 73) dX12_isKnown_33 rfl (fun h33 => ?_) (fun h33 => ?_)
          · refine x_iload (i := 4) dX12_isKnown_73 rfl ?_
            refine x_if_eq (tgt := 80) dX12_isKnown_75 rfl (fun h75 => ?_) (fun h75 => ?_)
            · refine x_keep [1, 1, 1, 1, 0, 0] ?_
              exact nx h1 (hsm.resolve_left (fun q => by omega)).2
            · refine y_ic dX12_isKnown_78 ⟨by decide, by decide⟩ ?_
              refine x_zret dX12_isKnown_79 (by omega) rfl ?_
              exact ⟨rfl, rfl, Or.inl ⟨rfl, s, hs, h1, fun c c0 c1 => (hsm.resolve_right (fun q => by omega)).2 c c0 (by omega)⟩⟩
          · refine x_iload (i := 4) dX12_isKnown_36 rfl ?_
            refine x_if_eq (tgt := 73) dX12_isKnown_38 rfl (fun h38 => ?_) (fun h38 => ?_)
            · refine x_iload (i := 4) dX12_isKnown_73 rfl ?_
              refine x_if_eq (tgt := 80) dX12_isKnown_75 rfl (fun h75 => ?_) (fun h75 => ?_)
              · refine x_keep [1, 1, 1, 1, 0, 0] ?_
                exact nx h1 (hsm.resolve_left (fun q => by omega)).2
              · refine y_ic dX12_isKnown_78 ⟨by decide, by decide⟩ ?_
                refine x_zret dX12_isKnown_79 (by omega) rfl ?_
                exact ⟨rfl, rfl, Or.inl ⟨rfl, s, hs, h1, fun c c0 c1 => (hsm.resolve_right (fun q => by omega)).2 c c0 (by omega)⟩⟩
            · refine y_aln (i := 0) dX12_isKnown_41 at91.ne0 rfl rfl ?_
              refine y_getp (z := 48) (v := 113) dX12_isKnown_42 frX12_88 cfX12 at91 rfl rfl (wp (v := 113) hW rfl rfl (by decide)) ?_
              refine y_bi dX12_isKnown_45 ⟨by decide, by decide⟩ ?_
              refine x_iload_n (i := 3) dX12_isKnown_47 rfl rfl ?_
              refine x_imul dX12_isKnown_48 ⟨by omega, by omega⟩ ?_
              refine x_iload (i := 5) dX12_isKnown_49 rfl ?_
              refine x_iadd dX12_isKnown_51 ⟨by omega, by omega⟩ ?_
              refine x_iald dX12_isKnown_52 ar113 ⟨by omega, by omega⟩ ?_
              rw [h2 k hk (by omega)]
              refine y_aln (i := 1) dX12_isKnown_53 hA.ne0 rfl rfl ?_
              refine x_iload (i := 5) dX12_isKnown_54 rfl ?_
              refine x_iald dX12_isKnown_56 hA ⟨by omega, by omega⟩ ?_
              refine x_icmp_ne (tgt := 64) dX12_isKnown_57 rfl (fun h57 => ?_) (fun h57 => ?_)
              · refine y_ic dX12_isKnown_64 ⟨by decide, by decide⟩ ?_
                refine x_istore (i := 4) dX12_isKnown_65 rfl (Nat.le_of_ble_eq_true rfl) ?_
                refine x_iinc dX12_isKnown_67 rfl ⟨by omega, by omega⟩ rfl (Nat.le_of_ble_eq_true rfl) ?_
                refine x_goto (tgt := 29) dX12_isKnown_70 rfl ?_
                refine x_keep [1, 1, 1, 1, 1, 1] ?_
                refine ihk (k + 1) _ (by omega) (by omega) (by omega) ?_
                first | exact Or.inl ⟨rfl, fun c c0 c1 => by by_cases e : c = k; (rw [e]; exact h57); exact (hsm.resolve_right (fun q => by omega)).2 c c0 (by omega)⟩ | exact Or.inr ⟨rfl, fun q => h57 (q k hk (by omega))⟩
              · refine y_ic dX12_isKnown_60 ⟨by decide, by decide⟩ ?_
                refine x_goto (tgt := 65) dX12_isKnown_61 rfl ?_
                refine x_istore (i := 4) dX12_isKnown_65 rfl (Nat.le_of_ble_eq_true rfl) ?_
                refine x_iinc dX12_isKnown_67 rfl ⟨by omega, by omega⟩ rfl (Nat.le_of_ble_eq_true rfl) ?_
                refine x_goto (tgt := 29) dX12_isKnown_70 rfl ?_
                refine x_keep [1, 1, 1, 1, 1, 1] ?_
                refine ihk (k + 1) _ (by omega) (by omega) (by omega) ?_
                first | exact Or.inl ⟨rfl, fun c c0 c1 => by by_cases e : c = k; (rw [e]; exact h57); exact (hsm.resolve_right (fun q => by omega)).2 c c0 (by omega)⟩ | exact Or.inr ⟨rfl, fun q => h57 (q k hk (by omega))⟩
      refine x_iload_n (i := 3) dX12_isKnown_2 rfl rfl ?_
      refine y_aln (i := 0) dX12_isKnown_3 at91.ne0 rfl rfl ?_
      refine y_geti (z := 47) dX12_isKnown_4 frX12_401 cfX12 at91 rfl rfl ?_
      refine x_icmp_ge (tgt := 86) dX12_isKnown_7 rfl (fun h7 => ?_) (fun h7 => ?_)
      · refine y_ic dX12_isKnown_86 ⟨by decide, by decide⟩ ?_
        refine x_zret dX12_isKnown_87 (by omega) rfl ?_
        exact ⟨rfl, rfl, Or.inr ⟨rfl, fun ⟨t, t0, t1, t2⟩ => hno t t0 (by omega) t1 t2⟩⟩
      · refine y_aln (i := 0) dX12_isKnown_10 at91.ne0 rfl rfl ?_
        refine y_getp (z := 49) (v := 114) dX12_isKnown_11 frX12_91 cfX12 at91 rfl rfl (wp (v := 114) hW rfl rfl (by decide)) ?_
        refine x_iload_n (i := 3) dX12_isKnown_14 rfl rfl ?_
        refine x_iald dX12_isKnown_15 ar114 ⟨by omega, by omega⟩ ?_
        rw [(s2 s hs (by omega)).2.1]
        refine x_iload_n (i := 2) dX12_isKnown_16 rfl rfl ?_
        refine x_icmp_eq (tgt := 23) dX12_isKnown_17 rfl (fun h17 => ?_) (fun h17 => ?_)
        · refine y_ic dX12_isKnown_23 ⟨by decide, by decide⟩ ?_
          refine x_istore (i := 4) dX12_isKnown_24 rfl (Nat.le_of_ble_eq_true rfl) ?_
          refine y_ic dX12_isKnown_26 ⟨by decide, by decide⟩ ?_
          refine x_istore (i := 5) dX12_isKnown_27 rfl (Nat.le_of_ble_eq_true rfl) ?_
          refine x_keep [1, 1, 1, 1, 1, 1] ?_
          exact hK (by omega) _ _ _ (Nat.lt_succ_self _) (by decide) (by decide) (Or.inl ⟨rfl, fun c c0 c1 => by omega⟩)
        · refine x_goto (tgt := 80) dX12_isKnown_20 rfl ?_
          refine x_keep [1, 1, 1, 1, 0, 0] ?_
          exact nx (by omega) (fun q => h17 (by rw [hm]; exact q.mix))
  refine y_ic dX12_isKnown_0 ⟨by decide, by decide⟩ ?_
  refine x_istore_n (i := 3) dX12_isKnown_1 rfl rfl (Nat.le_of_ble_eq_true rfl) ?_
  refine x_keep [1, 1, 1, 1, 0, 0] ?_
  exact hL _ 0 (Nat.lt_succ_self _) (by decide) (fun t t0 t1 => by omega)
theorem c_X12_lays0 {of : Nat} {mix e a b v z : Int} {r : Rw} {h : Int × Int × Int × Int × Int} {x : Sx} (hW : WP P) (hA : AR NO of 20 48) (hS : MX T I x) (hn : 0 ≤ x.1 ∧ x.1 < 1000) (hre : RE (I of) r) (hm : mix = mixF r) (hh : e = h.1 ∧ a = h.2.1 ∧ b = h.2.2.1 ∧ v = numX T h ∧ z = h.2.2.2.2) (ho : of ∉ srS) : Cv G mX12_lays0 d 0 0 [.inr (.inl 91), .inr (.inl of), .inl mix, .inl e, .inl a, .inl b, .inl v, .inl z] NO I P (qV (fun n' I' P' => n' = NO ∧ P' = P ∧ Fr srS [47] I I' ∧ MX T I' (x.1 + 1, fun s => if s = x.1 then r else rowX x s, fun s => if s = x.1 then h else howX x s, ansX x, spX x))) := by
  obtain ⟨s1, s2, s3, s4⟩ := hS
  have o113 : of ≠ 113 := fun q => ho (by rw [q]; decide)
  refine x_enter mfX12_lays0 rfl (Nat.le_of_ble_eq_true rfl) (fun _ => ?_)
  have hL : ∀ (j : Nat) (k : Int) (K : Mem), (48 - k).toNat < j → 0 ≤ k → k ≤ 48 → (∀ c, K 113 c = if 48 * x.1 ≤ c ∧ c < 48 * x.1 + k then r (c - 48 * x.1) else I 113 c) → (∀ q, q ≠ 113 → K q = I q) → V G mX12_lays0 d 0 0 3 [some (.inr (.inl 91)), some (.inr (.inl of)), some (.inl (mix)), some (.inl (e)), some (.inl (a)), some (.inl (b)), some (.inl (v)), some (.inl (z)), some (.inl (k))] [] NO K P (qV (fun n' I' P' => n' = NO ∧ P' = P ∧ Fr srS [47] I I' ∧ MX T I' (x.1 + 1, fun s => if s = x.1 then r else rowX x s, fun s => if s = x.1 then h else howX x s, ansX x, spX x))) := by
    intro j
    induction j with
    | zero => intro k K hj; omega
    | succ j ih =>
      intro k K hj hk hk2 hK hKo
      have e47 : K 91 47 = x.1 := by rw [hKo 91 (by decide)]; exact s1
      refine x_iload (i := 8) dX12_lays0_3 rfl ?_
      refine y_bi dX12_lays0_5 ⟨by decide, by decide⟩ ?_
      refine x_icmp_ge (tgt := 35) dX12_lays0_7 rfl (fun h7 => ?_) (fun h7 => ?_)
      · refine y_aln (i := 0) dX12_lays0_35 at91.ne0 rfl rfl ?_
        refine y_getp (z := 49) (v := 114) dX12_lays0_36 frX12_91 cfX12 at91 rfl rfl (wp (v := 114) hW rfl rfl (by decide)) ?_
        refine y_aln (i := 0) dX12_lays0_39 at91.ne0 rfl rfl ?_
        refine y_geti (z := 47) dX12_lays0_40 frX12_401 cfX12 at91 rfl rfl ?_
        rw [e47]
        refine x_iload_n (i := 2) dX12_lays0_43 rfl rfl ?_
        refine x_iast dX12_lays0_44 ar114 ⟨by omega, by omega⟩ ?_
        refine y_aln (i := 0) dX12_lays0_45 at91.ne0 rfl rfl ?_
        refine y_getp (z := 50) (v := 115) dX12_lays0_46 frX12_94 cfX12 at91 rfl rfl (wp (v := 115) hW rfl rfl (by decide)) ?_
        refine y_aln (i := 0) dX12_lays0_49 at91.ne0 rfl rfl ?_
        refine y_geti (z := 47) dX12_lays0_50 frX12_401 cfX12 at91 rfl rfl ?_
        rw [uI_ne (by decide), e47]
        refine x_iload_n (i := 3) dX12_lays0_53 rfl rfl ?_
        refine x_iast dX12_lays0_54 ar115 ⟨by omega, by omega⟩ ?_
        refine y_aln (i := 0) dX12_lays0_55 at91.ne0 rfl rfl ?_
        refine y_getp (z := 51) (v := 116) dX12_lays0_56 frX12_97 cfX12 at91 rfl rfl (wp (v := 116) hW rfl rfl (by decide)) ?_
        refine y_aln (i := 0) dX12_lays0_59 at91.ne0 rfl rfl ?_
        refine y_geti (z := 47) dX12_lays0_60 frX12_401 cfX12 at91 rfl rfl ?_
        rw [uI_ne (by decide), uI_ne (by decide), e47]
        refine x_iload (i := 4) dX12_lays0_63 rfl ?_
        refine x_iast dX12_lays0_65 ar116 ⟨by omega, by omega⟩ ?_
        refine y_aln (i := 0) dX12_lays0_66 at91.ne0 rfl rfl ?_
        refine y_getp (z := 52) (v := 117) dX12_lays0_67 frX12_100 cfX12 at91 rfl rfl (wp (v := 117) hW rfl rfl (by decide)) ?_
        refine y_aln (i := 0) dX12_lays0_70 at91.ne0 rfl rfl ?_
        refine y_geti (z := 47) dX12_lays0_71 frX12_401 cfX12 at91 rfl rfl ?_
        rw [uI_ne (by decide), uI_ne (by decide), uI_ne (by decide), e47]
        refine x_iload (i := 5) dX12_lays0_74 rfl ?_
        refine x_iast dX12_lays0_76 ar117 ⟨by omega, by omega⟩ ?_
        refine y_aln (i := 0) dX12_lays0_77 at91.ne0 rfl rfl ?_
        refine y_getp (z := 53) (v := 118) dX12_lays0_78 frX12_103 cfX12 at91 rfl rfl (wp (v := 118) hW rfl rfl (by decide)) ?_
        refine y_aln (i := 0) dX12_lays0_81 at91.ne0 rfl rfl ?_
        refine y_geti (z := 47) dX12_lays0_82 frX12_401 cfX12 at91 rfl rfl ?_
        rw [uI_ne (by decide), uI_ne (by decide), uI_ne (by decide), uI_ne (by decide), e47]
        refine x_iload (i := 6) dX12_lays0_85 rfl ?_
        refine x_iast dX12_lays0_87 ar118 ⟨by omega, by omega⟩ ?_
        refine y_aln (i := 0) dX12_lays0_88 at91.ne0 rfl rfl ?_
        refine y_getp (z := 54) (v := 119) dX12_lays0_89 frX12_106 cfX12 at91 rfl rfl (wp (v := 119) hW rfl rfl (by decide)) ?_
        refine y_aln (i := 0) dX12_lays0_92 at91.ne0 rfl rfl ?_
        refine y_geti (z := 47) dX12_lays0_93 frX12_401 cfX12 at91 rfl rfl ?_
        rw [uI_ne (by decide), uI_ne (by decide), uI_ne (by decide), uI_ne (by decide), uI_ne (by decide), e47]
        refine x_iload (i := 7) dX12_lays0_96 rfl ?_
        refine x_iast dX12_lays0_98 ar119 ⟨by omega, by omega⟩ ?_
        refine y_aln (i := 0) dX12_lays0_99 at91.ne0 rfl rfl ?_
        refine x_dup dX12_lays0_100 rfl ?_
        refine y_geti (z := 47) dX12_lays0_101 frX12_401 cfX12 at91 rfl rfl ?_
        rw [uI_ne (by decide), uI_ne (by decide), uI_ne (by decide), uI_ne (by decide), uI_ne (by decide), uI_ne (by decide), e47]
        refine y_ic dX12_lays0_104 ⟨by decide, by decide⟩ ?_
        refine x_iadd dX12_lays0_105 ⟨by omega, by omega⟩ ?_
        refine y_puti (z := 47) dX12_lays0_106 frX12_401 cfX12 at91 rfl rfl rfl ?_
        refine x_vret dX12_lays0_109 rfl ?_
        refine ⟨rfl, rfl, ?_, ?_⟩
        · have hFK : Fr srS [47] I K := ⟨fun q _ hq => hKo q (fun e => hq (by rw [e]; decide)), fun q _ => by rw [hKo 91 (by decide)]⟩
          exact ((((((hFK.ui (by decide) (by decide)).ui (by decide) (by decide)).ui (by decide) (by decide)).ui (by decide) (by decide)).ui (by decide) (by decide)).ui (by decide) (by decide)).uf (by decide)
        · obtain ⟨J, hJ⟩ : ∃ J, J = uI (uI (uI (uI (uI (uI (uI K 114 x.1 mix) 115 x.1 e) 116 x.1 a) 117 x.1 b) 118 x.1 v) 119 x.1 z) 91 47 (x.1 + 1) := ⟨_, rfl⟩
          rw [← hJ]
          have j113 : J 113 = K 113 := by rw [hJ, uI_ne (by decide), uI_ne (by decide), uI_ne (by decide), uI_ne (by decide), uI_ne (by decide), uI_ne (by decide), uI_ne (by decide)]
          have j114 : J 114 = u1 (I 114) x.1 mix := by rw [hJ, uI_ne (by decide), uI_ne (by decide), uI_ne (by decide), uI_ne (by decide), uI_ne (by decide), uI_ne (by decide), uI_eq, hKo 114 (by decide)]
          have j115 : J 115 = u1 (I 115) x.1 e := by rw [hJ, uI_ne (by decide), uI_ne (by decide), uI_ne (by decide), uI_ne (by decide), uI_ne (by decide), uI_eq, uI_ne (by decide), hKo 115 (by decide)]
          have j116 : J 116 = u1 (I 116) x.1 a := by rw [hJ, uI_ne (by decide), uI_ne (by decide), uI_ne (by decide), uI_ne (by decide), uI_eq, uI_ne (by decide), uI_ne (by decide), hKo 116 (by decide)]
          have j117 : J 117 = u1 (I 117) x.1 b := by rw [hJ, uI_ne (by decide), uI_ne (by decide), uI_ne (by decide), uI_eq, uI_ne (by decide), uI_ne (by decide), uI_ne (by decide), hKo 117 (by decide)]
          have j118 : J 118 = u1 (I 118) x.1 v := by rw [hJ, uI_ne (by decide), uI_ne (by decide), uI_eq, uI_ne (by decide), uI_ne (by decide), uI_ne (by decide), uI_ne (by decide), hKo 118 (by decide)]
          have j119 : J 119 = u1 (I 119) x.1 z := by rw [hJ, uI_ne (by decide), uI_eq, uI_ne (by decide), uI_ne (by decide), uI_ne (by decide), uI_ne (by decide), uI_ne (by decide), hKo 119 (by decide)]
          have j91 : J 91 = u1 (I 91) 47 (x.1 + 1) := by rw [hJ, uI_eq, uI_ne (by decide), uI_ne (by decide), uI_ne (by decide), uI_ne (by decide), uI_ne (by decide), uI_ne (by decide), hKo 91 (by decide)]
          refine ⟨by rw [j91, u1_eq], fun s q0 q1 => ?_, by rw [j91, u1_ne (by decide)]; exact s3, by rw [j91, u1_ne (by decide)]; exact s4⟩
          rw [j113, j114, j115, j116, j117, j118, j119]
          by_cases es : s = x.1
          · show _ ∧ _ = mixF (if s = x.1 then r else rowX x s) ∧ _ = (if s = x.1 then h else howX x s).1 ∧ _ = (if s = x.1 then h else howX x s).2.1 ∧ _ = (if s = x.1 then h else howX x s).2.2.1 ∧ _ = numX T (if s = x.1 then h else howX x s) ∧ _ = (if s = x.1 then h else howX x s).2.2.2.2
            rw [if_pos es, if_pos es, es, u1_eq, u1_eq, u1_eq, u1_eq, u1_eq, u1_eq]
            refine ⟨fun c c0 c1 => ?_, hm, hh⟩
            rw [hK, if_pos (by omega), show 48 * x.1 + c - 48 * x.1 = c by omega]
            show r c = (if x.1 = x.1 then r else rowX x x.1) c
            rw [if_pos rfl]
          · have q2 : s < x.1 := by change s < x.1 + 1 at q1; omega
            show _ ∧ _ = mixF (if s = x.1 then r else rowX x s) ∧ _ = (if s = x.1 then h else howX x s).1 ∧ _ = (if s = x.1 then h else howX x s).2.1 ∧ _ = (if s = x.1 then h else howX x s).2.2.1 ∧ _ = numX T (if s = x.1 then h else howX x s) ∧ _ = (if s = x.1 then h else howX x s).2.2.2.2
            rw [if_neg es, if_neg es, u1_ne es, u1_ne es, u1_ne es, u1_ne es, u1_ne es, u1_ne es]
            refine ⟨fun c c0 c1 => ?_, (s2 s q0 q2).2⟩
            rw [hK, if_neg (by omega)]
            show _ = (if s = x.1 then r else rowX x s) c
            rw [if_neg es]
            exact (s2 s q0 q2).1 c c0 c1
      · refine y_aln (i := 0) dX12_lays0_10 at91.ne0 rfl rfl ?_
        refine y_getp (z := 48) (v := 113) dX12_lays0_11 frX12_88 cfX12 at91 rfl rfl (wp (v := 113) hW rfl rfl (by decide)) ?_
        refine y_bi dX12_lays0_14 ⟨by decide, by decide⟩ ?_
        refine y_aln (i := 0) dX12_lays0_16 at91.ne0 rfl rfl ?_
        refine y_geti (z := 47) dX12_lays0_17 frX12_401 cfX12 at91 rfl rfl ?_
        rw [e47]
        refine x_imul dX12_lays0_20 ⟨by omega, by omega⟩ ?_
        refine x_iload (i := 8) dX12_lays0_21 rfl ?_
        refine x_iadd dX12_lays0_23 ⟨by omega, by omega⟩ ?_
        refine y_aln (i := 1) dX12_lays0_24 hA.ne0 rfl rfl ?_
        refine x_iload (i := 8) dX12_lays0_25 rfl ?_
        refine x_iald dX12_lays0_27 hA ⟨by omega, by omega⟩ ?_
        rw [hKo of o113, hre k hk (by omega)]
        refine x_iast dX12_lays0_28 ar113 ⟨by omega, by omega⟩ ?_
        refine x_iinc dX12_lays0_29 rfl ⟨by omega, by omega⟩ rfl (Nat.le_of_ble_eq_true rfl) ?_
        refine x_goto (tgt := 3) dX12_lays0_32 rfl ?_
        refine x_keep [1, 1, 1, 1, 1, 1, 1, 1, 1] ?_
        refine ih (k + 1) _ (by omega) (by omega) (by omega) (fun c => ?_) (fun q hq => by rw [uI_ne hq]; exact hKo q hq)
        rw [uI_eq]
        by_cases ec : c = 48 * x.1 + k
        · rw [ec, u1_eq, if_pos (by omega), show 48 * x.1 + k - 48 * x.1 = k by omega]
        · rw [u1_ne ec, hK c]
          by_cases q : 48 * x.1 ≤ c ∧ c < 48 * x.1 + k
          · rw [if_pos q, if_pos (by omega)]
          · rw [if_neg q, if_neg (by omega)]
  refine y_ic dX12_lays0_0 ⟨by decide, by decide⟩ ?_
  refine x_istore (i := 8) dX12_lays0_1 rfl (Nat.le_of_ble_eq_true rfl) ?_
  refine x_keep [1, 1, 1, 1, 1, 1, 1, 1, 1] ?_
  exact hL _ 0 _ (Nat.lt_succ_self _) (by decide) (by decide) (fun c => by rw [if_neg (by omega)]) (fun q _ => rfl)
theorem c_X12_isOver {x : Sx} (hW : WP P) (hS : MX T I x) : Cv G mX12_isOver d 0 0 [.inr (.inl 91)] NO I P (qI NO (fun r I' P' => I' = I ∧ P' = P ∧ ((r = 1 ∧ overX x) ∨ (r = 0 ∧ ¬ overX x)))) := by
  obtain ⟨s1, s2, s3, s4⟩ := hS
  refine x_enter mfX12_isOver rfl (Nat.le_of_ble_eq_true rfl) (fun _ => ?_)
  refine y_aln (i := 0) dX12_isOver_0 at91.ne0 rfl rfl ?_
  refine y_geti (z := 60) dX12_isOver_1 frX12_414 cfX12 at91 rfl rfl ?_
  refine x_if_ne (tgt := 15) dX12_isOver_4 rfl (fun h4 => ?_) (fun h4 => ?_)
  · refine y_ic dX12_isOver_15 ⟨by decide, by decide⟩ ?_
    refine x_goto (tgt := 20) dX12_isOver_16 rfl ?_
    refine x_zret dX12_isOver_20 (by omega) rfl ?_
    unfold overX; exact ⟨rfl, rfl, by omega⟩
  · refine y_aln (i := 0) dX12_isOver_7 at91.ne0 rfl rfl ?_
    refine y_geti (z := 59) dX12_isOver_8 frX12_427 cfX12 at91 rfl rfl ?_
    refine y_ic dX12_isOver_11 ⟨by decide, by decide⟩ ?_
    refine x_icmp_eq (tgt := 19) dX12_isOver_12 rfl (fun h12 => ?_) (fun h12 => ?_)
    · refine y_ic dX12_isOver_19 ⟨by decide, by decide⟩ ?_
      refine x_zret dX12_isOver_20 (by omega) rfl ?_
      unfold overX; exact ⟨rfl, rfl, by omega⟩
    · refine y_ic dX12_isOver_15 ⟨by decide, by decide⟩ ?_
      refine x_goto (tgt := 20) dX12_isOver_16 rfl ?_
      refine x_zret dX12_isOver_20 (by omega) rfl ?_
      unfold overX; exact ⟨rfl, rfl, by omega⟩
theorem c_X12_meets {e a b v z w gl m : Int} {r : Rw} {h : Int × Int × Int × Int × Int} {x : Sx} (hW : WP P) (hS : MX T I x) (hX : WX I w gl m) (hn : 0 ≤ x.1 ∧ x.1 ≤ m) (hre : RE (I 112) r) (hh : e = h.1 ∧ a = h.2.1 ∧ b = h.2.2.1 ∧ v = numX T h ∧ z = h.2.2.2.2) : Cv G mX12_meets (d + 1) 0 0 [.inr (.inl 91), .inl e, .inl a, .inl b, .inl v, .inl z] NO I P (qV (fun n' I' P' => n' = NO ∧ P' = P ∧ MX T I' (arrX w gl m r h x) ∧ Fr srS srF I I')) := by
  obtain ⟨x1, x2, x3, x4⟩ := id hX
  obtain ⟨s1, s2, s3, s4⟩ := id hS
  refine x_enter mfX12_meets rfl (Nat.le_of_ble_eq_true rfl) (fun _ => ?_)
  refine y_aln (i := 0) dX12_meets_0 at91.ne0 rfl rfl ?_
  refine y_getp (z := 46) (v := 112) dX12_meets_1 frX12_84 cfX12 at91 rfl rfl (wp (v := 112) hW rfl rfl (by decide)) ?_
  refine x_callSI (c_X12_mixOf ar112) dX12_meets_4 lkX12_404 mfX12_mixOf rfl rfl rfl (Nat.le_of_ble_eq_true rfl) (fun r4 I4 P4 hr4 hf4 => ?_)
  obtain ⟨i4, p4, q4⟩ := hf4
  rw [i4, p4, q4]
  refine x_istore (i := 6) dX12_meets_7 rfl (Nat.le_of_ble_eq_true rfl) ?_
  refine y_aln (i := 0) dX12_meets_9 at91.ne0 rfl rfl ?_
  refine y_aln (i := 0) dX12_meets_10 at91.ne0 rfl rfl ?_
  refine y_getp (z := 46) (v := 112) dX12_meets_11 frX12_84 cfX12 at91 rfl rfl (wp (v := 112) hW rfl rfl (by decide)) ?_
  refine x_iload (i := 6) dX12_meets_14 rfl ?_
  refine x_callVI (c_X12_isKnown hW ar112 hS (by omega) rfl) dX12_meets_16 lkX12_407 mfX12_isKnown cfX12 at91 rfl rfl rfl rfl (Nat.le_of_ble_eq_true rfl) (fun r16 I16 P16 hr16 hf16 => ?_)
  obtain ⟨i16, p16, q16⟩ := hf16
  rw [i16, p16]
  refine x_if_eq (tgt := 23) dX12_meets_19 rfl (fun h19 => ?_) (fun h19 => ?_)
  · have hno := (q16.resolve_left (fun q => by have := q.1; omega)).2
    have hno2 : ¬ knownX x r := fun ⟨s, t0, t1, t2⟩ => hno ⟨s, t0, t1, t2.tr hre.sy⟩
    refine y_aln (i := 0) dX12_meets_23 at91.ne0 rfl rfl ?_
    refine y_geti (z := 47) dX12_meets_24 frX12_401 cfX12 at91 rfl rfl ?_
    refine y_aln (i := 0) dX12_meets_27 at91.ne0 rfl rfl ?_
    refine y_geti (z := 58) dX12_meets_28 frX12_411 cfX12 at91 rfl rfl ?_
    refine x_icmp_ne (tgt := 40) dX12_meets_31 rfl (fun h31 => ?_) (fun h31 => ?_)
    · refine y_aln (i := 0) dX12_meets_40 at91.ne0 rfl rfl ?_
      refine y_aln (i := 0) dX12_meets_41 at91.ne0 rfl rfl ?_
      refine y_getp (z := 46) (v := 112) dX12_meets_42 frX12_84 cfX12 at91 rfl rfl (wp (v := 112) hW rfl rfl (by decide)) ?_
      refine x_iload (i := 6) dX12_meets_45 rfl ?_
      refine x_iload_n (i := 1) dX12_meets_47 rfl rfl ?_
      refine x_iload_n (i := 2) dX12_meets_48 rfl rfl ?_
      refine x_iload_n (i := 3) dX12_meets_49 rfl rfl ?_
      refine x_iload (i := 4) dX12_meets_50 rfl ?_
      refine x_iload (i := 5) dX12_meets_52 rfl ?_
      refine x_callVV (c_X12_lays0 hW ar112 hS ⟨hn.1, by omega⟩ hre hre.mix hh (by decide)) dX12_meets_54 lkX12_417 mfX12_lays0 cfX12 at91 rfl rfl rfl rfl (Nat.le_of_ble_eq_true rfl) (fun n54 I54 P54 hf54 => ?_)
      obtain ⟨rfl, rfl, fr54, mx54⟩ := hf54
      have eA : arrX w gl m r h x = pushX w gl r h x := by unfold arrX; rw [cif_neg hno2, if_neg (by omega)]
      have y1 : I54 91 56 = w := (fr54.2 56 (by decide)).trans x1
      have y2 : I54 91 57 = I 91 57 := fr54.2 57 (by decide)
      have y3 : I54 91 47 = x.1 + 1 := mx54.1
      have y4 : I54 112 = I 112 := fr54.1 112 (by decide) (by decide)
      have fin : ¬ (w ≠ -1 ∧ 0 < r gl) → MX T I54 (arrX w gl m r h x) := fun q => by
        rw [eA]
        unfold pushX
        rw [if_neg q]
        exact mx54
      have frE : Fr srS srF I I54 := fr54.mo (fun x hx => hx) (by decide)
      refine y_aln (i := 0) dX12_meets_57 at91.ne0 rfl rfl ?_
      refine y_geti (z := 56) dX12_meets_58 frX12_421 cfX12 at91 rfl rfl ?_
      refine y_ic dX12_meets_61 ⟨by decide, by decide⟩ ?_
      refine x_icmp_eq (tgt := 95) dX12_meets_62 rfl (fun h62 => ?_) (fun h62 => ?_)
      · have hf := fin (fun q => q.1 (by omega))
        try rw [show x.1 + 1 - 1 = x.1 by omega]
        refine x_vret dX12_meets_95 rfl ?_
        first | exact ⟨rfl, rfl, hf, frE⟩ | exact ⟨rfl, rfl, hf2, frE.uf (by decide)⟩
      · have hgl : gl = 8 * w + I 91 57 := by omega
        refine y_aln (i := 0) dX12_meets_65 at91.ne0 rfl rfl ?_
        refine y_getp (z := 46) (v := 112) dX12_meets_66 frX12_84 cfX12 at91 rfl rfl (wp (v := 112) hW rfl rfl (by decide)) ?_
        refine y_bi dX12_meets_69 ⟨by decide, by decide⟩ ?_
        refine y_aln (i := 0) dX12_meets_71 at91.ne0 rfl rfl ?_
        refine y_geti (z := 56) dX12_meets_72 frX12_421 cfX12 at91 rfl rfl ?_
        rw [y1]
        refine x_imul dX12_meets_75 ⟨by omega, by omega⟩ ?_
        refine y_aln (i := 0) dX12_meets_76 at91.ne0 rfl rfl ?_
        refine y_geti (z := 57) dX12_meets_77 frX12_424 cfX12 at91 rfl rfl ?_
        rw [y2]
        refine x_iadd dX12_meets_80 ⟨by omega, by omega⟩ ?_
        refine x_iald dX12_meets_81 ar112 ⟨by omega, by omega⟩ ?_
        rw [y4, hre _ (by omega) (by omega), ← hgl]
        refine x_if_le (tgt := 95) dX12_meets_82 rfl (fun h82 => ?_) (fun h82 => ?_)
        · have hf := fin (fun q => by omega)
          try rw [show x.1 + 1 - 1 = x.1 by omega]
          refine x_vret dX12_meets_95 rfl ?_
          first | exact ⟨rfl, rfl, hf, frE⟩ | exact ⟨rfl, rfl, hf2, frE.uf (by decide)⟩
        · refine y_aln (i := 0) dX12_meets_85 at91.ne0 rfl rfl ?_
          refine y_aln (i := 0) dX12_meets_86 at91.ne0 rfl rfl ?_
          refine y_geti (z := 47) dX12_meets_87 frX12_401 cfX12 at91 rfl rfl ?_
          rw [y3]
          have hf2 : MX T (uI I54 91 59 x.1) (arrX w gl m r h x) := by
            rw [eA]
            unfold pushX
            rw [if_pos ⟨by omega, by omega⟩]
            obtain ⟨m1, m2, m3, m4⟩ := mx54
            refine ⟨by rw [uI_eq, u1_ne (by decide)]; exact m1, fun s q0 q1 => ?_, by rw [uI_eq, u1_eq]; rfl, by rw [uI_eq, u1_ne (by decide)]; exact m4⟩
            rw [uI_ne (by decide), uI_ne (by decide), uI_ne (by decide), uI_ne (by decide), uI_ne (by decide), uI_ne (by decide), uI_ne (by decide)]
            exact m2 s q0 q1
          refine y_ic dX12_meets_90 ⟨by decide, by decide⟩ ?_
          refine x_isub dX12_meets_91 ⟨by omega, by omega⟩ ?_
          refine y_puti (z := 59) dX12_meets_92 frX12_427 cfX12 at91 rfl rfl rfl ?_
          try rw [show x.1 + 1 - 1 = x.1 by omega]
          refine x_vret dX12_meets_95 rfl ?_
          first | exact ⟨rfl, rfl, hf, frE⟩ | exact ⟨rfl, rfl, hf2, frE.uf (by decide)⟩
    · refine y_aln (i := 0) dX12_meets_34 at91.ne0 rfl rfl ?_
      refine y_ic dX12_meets_35 ⟨by decide, by decide⟩ ?_
      refine y_putz (z := 60) dX12_meets_36 frX12_414 cfX12 at91 rfl rfl rfl (by omega) ?_
      refine x_vret dX12_meets_39 rfl ?_
      refine ⟨rfl, rfl, ?_, Fr.rf.uf (by decide)⟩
      unfold arrX
      rw [cif_neg hno2, if_pos (by omega)]
      refine ⟨by rw [uI_eq, u1_ne (by decide)]; exact s1, fun s q0 q1 => ?_, by rw [uI_eq, u1_ne (by decide)]; exact s3, by rw [uI_eq, u1_eq]; rfl⟩
      rw [uI_ne (by decide), uI_ne (by decide), uI_ne (by decide), uI_ne (by decide), uI_ne (by decide), uI_ne (by decide), uI_ne (by decide)]
      exact s2 s q0 q1
  · refine x_vret dX12_meets_22 rfl ?_
    obtain ⟨s, t0, t1, t2⟩ := (q16.resolve_right (fun q => by have := q.1; omega)).2
    refine ⟨rfl, rfl, ?_, Fr.rf⟩
    unfold arrX
    rw [cif_pos ⟨s, t0, t1, t2.tr hre⟩]
    exact hS
theorem c_X12_tradesOf {s a b w gl m : Int} {h : Rw} {x : Sx} (hW : WP P) (hT : MT I T) (hF : WF T) (hS : MX T I x) (hX : WX I w gl m) (hx : XOK T m x) (hs : 0 ≤ s ∧ s < x.1) (hh : RW T h) (hre : RE (I 120) h) (ha : 0 ≤ a ∧ a < T 0 1) (hb : 0 ≤ b ∧ b < T 0 1) (hab : a ≠ b) : Cv G mX12_tradesOf (d + 2) 0 0 [.inr (.inl 91), .inl s, .inl a, .inl b] NO I P (qV (fun n' I' P' => n' = NO ∧ P' = P ∧ MX T I' (trdS T w gl m h s a b x) ∧ Fr (111 :: 112 :: srS) srF I I')) := by
  have f1 := hF.1
  have f2 := hF.2.1
  have f3 := hF.2.2.1
  have x3 := hX.2.2
  have hoth : 0 ≤ otherX w a b ∧ otherX w a b < T 0 1 := by unfold otherX; split <;> assumption
  refine x_enter mfX12_tradesOf rfl (Nat.le_of_ble_eq_true rfl) (fun _ => ?_)
  have hL : ∀ (j : Nat) (o more : Int) (J : Mem), (OFN T - o).toNat < j → 0 ≤ o → o ≤ OFN T → ((more = 1 ∧ o < OFN T ∧ ∀ j, 0 ≤ j → j < T 0 3 → J 111 j = OF T o j) ∨ (more = 0 ∧ o = OFN T)) → Fr (111 :: 112 :: srS) srF I J → MX T J (itN (fun o x => itN (fun z x => trdB T w gl m h s a b o z x) (T 0 2) x) o x) → V G mX12_tradesOf (d + 2) 0 0 7 [some (.inr (.inl 91)), some (.inl (s)), some (.inl (a)), some (.inl (b)), some (.inl (more)), none, none] [] NO J P (qV (fun n' I' P' => n' = NO ∧ P' = P ∧ MX T I' (trdS T w gl m h s a b x) ∧ Fr (111 :: 112 :: srS) srF I I')) := by
    intro j
    induction j with
    | zero => intro o more J hj; omega
    | succ j ih =>
      intro o more J hj ho ho2 hmore hFr hSJ
      have hok : XOK T m (itN (fun o x => itN (fun z x => trdB T w gl m h s a b o z x) (T 0 2) x) o x) ∧ laterX x (itN (fun o x => itN (fun z x => trdB T w gl m h s a b o z x) (T 0 2) x) o x) := itN_inv (p := fun y : Sx => XOK T m y ∧ laterX x y) ⟨hx, laterX.rf⟩ (fun o x o0 o1 hx => itN_inv (p := fun y : Sx => XOK T m y ∧ laterX _ y) hx (fun z x z0 z1 hx => trdB_ok hF hh ha hb hab ⟨o0, by omega⟩ ⟨z0, z1⟩ hs hx.2 hx.1))
      have emo := itN_s (fun o x => itN (fun z x => trdB T w gl m h s a b o z x) (T 0 2) x) x ho
      have hstop := fun hov => itN_stop (f := fun o x => itN (fun z x => trdB T w gl m h s a b o z x) (T 0 2) x) (n := OFN T) (k := o) (s := x) ⟨ho, ho2⟩ rfl hov
      obtain ⟨y, hy⟩ : ∃ y, y = itN (fun o x => itN (fun z x => trdB T w gl m h s a b o z x) (T 0 2) x) o x := ⟨_, rfl⟩
      rw [← hy] at hSJ hok emo hstop
      have hZ : ∀ (j : Nat) (z : Int) (K : Mem), (T 0 2 - z).toNat < j → more = 1 → 0 ≤ z → z ≤ T 0 2 → (∀ j, 0 ≤ j → j < T 0 3 → K 111 j = OF T o j) → Fr (111 :: 112 :: srS) srF I K → MX T K (itN (fun z x => trdB T w gl m h s a b o z x) z y) → V G mX12_tradesOf (d + 2) 0 0 22 [some (.inr (.inl 91)), some (.inl (s)), some (.inl (a)), some (.inl (b)), none, some (.inl (z)), none] [] NO K P (qV (fun n' I' P' => n' = NO ∧ P' = P ∧ MX T I' (trdS T w gl m h s a b x) ∧ Fr (111 :: 112 :: srS) srF I I')) := by
        intro j
        induction j with
        | zero => intro z K hj; omega
        | succ j ihz =>
          intro z K hj hm1 hz hz2 hg hFr hSK
          have ho3 : 0 ≤ o ∧ o < OFN T := ⟨ho, by omega⟩
          have hTK := hT.fr hFr
          have hXK := hX.fr hFr
          have y0 : K 91 56 = w := hXK.1
          have e2 : K 91 2 = T 0 2 := hTK.1 2 (by decide) (by decide)
          have e120 : K 120 = I 120 := hFr.1 120 (by decide) (by decide)
          have hreK : RE (K 120) h := by rw [e120]; exact hre
          have hrcK := hreK.sy.rc hh.rc
          have hg8 : ∀ j, 0 ≤ j → j < T 0 3 → 0 ≤ K 111 j ∧ K 111 j < 8 := fun j h0 h1 => by rw [hg j h0 h1]; exact OF8 hF ho3 h0 h1
          have hO8 : ∀ j, 0 ≤ j → j < T 0 3 → 0 ≤ OF T o j ∧ OF T o j < 8 := fun j h0 h1 => OF8 hF ho3 h0 h1
          have hoz : XOK T m (itN (fun z x => trdB T w gl m h s a b o z x) z y) ∧ laterX x (itN (fun z x => trdB T w gl m h s a b o z x) z y) := itN_inv (p := fun y : Sx => XOK T m y ∧ laterX x y) hok (fun z x z0 z1 hx => trdB_ok hF hh ha hb hab ho3 ⟨z0, by omega⟩ hs hx.2 hx.1)
          have emz := itN_s (fun z x => trdB T w gl m h s a b o z x) y hz
          have hstz := fun hov => itN_stop (f := fun z x => trdB T w gl m h s a b o z x) (n := T 0 2) (k := z) (s := y) ⟨hz, hz2⟩ rfl hov
          obtain ⟨u, hu⟩ : ∃ u, u = itN (fun z x => trdB T w gl m h s a b o z x) z y := ⟨_, rfl⟩
          rw [← hu] at hSK hoz emz hstz
          have stay : (¬ overX u → ¬ (lawP T h a b (OF T o) z ∧ (w = -1 ∨ bagS T h (otherX w a b) < bagS T (dealS T h a b (OF T o) z) (otherX w a b)))) → z < T 0 2 → ∀ K' : Mem, (∀ j, 0 ≤ j → j < T 0 3 → K' 111 j = OF T o j) → Fr (111 :: 112 :: srS) srF I K' → MX T K' u → V G mX12_tradesOf (d + 2) 0 0 142 [some (.inr (.inl 91)), some (.inl (s)), some (.inl (a)), some (.inl (b)), none, some (.inl (z)), none] [] NO K' P (qV (fun n' I' P' => n' = NO ∧ P' = P ∧ MX T I' (trdS T w gl m h s a b x) ∧ Fr (111 :: 112 :: srS) srF I I')) := fun q hz3 K' h1 h2 h3 => by
            have el : trdB T w gl m h s a b o z u = u := by unfold trdB; exact cif_neg (fun q2 => q q2.1 q2.2)
            refine x_iinc dX12_tradesOf_142 rfl ⟨by omega, by omega⟩ rfl (Nat.le_of_ble_eq_true rfl) ?_
            refine x_goto (tgt := 22) dX12_tradesOf_145 rfl ?_
            refine x_keep [1, 1, 1, 1, 0, 1, 0] ?_
            exact ihz (z + 1) K' (by omega) hm1 (by omega) (by omega) h1 h2 (by rw [emz, el]; exact h3)
          have go : ∀ K2 : Mem, ¬ overX u → z < T 0 2 → lawP T h a b (OF T o) z → MT K2 T → WX K2 w gl m → Fr (111 :: 112 :: srS) srF I K2 → RE (K2 112) (dealS T h a b (OF T o) z) → RE (K2 120) h → MX T K2 u → (∀ j, 0 ≤ j → j < T 0 3 → K2 111 j = OF T o j) → ∀ oth : Int, oth = otherX w a b → V G mX12_tradesOf (d + 2) 0 0 95 [some (.inr (.inl 91)), some (.inl (s)), some (.inl (a)), some (.inl (b)), none, some (.inl (z)), some (.inl (oth))] [] NO K2 P (qV (fun n' I' P' => n' = NO ∧ P' = P ∧ MX T I' (trdS T w gl m h s a b x) ∧ Fr (111 :: 112 :: srS) srF I I')) := fun K2 hno hz3 hlaw hT2 hX2 hFr2 r2 re12 hS2 g2 oth hot => by
            have hD := deal_RW (γ := OF T o) hF hh ha hb hab (by omega) (OFd hF ho3.1 ho3.2) hlaw
            have hnum : numS (T 0 3) (K2 111) = numS (T 0 3) (OF T o) := itN_congr (fun k v k0 k1 => by rw [g2 k k0 k1])
            have hg2 : ∀ j, 0 ≤ j → j < T 0 3 → 0 ≤ K2 111 j ∧ K2 111 j < 8 := fun j h0 h1 => by rw [g2 j h0 h1]; exact hO8 j h0 h1
            have y2 : K2 91 56 = w := hX2.1
            rw [hot]
            refine y_aln (i := 0) dX12_tradesOf_95 at91.ne0 rfl rfl ?_
            refine y_geti (z := 56) dX12_tradesOf_96 frX12_421 cfX12 at91 rfl rfl ?_
            refine y_ic dX12_tradesOf_99 ⟨by decide, by decide⟩ ?_
            refine x_icmp_eq (tgt := 129) dX12_tradesOf_100 rfl (fun h100 => ?_) (fun h100 => ?_)
            · refine y_aln (i := 0) dX12_tradesOf_129 at91.ne0 rfl rfl ?_
              refine x_iload_n (i := 1) dX12_tradesOf_130 rfl rfl ?_
              refine x_iload_n (i := 2) dX12_tradesOf_131 rfl rfl ?_
              refine x_iload_n (i := 3) dX12_tradesOf_132 rfl rfl ?_
              refine y_aln (i := 0) dX12_tradesOf_133 at91.ne0 rfl rfl ?_
              refine x_callVI (c_X12_asNumber hW hT2 hF hg2) dX12_tradesOf_134 lkX12_436 mfX12_asNumber cfX12 at91 rfl rfl rfl rfl (Nat.le_of_ble_eq_true rfl) (fun r134 I134 P134 hr134 hf134 => ?_)
              obtain ⟨i134, p134, q134⟩ := hf134
              rw [i134, p134, q134]
              rw [hnum]
              refine x_iload (i := 5) dX12_tradesOf_137 rfl ?_
              refine x_callVV (c_X12_meets (h := (s, a, b, o, z)) hW hS2 hX2 ⟨by have := hoz.1.1; omega, hoz.1.1.2⟩ r2 ⟨rfl, rfl, rfl, (if_neg (by show ¬ b = -1; omega)).symm, rfl⟩) dX12_tradesOf_139 lkX12_439 mfX12_meets cfX12 at91 rfl rfl rfl rfl (Nat.le_of_ble_eq_true rfl) (fun n139 I139 P139 hf139 => ?_)
              obtain ⟨rfl, rfl, mx139, fr139⟩ := hf139
              have el : trdB T w gl m h s a b o z u = arrX w gl m (dealS T h a b (OF T o) z) (s, a, b, o, z) u := cif_pos ⟨hno, hlaw, by omega⟩
              refine x_iinc dX12_tradesOf_142 rfl ⟨by omega, by omega⟩ rfl (Nat.le_of_ble_eq_true rfl) ?_
              refine x_goto (tgt := 22) dX12_tradesOf_145 rfl ?_
              refine x_keep [1, 1, 1, 1, 0, 1, 0] ?_
              exact ihz (z + 1) I139 (by omega) hm1 (by omega) (by omega) (fun j h0 h1 => by rw [fr139.1 111 (by decide) (by decide)]; exact g2 j h0 h1) (hFr2.tr (fr139.mo (by decide) (fun x hx => hx))) (by rw [emz, el]; exact mx139)
              done -- END
            · refine y_aln (i := 0) dX12_tradesOf_103 at91.ne0 rfl rfl ?_
              refine y_aln (i := 0) dX12_tradesOf_104 at91.ne0 rfl rfl ?_
              refine y_getp (z := 46) (v := 112) dX12_tradesOf_105 frX12_84 cfX12 at91 rfl rfl (wp (v := 112) hW rfl rfl (by decide)) ?_
              refine x_iload (i := 6) dX12_tradesOf_108 rfl ?_
              refine x_callVI (c_X12_bagOf hW hT2 hF ar112 (r2.sy.rc hD.rc) hoth) dX12_tradesOf_110 lkX12_351 mfX12_bagOf cfX12 at91 rfl rfl rfl rfl (Nat.le_of_ble_eq_true rfl) (fun r110 I110 P110 hr110 hf110 => ?_)
              obtain ⟨i110, p110, q110⟩ := hf110
              rw [i110, p110, q110]
              refine y_aln (i := 0) dX12_tradesOf_113 at91.ne0 rfl rfl ?_
              refine y_aln (i := 0) dX12_tradesOf_114 at91.ne0 rfl rfl ?_
              refine y_getp (z := 55) (v := 120) dX12_tradesOf_115 frX12_109 cfX12 at91 rfl rfl (wp (v := 120) hW rfl rfl (by decide)) ?_
              refine x_iload (i := 6) dX12_tradesOf_118 rfl ?_
              refine x_callVI (c_X12_bagOf hW hT2 hF ar120 (re12.sy.rc hh.rc) hoth) dX12_tradesOf_120 lkX12_351 mfX12_bagOf cfX12 at91 rfl rfl rfl rfl (Nat.le_of_ble_eq_true rfl) (fun r120 I120 P120 hr120 hf120 => ?_)
              obtain ⟨i120, p120, q120⟩ := hf120
              rw [i120, p120, q120]
              rw [r2.bag hF hoth, re12.bag hF hoth]
              refine x_icmp_gt (tgt := 129) dX12_tradesOf_123 rfl (fun h123 => ?_) (fun h123 => ?_)
              · refine y_aln (i := 0) dX12_tradesOf_129 at91.ne0 rfl rfl ?_
                refine x_iload_n (i := 1) dX12_tradesOf_130 rfl rfl ?_
                refine x_iload_n (i := 2) dX12_tradesOf_131 rfl rfl ?_
                refine x_iload_n (i := 3) dX12_tradesOf_132 rfl rfl ?_
                refine y_aln (i := 0) dX12_tradesOf_133 at91.ne0 rfl rfl ?_
                refine x_callVI (c_X12_asNumber hW hT2 hF hg2) dX12_tradesOf_134 lkX12_436 mfX12_asNumber cfX12 at91 rfl rfl rfl rfl (Nat.le_of_ble_eq_true rfl) (fun r134 I134 P134 hr134 hf134 => ?_)
                obtain ⟨i134, p134, q134⟩ := hf134
                rw [i134, p134, q134]
                rw [hnum]
                refine x_iload (i := 5) dX12_tradesOf_137 rfl ?_
                refine x_callVV (c_X12_meets (h := (s, a, b, o, z)) hW hS2 hX2 ⟨by have := hoz.1.1; omega, hoz.1.1.2⟩ r2 ⟨rfl, rfl, rfl, (if_neg (by show ¬ b = -1; omega)).symm, rfl⟩) dX12_tradesOf_139 lkX12_439 mfX12_meets cfX12 at91 rfl rfl rfl rfl (Nat.le_of_ble_eq_true rfl) (fun n139 I139 P139 hf139 => ?_)
                obtain ⟨rfl, rfl, mx139, fr139⟩ := hf139
                have el : trdB T w gl m h s a b o z u = arrX w gl m (dealS T h a b (OF T o) z) (s, a, b, o, z) u := cif_pos ⟨hno, hlaw, by omega⟩
                refine x_iinc dX12_tradesOf_142 rfl ⟨by omega, by omega⟩ rfl (Nat.le_of_ble_eq_true rfl) ?_
                refine x_goto (tgt := 22) dX12_tradesOf_145 rfl ?_
                refine x_keep [1, 1, 1, 1, 0, 1, 0] ?_
                exact ihz (z + 1) I139 (by omega) hm1 (by omega) (by omega) (fun j h0 h1 => by rw [fr139.1 111 (by decide) (by decide)]; exact g2 j h0 h1) (hFr2.tr (fr139.mo (by decide) (fun x hx => hx))) (by rw [emz, el]; exact mx139)
                done -- END
              · refine x_goto (tgt := 142) dX12_tradesOf_126 rfl ?_
                refine x_keep [1, 1, 1, 1, 0, 1, 0] ?_
                exact stay (fun _ q => by have := q.2; omega) hz3 _ g2 hFr2 hS2
          have hT148 : (T 0 2 ≤ z ∨ overX u) → V G mX12_tradesOf (d + 2) 0 0 148 [some (.inr (.inl 91)), some (.inl (s)), some (.inl (a)), some (.inl (b)), none, none, none] [] NO K P (qV (fun n' I' P' => n' = NO ∧ P' = P ∧ MX T I' (trdS T w gl m h s a b x) ∧ Fr (111 :: 112 :: srS) srF I I')) := fun hq => by
            have eu : itN (fun z x => trdB T w gl m h s a b o z x) (T 0 2) y = u := hstz (fun i i0 i1 => by
              rcases hq with hq | hq
              · omega
              · exact trdB_over hq)
            refine y_aln (i := 0) dX12_tradesOf_148 at91.ne0 rfl rfl ?_
            refine x_callVI (c_X12_turns hW hTK hF hg8) dX12_tradesOf_149 lkX12_443 mfX12_turns cfX12 at91 rfl rfl rfl rfl (Nat.le_of_ble_eq_true rfl) (fun r149 I149 P149 hr149 hf149 => ?_)
            obtain ⟨p149, ⟨h1, h2, h3⟩ | ⟨h1, k, k0, k1, k2, k3, h4⟩⟩ := hf149
            · rw [p149, h2, h1]
              refine x_istore (i := 4) dX12_tradesOf_152 rfl (Nat.le_of_ble_eq_true rfl) ?_
              refine x_goto (tgt := 7) dX12_tradesOf_154 rfl ?_
              refine x_keep [1, 1, 1, 1, 1, 0, 0] ?_
              have := OF_none hF ho ho3.2 (fun j h0 hj => by rw [← hg j h0 hj]; exact h3 j h0 hj)
              exact ih (o + 1) 0 _ (by omega) (by omega) (by omega) (Or.inr ⟨rfl, this⟩) hFr (by rw [emo, eu]; exact hSK)
            · rw [p149, h1]
              refine x_istore (i := 4) dX12_tradesOf_152 rfl (Nat.le_of_ble_eq_true rfl) ?_
              refine x_goto (tgt := 7) dX12_tradesOf_154 rfl ?_
              refine x_keep [1, 1, 1, 1, 1, 0, 0] ?_
              have := OF_some hF ho ho3.2 k0 k1 (fun j h0 hj => by rw [← hg j (by omega) hj]; exact k3 j h0 hj) (by rw [← hg k k0 k1]; exact k2)
              refine ih (o + 1) 1 _ (by omega) (by omega) (by omega) (Or.inl ⟨rfl, this.1, fun j h0 hj => ?_⟩) (by rw [h4]; exact hFr.ua (by decide) (by decide)) ?_
              · rw [h4, uA_eq, this.2 j h0 hj]
                by_cases q : j < k
                · rw [if_pos q, if_neg (by omega)]; exact hg j h0 hj
                · rw [if_neg q, if_pos (by omega), hg k k0 k1]
              · rw [emo, eu]
                exact hSK.fr (show Fr [111] [] K I149 by rw [h4]; exact Fr.rf.ua (by decide) (by decide))
            done -- END
          refine x_iload (i := 5) dX12_tradesOf_22 rfl ?_
          refine y_aln (i := 0) dX12_tradesOf_24 at91.ne0 rfl rfl ?_
          refine y_geti (z := 2) dX12_tradesOf_25 frX12_7 cfX12 at91 rfl rfl ?_
          refine x_icmp_ge (tgt := 148) dX12_tradesOf_28 rfl (fun h28 => ?_) (fun h28 => ?_)
          · refine x_keep [1, 1, 1, 1, 0, 0, 0] ?_
            first | exact hT148 (Or.inl (by omega)) | exact hT148 (Or.inr (q32.resolve_right (fun q => by have := q.1; omega)).2)
          · refine y_aln (i := 0) dX12_tradesOf_31 at91.ne0 rfl rfl ?_
            refine x_callVI (c_X12_isOver hW hSK) dX12_tradesOf_32 lkX12_433 mfX12_isOver cfX12 at91 rfl rfl rfl rfl (Nat.le_of_ble_eq_true rfl) (fun r32 I32 P32 hr32 hf32 => ?_)
            obtain ⟨i32, p32, q32⟩ := hf32
            rw [i32, p32]
            refine x_if_ne (tgt := 148) dX12_tradesOf_35 rfl (fun h35 => ?_) (fun h35 => ?_)
            · refine x_keep [1, 1, 1, 1, 0, 0, 0] ?_
              first | exact hT148 (Or.inl (by omega)) | exact hT148 (Or.inr (q32.resolve_right (fun q => by have := q.1; omega)).2)
            · refine y_aln (i := 0) dX12_tradesOf_38 at91.ne0 rfl rfl ?_
              refine y_aln (i := 0) dX12_tradesOf_39 at91.ne0 rfl rfl ?_
              refine y_getp (z := 55) (v := 120) dX12_tradesOf_40 frX12_109 cfX12 at91 rfl rfl (wp (v := 120) hW rfl rfl (by decide)) ?_
              refine x_iload_n (i := 2) dX12_tradesOf_43 rfl rfl ?_
              refine x_iload_n (i := 3) dX12_tradesOf_44 rfl rfl ?_
              refine x_iload (i := 5) dX12_tradesOf_45 rfl ?_
              refine x_callVI (c_X12_isLawful hW hTK hF ar120 hrcK (by omega) (by omega) (by omega) hg8) dX12_tradesOf_47 lkX12_385 mfX12_isLawful cfX12 at91 rfl rfl rfl rfl (Nat.le_of_ble_eq_true rfl) (fun r47 I47 P47 hr47 hf47 => ?_)
              obtain ⟨i47, p47, q47⟩ := hf47
              rw [i47, p47]
              rw [hreK.law hF ha hb (by omega) hg8, lawP_congr hg] at q47
              have hno : ¬ overX u := (q32.resolve_left (fun q => by have := q.1; omega)).2
              refine x_if_ne (tgt := 56) dX12_tradesOf_50 rfl (fun h50 => ?_) (fun h50 => ?_)
              · refine y_aln (i := 0) dX12_tradesOf_56 at91.ne0 rfl rfl ?_
                refine y_aln (i := 0) dX12_tradesOf_57 at91.ne0 rfl rfl ?_
                refine y_getp (z := 55) (v := 120) dX12_tradesOf_58 frX12_109 cfX12 at91 rfl rfl (wp (v := 120) hW rfl rfl (by decide)) ?_
                refine y_aln (i := 0) dX12_tradesOf_61 at91.ne0 rfl rfl ?_
                refine y_getp (z := 46) (v := 112) dX12_tradesOf_62 frX12_84 cfX12 at91 rfl rfl (wp (v := 112) hW rfl rfl (by decide)) ?_
                refine x_callVV (c_X12_copies ar120 ar112 (by decide) (by decide) (by decide)) dX12_tradesOf_65 lkX12_328 mfX12_copies cfX12 at91 rfl rfl rfl rfl (Nat.le_of_ble_eq_true rfl) (fun n65 I65 P65 hf65 => ?_)
                obtain ⟨rfl, hI65, rfl⟩ := hf65
                have hlaw : lawP T h a b (OF T o) z := q47.elim (fun h => h.2) (fun h => absurd h.1 (by omega))
                have r65 : RE (I65 112) h := fun c h0 h1 => by rw [hI65, uA_eq, if_pos (by omega)]; exact hreK c h0 h1
                have q111 : I65 111 = K 111 := by rw [hI65, uA_ne (by decide)]
                have hT65 : MT I65 T := by rw [hI65]; exact hTK.ua (by decide)
                have hFr65 : Fr (111 :: 112 :: srS) srF I I65 := by rw [hI65]; exact hFr.ua (by decide) (by decide)
                refine y_aln (i := 0) dX12_tradesOf_68 at91.ne0 rfl rfl ?_
                refine y_aln (i := 0) dX12_tradesOf_69 at91.ne0 rfl rfl ?_
                refine y_getp (z := 46) (v := 112) dX12_tradesOf_70 frX12_84 cfX12 at91 rfl rfl (wp (v := 112) hW rfl rfl (by decide)) ?_
                refine x_iload_n (i := 2) dX12_tradesOf_73 rfl rfl ?_
                refine x_iload_n (i := 3) dX12_tradesOf_74 rfl rfl ?_
                refine x_iload (i := 5) dX12_tradesOf_75 rfl ?_
                refine x_callVV (c_X12_trades hW hT65 hF ar112 (r65.sy.rc hh.rc) (by omega) (by omega) (by omega) (by rw [q111]; exact hg8)) dX12_tradesOf_77 lkX12_389 mfX12_trades cfX12 at91 rfl rfl rfl rfl (Nat.le_of_ble_eq_true rfl) (fun n77 I77 P77 hf77 => ?_)
                obtain ⟨rfl, hI77, rfl⟩ := hf77
                have hT77 : MT I77 T := by rw [hI77]; exact hT65.ua (by decide)
                have hFr77 : Fr (111 :: 112 :: srS) srF I I77 := by rw [hI77]; exact hFr65.ua (by decide) (by decide)
                have r77 : RE (I77 112) (dealS T h a b (OF T o) z) := fun c h0 h1 => by
                  rw [hI77, uA_eq, q111, dealS_congr hF hg]
                  exact RE.deal r65 c h0 h1
                have hD := deal_RW (γ := OF T o) hF hh ha hb hab (by omega) (OFd hF ho3.1 ho3.2) hlaw
                have hMX77 : MX T I77 u := hSK.fr (show Fr [112] [] K I77 by rw [hI77, hI65]; exact (Fr.rf.ua (by decide) (by decide)).ua (by decide) (by decide))
                have y77 : I77 91 56 = w := (hX.fr hFr77).1
                have g77 : ∀ j, 0 ≤ j → j < T 0 3 → I77 111 j = OF T o j := fun j h0 h1 => by rw [hI77, uA_ne (by decide), q111]; exact hg j h0 h1
                have re12 : RE (I77 120) h := by rw [hI77, uA_ne (by decide), hI65, uA_ne (by decide)]; exact hreK
                have hnum : numS (T 0 3) (I77 111) = numS (T 0 3) (OF T o) := itN_congr (fun k v k0 k1 => by rw [g77 k k0 k1])
                refine x_iload_n (i := 2) dX12_tradesOf_80 rfl rfl ?_
                refine y_aln (i := 0) dX12_tradesOf_81 at91.ne0 rfl rfl ?_
                refine y_geti (z := 56) dX12_tradesOf_82 frX12_421 cfX12 at91 rfl rfl ?_
                refine x_icmp_ne (tgt := 92) dX12_tradesOf_85 rfl (fun h85 => ?_) (fun h85 => ?_)
                · refine x_iload_n (i := 2) dX12_tradesOf_92 rfl rfl ?_
                  refine x_istore (i := 6) dX12_tradesOf_93 rfl (Nat.le_of_ble_eq_true rfl) ?_
                  refine x_keep [1, 1, 1, 1, 0, 1, 1] ?_
                  first | exact go I77 hno (by omega) hlaw hT77 (hX.fr hFr77) hFr77 r77 re12 hMX77 g77 _ (by unfold otherX; rw [if_pos (by omega)]) | exact go I77 hno (by omega) hlaw hT77 (hX.fr hFr77) hFr77 r77 re12 hMX77 g77 _ (by unfold otherX; rw [if_neg (by omega)])
                · refine x_iload_n (i := 3) dX12_tradesOf_88 rfl rfl ?_
                  refine x_goto (tgt := 93) dX12_tradesOf_89 rfl ?_
                  refine x_istore (i := 6) dX12_tradesOf_93 rfl (Nat.le_of_ble_eq_true rfl) ?_
                  refine x_keep [1, 1, 1, 1, 0, 1, 1] ?_
                  first | exact go I77 hno (by omega) hlaw hT77 (hX.fr hFr77) hFr77 r77 re12 hMX77 g77 _ (by unfold otherX; rw [if_pos (by omega)]) | exact go I77 hno (by omega) hlaw hT77 (hX.fr hFr77) hFr77 r77 re12 hMX77 g77 _ (by unfold otherX; rw [if_neg (by omega)])
              · refine x_goto (tgt := 142) dX12_tradesOf_53 rfl ?_
                refine x_keep [1, 1, 1, 1, 0, 1, 0] ?_
                exact stay (fun _ q => by have := q.1; exact q47.elim (fun h => by have := h.1; omega) (fun h => h.2 this)) (by omega) _ hg hFr hSK
      refine x_iload (i := 4) dX12_tradesOf_7 rfl ?_
      refine x_if_eq (tgt := 157) dX12_tradesOf_9 rfl (fun h9 => ?_) (fun h9 => ?_)
      · refine x_vret dX12_tradesOf_157 rfl ?_
        refine ⟨rfl, rfl, ?_, hFr⟩
        have e : trdS T w gl m h s a b x = y := hstop (fun i i0 i1 => by
          by_cases q : overX y
          · exact trdZ_over q
          · first | exact absurd (q13.resolve_right (fun z => by have := z.1; omega)).2 q | exact absurd i0 (by rcases hmore with h | h; (have := h.1; omega); omega))
        rw [e]; exact hSJ
      · refine y_aln (i := 0) dX12_tradesOf_12 at91.ne0 rfl rfl ?_
        refine x_callVI (c_X12_isOver hW hSJ) dX12_tradesOf_13 lkX12_433 mfX12_isOver cfX12 at91 rfl rfl rfl rfl (Nat.le_of_ble_eq_true rfl) (fun r13 I13 P13 hr13 hf13 => ?_)
        obtain ⟨i13, p13, q13⟩ := hf13
        rw [i13, p13]
        refine x_if_ne (tgt := 157) dX12_tradesOf_16 rfl (fun h16 => ?_) (fun h16 => ?_)
        · refine x_vret dX12_tradesOf_157 rfl ?_
          refine ⟨rfl, rfl, ?_, hFr⟩
          have e : trdS T w gl m h s a b x = y := hstop (fun i i0 i1 => by
            by_cases q : overX y
            · exact trdZ_over q
            · first | exact absurd (q13.resolve_right (fun z => by have := z.1; omega)).2 q | exact absurd i0 (by rcases hmore with h | h; (have := h.1; omega); omega))
          rw [e]; exact hSJ
        · refine y_ic dX12_tradesOf_19 ⟨by decide, by decide⟩ ?_
          refine x_istore (i := 5) dX12_tradesOf_20 rfl (Nat.le_of_ble_eq_true rfl) ?_
          refine x_keep [1, 1, 1, 1, 0, 1, 0] ?_
          exact hZ _ _ _ (Nat.lt_succ_self _) (by omega) (by omega) (by omega) (by rcases hmore with q | q; exact q.2.2; omega) hFr (by rw [itN_0]; exact hSJ)
  refine y_aln (i := 0) dX12_tradesOf_0 at91.ne0 rfl rfl ?_
  refine x_callVV (c_X12_begins hW hT hF) dX12_tradesOf_1 lkX12_430 mfX12_begins cfX12 at91 rfl rfl rfl rfl (Nat.le_of_ble_eq_true rfl) (fun n1 I1 P1 hf1 => ?_)
  obtain ⟨e1, e2, e3⟩ := hf1
  rw [e1, e3]
  have hFr1 : Fr (111 :: 112 :: srS) srF I I1 := by rw [e2]; exact Fr.rf.ua (by decide) (by decide)
  refine y_ic dX12_tradesOf_4 ⟨by decide, by decide⟩ ?_
  refine x_istore (i := 4) dX12_tradesOf_5 rfl (Nat.le_of_ble_eq_true rfl) ?_
  refine x_keep [1, 1, 1, 1, 1, 0, 0] ?_
  refine hL _ 0 1 _ (Nat.lt_succ_self _) (Int.le_refl 0) (by have := OFN_bd hF; omega) (Or.inl ⟨rfl, (OFN_bd hF).1, fun j h0 hj => ?_⟩) hFr1 ?_
  · rw [e2, uA_eq, if_pos ⟨h0, hj⟩, OF_0 hF h0 hj]
  · rw [itN_0]
    exact hS.fr (show Fr [111] [] I I1 by rw [e2]; exact Fr.rf.ua (by decide) (by decide))
end

