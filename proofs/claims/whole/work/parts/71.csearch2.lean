/-! ===== the class: its search, a state that is come to, trades ===== -/
section
variable {G : HX} {d : Nat} {I : Mem} {P : Ptr} {T : Tn}
theorem c_X7_arrive {t l : Nat} {w gl m st code : Int} {r : Rw} {h : Int × Int × Int × Int × Int} {x : Sx} (hW : WP P) (hM : MK I P 57 t l T) (hF : WF T) (hr : RW T r) (hre : RE r (I (57 + 1))) (hX : NX T I x) (hP : PX T I w gl m) (hx0 : 0 ≤ x.1 ∧ x.1 ≤ m) (hxr : ∀ s, 0 ≤ s → s < x.1 → RW T (rowX x s)) (hst : 0 < x.1 → st = h.1 ∧ code = codeX h) : Cv G mX7_arrive (d + 2) 0 0 [.inr (.inl 56), .inl st, .inl code] NO I P (qV (fun n' I' P' => n' = NO ∧ P' = P ∧ Fc sX I I' ∧ F56 I I' ∧ NX T I' (arrX w gl m r h x))) := by
  obtain ⟨hq, hTo, hLo, hpt, hpl, hca, hcl⟩ := id hM
  have f1 := hF.1
  obtain ⟨p7, p8, hm, hwg⟩ := id hP
  obtain ⟨⟨x6, x10, x11⟩, xr, xh, xn, xd⟩ := id hX
  obtain ⟨hh, ehh⟩ : ∃ hh, hh = hsR (8 * T 0 1) r := ⟨_, rfl⟩
  have bhh : 0 ≤ hh ∧ hh < 1024 := by rw [ehh]; exact hsR_bd
  have e58 : hsR (8 * T 0 1) (I (57 + 1)) = hh := by rw [ehh]; exact (hre.hs (by omega)).symm
  have hr58 : RW T (I (57 + 1)) := hre.rw hr
  refine x_enter mfX7_arrive rfl (Nat.le_of_ble_eq_true rfl) (fun _ => ?_)
  have hK1 : ∀ J : Mem, (∀ a, a ≠ 59 → J a = I a) → (∀ s c, 0 ≤ s → s < x.1 → 0 ≤ c → c < 48 → J 59 (48 * s + c) = I 59 (48 * s + c)) → (∀ c, 0 ≤ c → c < 48 → J 59 (48 * x.1 + c) = r c) → x.1 < m → ¬ knownX x r → V G mX7_arrive (d + 2) 0 0 105 [some (.inr (.inl 56)), some (.inl (st)), some (.inl (code)), some (.inl (hh)), none, none] [] NO J P (qV (fun n' I' P' => n' = NO ∧ P' = P ∧ Fc sX I I' ∧ F56 I I' ∧ NX T I' (arrX w gl m r h x))) := by
    intro J hJ hJ1 hJ2 hlt hnk
    have j6 : J 56 6 = x.1 := by rw [hJ 56 (by decide)]; exact x6
    have j9 : J 56 9 = I 56 9 := by rw [hJ 56 (by decide)]
    have j58 : ∀ c, 0 ≤ c → c < 48 → J 58 c = r c := fun c c0 c1 => by rw [hJ 58 (by decide)]; exact (hre c c0 c1).symm
    have ea : arrX w gl m r h x = pushX w gl r h x := by unfold arrX; rw [cif_neg hnk, if_neg (by omega)]
    have hfin : ∀ F : Mem, F 56 6 = x.1 + 1 → (F 56 10 = if w ≠ -1 ∧ 0 < r gl then x.1 else ansX x) → (∀ f : Int, f ≠ 6 → f ≠ 10 → F 56 f = I 56 f) → (∀ a, a ≠ 56 → F a = uI (uI (uI (uI J 60 x.1 st) 61 x.1 code) 62 x.1 (J 63 hh)) 63 hh x.1 a) → NO = NO ∧ P = P ∧ Fc sX I F ∧ F56 I F ∧ NX T F (arrX w gl m r h x) := by
      intro F f6 f10 ff fo
      have o59 : F 59 = J 59 := by rw [fo 59 (by decide), uI_ne (by decide), uI_ne (by decide), uI_ne (by decide), uI_ne (by decide)]
      have o60 : F 60 = u1 (I 60) x.1 st := by rw [fo 60 (by decide), uI_ne (by decide), uI_ne (by decide), uI_ne (by decide), uI_eq, hJ 60 (by decide)]
      have o61 : F 61 = u1 (I 61) x.1 code := by rw [fo 61 (by decide), uI_ne (by decide), uI_ne (by decide), uI_eq, uI_ne (by decide), hJ 61 (by decide)]
      have o62 : F 62 = u1 (I 62) x.1 (I 63 hh) := by rw [fo 62 (by decide), uI_ne (by decide), uI_eq, uI_ne (by decide), uI_ne (by decide), hJ 62 (by decide), hJ 63 (by decide)]
      have o63 : F 63 = u1 (I 63) hh x.1 := by rw [fo 63 (by decide), uI_eq, uI_ne (by decide), uI_ne (by decide), uI_ne (by decide), hJ 63 (by decide)]
      refine ⟨rfl, rfl, fun a ha => ?_, fun f a b c => ff f a b, ?_⟩
      · have h56 : a ≠ 56 := fun e => ha (Or.inl e)
        have hn : ∀ k, 59 ≤ k → k ≤ 63 → a ≠ k := fun k k0 k1 e => ha (Or.inr (by omega))
        rw [fo a h56, uI_ne (hn 63 (by decide) (by decide)), uI_ne (hn 62 (by decide) (by decide)), uI_ne (hn 61 (by decide) (by decide)), uI_ne (hn 60 (by decide) (by decide))]
        exact hJ a (hn 59 (by decide) (by decide))
      · rw [ea]
        refine NX.push hF hX hx0.1 ehh f6 f10 ((ff 11 (by decide) (by decide)).trans x11) (fun s c s0 s1 c0 c1 => by rw [o59]; exact hJ1 s c s0 s1 c0 c1) (fun c c0 c1 => by rw [o59]; exact hJ2 c c0 c1) (fun s hs => by rw [o60, o61, o62, u1_ne hs, u1_ne hs, u1_ne hs]; exact ⟨rfl, rfl, rfl⟩) (fun hp => by rw [o60, o61, u1_eq, u1_eq]; exact hst hp) (by rw [o62, u1_eq]) (fun g => by rw [o63]; rfl)
    refine y_aln (i := 0) dX7_arrive_105 at56.ne0 rfl rfl ?_
    refine y_getp (z := 2) (v := 60) dX7_arrive_106 frX7_16 cfX7 at56 rfl rfl (wp (v := 60) hW rfl rfl (by decide)) ?_
    refine y_aln (i := 0) dX7_arrive_109 at56.ne0 rfl rfl ?_
    refine y_geti (z := 6) dX7_arrive_110 frX7_50 cfX7 at56 rfl rfl ?_
    rw [j6]
    refine x_iload_n (i := 1) dX7_arrive_113 rfl rfl ?_
    refine x_iast dX7_arrive_114 ar60 ⟨by omega, by omega⟩ ?_
    refine y_aln (i := 0) dX7_arrive_115 at56.ne0 rfl rfl ?_
    refine y_getp (z := 3) (v := 61) dX7_arrive_116 frX7_19 cfX7 at56 rfl rfl (wp (v := 61) hW rfl rfl (by decide)) ?_
    refine y_aln (i := 0) dX7_arrive_119 at56.ne0 rfl rfl ?_
    refine y_geti (z := 6) dX7_arrive_120 frX7_50 cfX7 at56 rfl rfl ?_
    rw [uI_ne (by decide), j6]
    refine x_iload_n (i := 2) dX7_arrive_123 rfl rfl ?_
    refine x_iast dX7_arrive_124 ar61 ⟨by omega, by omega⟩ ?_
    refine y_aln (i := 0) dX7_arrive_125 at56.ne0 rfl rfl ?_
    refine y_getp (z := 4) (v := 62) dX7_arrive_126 frX7_22 cfX7 at56 rfl rfl (wp (v := 62) hW rfl rfl (by decide)) ?_
    refine y_aln (i := 0) dX7_arrive_129 at56.ne0 rfl rfl ?_
    refine y_geti (z := 6) dX7_arrive_130 frX7_50 cfX7 at56 rfl rfl ?_
    rw [uI_ne (by decide), uI_ne (by decide), j6]
    refine y_aln (i := 0) dX7_arrive_133 at56.ne0 rfl rfl ?_
    refine y_getp (z := 5) (v := 63) dX7_arrive_134 frX7_25 cfX7 at56 rfl rfl (wp (v := 63) hW rfl rfl (by decide)) ?_
    refine x_iload_n (i := 3) dX7_arrive_137 rfl rfl ?_
    refine x_iald dX7_arrive_138 ar63 ⟨by omega, by omega⟩ ?_
    rw [uI_ne (by decide), uI_ne (by decide)]
    refine x_iast dX7_arrive_139 ar62 ⟨by omega, by omega⟩ ?_
    refine y_aln (i := 0) dX7_arrive_140 at56.ne0 rfl rfl ?_
    refine y_getp (z := 5) (v := 63) dX7_arrive_141 frX7_25 cfX7 at56 rfl rfl (wp (v := 63) hW rfl rfl (by decide)) ?_
    refine x_iload_n (i := 3) dX7_arrive_144 rfl rfl ?_
    refine y_aln (i := 0) dX7_arrive_145 at56.ne0 rfl rfl ?_
    refine y_geti (z := 6) dX7_arrive_146 frX7_50 cfX7 at56 rfl rfl ?_
    rw [uI_ne (by decide), uI_ne (by decide), uI_ne (by decide), j6]
    refine x_iast dX7_arrive_149 ar63 ⟨by omega, by omega⟩ ?_
    refine y_aln (i := 0) dX7_arrive_150 at56.ne0 rfl rfl ?_
    refine y_geti (z := 9) dX7_arrive_151 frX7_36 cfX7 at56 rfl rfl ?_
    rw [uI_ne (by decide), uI_ne (by decide), uI_ne (by decide), uI_ne (by decide), j9]
    refine x_if_lt (tgt := 180) dX7_arrive_154 rfl (fun h154 => ?_) (fun h154 => ?_)
    · have n154 := h154
      refine y_aln (i := 0) dX7_arrive_180 at56.ne0 rfl rfl ?_
      refine x_dup dX7_arrive_181 rfl ?_
      refine y_geti (z := 6) dX7_arrive_182 frX7_50 cfX7 at56 rfl rfl ?_
      first | (have z1 := y169; rw [uI_eq, u1_ne (by decide), uI_ne (by decide), uI_ne (by decide), uI_ne (by decide), uI_ne (by decide), j6]) | rw [uI_ne (by decide), uI_ne (by decide), uI_ne (by decide), uI_ne (by decide), j6]
      refine y_ic dX7_arrive_185 ⟨by decide, by decide⟩ ?_
      refine x_iadd dX7_arrive_186 ⟨by omega, by omega⟩ ?_
      refine y_puti (z := 6) dX7_arrive_187 frX7_50 cfX7 at56 rfl rfl rfl ?_
      refine x_vret dX7_arrive_190 rfl ?_
      first | (have z1 := y169; refine hfin _ (by rw [uI_eq, u1_eq]) (by rw [uI_eq, u1_ne (by decide), uI_eq, u1_eq, if_pos ⟨by omega, y169⟩]) (fun f a b => by rw [uI_eq, u1_ne a, uI_eq, u1_ne b, uI_ne (by decide), uI_ne (by decide), uI_ne (by decide), uI_ne (by decide), hJ 56 (by decide)]) (fun a ha => by rw [uI_ne ha, uI_ne ha])) | (have z1 := n169; refine hfin _ (by rw [uI_eq, u1_eq]) (by rw [uI_eq, u1_ne (by decide), uI_ne (by decide), uI_ne (by decide), uI_ne (by decide), uI_ne (by decide), hJ 56 (by decide), if_neg (fun q => by omega)]; exact x10) (fun f a b => by rw [uI_eq, u1_ne a, uI_ne (by decide), uI_ne (by decide), uI_ne (by decide), uI_ne (by decide), hJ 56 (by decide)]) (fun a ha => by rw [uI_ne ha])) | (have z1 := n154; refine hfin _ (by rw [uI_eq, u1_eq]) (by rw [uI_eq, u1_ne (by decide), uI_ne (by decide), uI_ne (by decide), uI_ne (by decide), uI_ne (by decide), hJ 56 (by decide), if_neg (fun q => by omega)]; exact x10) (fun f a b => by rw [uI_eq, u1_ne a, uI_ne (by decide), uI_ne (by decide), uI_ne (by decide), uI_ne (by decide), hJ 56 (by decide)]) (fun a ha => by rw [uI_ne ha])) | fail "none"
    · obtain ⟨hw0, hgl, hgb⟩ := hwg.resolve_left (fun q => by omega)
      refine y_aln (i := 0) dX7_arrive_157 at56.ne0 rfl rfl ?_
      refine y_getp (z := 0) (v := 57) dX7_arrive_158 frX7_28 cfX7 at56 rfl rfl (wp (v := 57) hW rfl rfl (by decide)) ?_
      refine y_getp (z := 2) (v := 58) dX7_arrive_161 frX7_94 cfX3 at57 rfl rfl (wp (v := 58) hW rfl rfl (by decide)) ?_
      refine y_aln (i := 0) dX7_arrive_164 at56.ne0 rfl rfl ?_
      refine y_geti (z := 9) dX7_arrive_165 frX7_36 cfX7 at56 rfl rfl ?_
      rw [uI_ne (by decide), uI_ne (by decide), uI_ne (by decide), uI_ne (by decide), j9, hgl]
      refine x_iald dX7_arrive_168 ar58 ⟨by omega, by omega⟩ ?_
      rw [uI_ne (by decide), uI_ne (by decide), uI_ne (by decide), uI_ne (by decide), j58 gl (by omega) (by omega)]
      refine x_if_le (tgt := 180) dX7_arrive_169 rfl (fun h169 => ?_) (fun h169 => ?_)
      · have n169 := h169
        refine y_aln (i := 0) dX7_arrive_180 at56.ne0 rfl rfl ?_
        refine x_dup dX7_arrive_181 rfl ?_
        refine y_geti (z := 6) dX7_arrive_182 frX7_50 cfX7 at56 rfl rfl ?_
        first | (have z1 := y169; rw [uI_eq, u1_ne (by decide), uI_ne (by decide), uI_ne (by decide), uI_ne (by decide), uI_ne (by decide), j6]) | rw [uI_ne (by decide), uI_ne (by decide), uI_ne (by decide), uI_ne (by decide), j6]
        refine y_ic dX7_arrive_185 ⟨by decide, by decide⟩ ?_
        refine x_iadd dX7_arrive_186 ⟨by omega, by omega⟩ ?_
        refine y_puti (z := 6) dX7_arrive_187 frX7_50 cfX7 at56 rfl rfl rfl ?_
        refine x_vret dX7_arrive_190 rfl ?_
        first | (have z1 := y169; refine hfin _ (by rw [uI_eq, u1_eq]) (by rw [uI_eq, u1_ne (by decide), uI_eq, u1_eq, if_pos ⟨by omega, y169⟩]) (fun f a b => by rw [uI_eq, u1_ne a, uI_eq, u1_ne b, uI_ne (by decide), uI_ne (by decide), uI_ne (by decide), uI_ne (by decide), hJ 56 (by decide)]) (fun a ha => by rw [uI_ne ha, uI_ne ha])) | (have z1 := n169; refine hfin _ (by rw [uI_eq, u1_eq]) (by rw [uI_eq, u1_ne (by decide), uI_ne (by decide), uI_ne (by decide), uI_ne (by decide), uI_ne (by decide), hJ 56 (by decide), if_neg (fun q => by omega)]; exact x10) (fun f a b => by rw [uI_eq, u1_ne a, uI_ne (by decide), uI_ne (by decide), uI_ne (by decide), uI_ne (by decide), hJ 56 (by decide)]) (fun a ha => by rw [uI_ne ha])) | (have z1 := n154; refine hfin _ (by rw [uI_eq, u1_eq]) (by rw [uI_eq, u1_ne (by decide), uI_ne (by decide), uI_ne (by decide), uI_ne (by decide), uI_ne (by decide), hJ 56 (by decide), if_neg (fun q => by omega)]; exact x10) (fun f a b => by rw [uI_eq, u1_ne a, uI_ne (by decide), uI_ne (by decide), uI_ne (by decide), uI_ne (by decide), hJ 56 (by decide)]) (fun a ha => by rw [uI_ne ha])) | fail "none"
      · have y169 := h169
        refine y_aln (i := 0) dX7_arrive_172 at56.ne0 rfl rfl ?_
        refine y_aln (i := 0) dX7_arrive_173 at56.ne0 rfl rfl ?_
        refine y_geti (z := 6) dX7_arrive_174 frX7_50 cfX7 at56 rfl rfl ?_
        rw [uI_ne (by decide), uI_ne (by decide), uI_ne (by decide), uI_ne (by decide), j6]
        refine y_puti (z := 10) dX7_arrive_177 frX7_47 cfX7 at56 rfl rfl rfl ?_
        refine y_aln (i := 0) dX7_arrive_180 at56.ne0 rfl rfl ?_
        refine x_dup dX7_arrive_181 rfl ?_
        refine y_geti (z := 6) dX7_arrive_182 frX7_50 cfX7 at56 rfl rfl ?_
        first | (have z1 := y169; rw [uI_eq, u1_ne (by decide), uI_ne (by decide), uI_ne (by decide), uI_ne (by decide), uI_ne (by decide), j6]) | rw [uI_ne (by decide), uI_ne (by decide), uI_ne (by decide), uI_ne (by decide), j6]
        refine y_ic dX7_arrive_185 ⟨by decide, by decide⟩ ?_
        refine x_iadd dX7_arrive_186 ⟨by omega, by omega⟩ ?_
        refine y_puti (z := 6) dX7_arrive_187 frX7_50 cfX7 at56 rfl rfl rfl ?_
        refine x_vret dX7_arrive_190 rfl ?_
        first | (have z1 := y169; refine hfin _ (by rw [uI_eq, u1_eq]) (by rw [uI_eq, u1_ne (by decide), uI_eq, u1_eq, if_pos ⟨by omega, y169⟩]) (fun f a b => by rw [uI_eq, u1_ne a, uI_eq, u1_ne b, uI_ne (by decide), uI_ne (by decide), uI_ne (by decide), uI_ne (by decide), hJ 56 (by decide)]) (fun a ha => by rw [uI_ne ha, uI_ne ha])) | (have z1 := n169; refine hfin _ (by rw [uI_eq, u1_eq]) (by rw [uI_eq, u1_ne (by decide), uI_ne (by decide), uI_ne (by decide), uI_ne (by decide), uI_ne (by decide), hJ 56 (by decide), if_neg (fun q => by omega)]; exact x10) (fun f a b => by rw [uI_eq, u1_ne a, uI_ne (by decide), uI_ne (by decide), uI_ne (by decide), uI_ne (by decide), hJ 56 (by decide)]) (fun a ha => by rw [uI_ne ha])) | (have z1 := n154; refine hfin _ (by rw [uI_eq, u1_eq]) (by rw [uI_eq, u1_ne (by decide), uI_ne (by decide), uI_ne (by decide), uI_ne (by decide), uI_ne (by decide), hJ 56 (by decide), if_neg (fun q => by omega)]; exact x10) (fun f a b => by rw [uI_eq, u1_ne a, uI_ne (by decide), uI_ne (by decide), uI_ne (by decide), uI_ne (by decide), hJ 56 (by decide)]) (fun a ha => by rw [uI_ne ha])) | fail "none"
  have hN : ¬ knownX x r → V G mX7_arrive (d + 2) 0 0 64 [some (.inr (.inl 56)), some (.inl (st)), some (.inl (code)), some (.inl (hh)), none, none] [] NO I P (qV (fun n' I' P' => n' = NO ∧ P' = P ∧ Fc sX I I' ∧ F56 I I' ∧ NX T I' (arrX w gl m r h x))) := fun hnk => by
    refine y_aln (i := 0) dX7_arrive_64 at56.ne0 rfl rfl ?_
    refine y_geti (z := 6) dX7_arrive_65 frX7_50 cfX7 at56 rfl rfl ?_
    refine y_aln (i := 0) dX7_arrive_68 at56.ne0 rfl rfl ?_
    refine y_geti (z := 7) dX7_arrive_69 frX7_77 cfX7 at56 rfl rfl ?_
    rw [x6, p7]
    refine x_icmp_lt (tgt := 81) dX7_arrive_72 rfl (fun h72 => ?_) (fun h72 => ?_)
    · refine y_aln (i := 0) dX7_arrive_81 at56.ne0 rfl rfl ?_
      refine y_getp (z := 0) (v := 57) dX7_arrive_82 frX7_28 cfX7 at56 rfl rfl (wp (v := 57) hW rfl rfl (by decide)) ?_
      refine y_getp (z := 2) (v := 58) dX7_arrive_85 frX7_94 cfX3 at57 rfl rfl (wp (v := 58) hW rfl rfl (by decide)) ?_
      refine y_ic dX7_arrive_88 ⟨by decide, by decide⟩ ?_
      refine y_aln (i := 0) dX7_arrive_89 at56.ne0 rfl rfl ?_
      refine y_getp (z := 1) (v := 59) dX7_arrive_90 frX7_10 cfX7 at56 rfl rfl (wp (v := 59) hW rfl rfl (by decide)) ?_
      refine y_aln (i := 0) dX7_arrive_93 at56.ne0 rfl rfl ?_
      refine y_geti (z := 6) dX7_arrive_94 frX7_50 cfX7 at56 rfl rfl ?_
      rw [x6]
      refine y_bi dX7_arrive_97 ⟨by decide, by decide⟩ ?_
      refine x_imul dX7_arrive_99 ⟨by omega, by omega⟩ ?_
      refine y_bi dX7_arrive_100 ⟨by decide, by decide⟩ ?_
      refine x_copy (own := "") dX7_arrive_102 jkX7_97 rfl ar58 ar59 (by omega) (by omega) (by omega) (by omega) (by omega) rfl (by omega) ?_
      refine x_keep [1, 1, 1, 1, 0, 0] ?_
      exact hK1 _ (fun a ha => uA_ne ha) (fun s c s0 s1 c0 c1 => by rw [uA_eq, if_neg (by omega)]) (fun c c0 c1 => by rw [uA_eq, if_pos (by omega), show 0 + (48 * x.1 + c - x.1 * 48) = c by omega]; exact (hre c c0 c1).symm) (by omega) hnk
    · refine y_aln (i := 0) dX7_arrive_75 at56.ne0 rfl rfl ?_
      refine y_ic dX7_arrive_76 ⟨by decide, by decide⟩ ?_
      refine y_putz (z := 11) dX7_arrive_77 frX7_43 cfX7 at56 rfl rfl rfl (by omega) ?_
      refine x_vret dX7_arrive_80 rfl ?_
      refine ⟨rfl, rfl, Fc.rf.ui (Or.inl rfl), fun f a b c => by rw [uI_eq, u1_ne c], ?_⟩
      have ea : arrX w gl m r h x = (x.1, rowX x, howX x, ansX x, 1) := by unfold arrX; rw [cif_neg hnk, if_pos (show x.1 = m by omega)]
      rw [ea]
      refine ⟨⟨by rw [uI_eq, u1_ne (by decide)]; exact x6, by rw [uI_eq, u1_ne (by decide)]; exact x10, by rw [uI_eq, u1_eq]; rfl⟩, ?_, ?_, ?_, ?_⟩
      · rw [uI_ne (by decide)]; exact xr
      · rw [uI_ne (by decide), uI_ne (by decide)]; exact xh
      · rw [uI_ne (by decide)]; exact xn
      · rw [uI_ne (by decide)]; exact xd
  have hL : ∀ (j : Nat) (n0 k e : Int), n0.toNat < j → 0 ≤ n0 → n0 ≤ x.1 → 0 ≤ e → e + n0 ≤ x.1 → k = lastS (fun j => hsR (8 * T 0 1) (rowX x j) = hh) n0 → (∀ s, n0 ≤ s → s < x.1 → ¬ RE (rowX x s) r) → V G mX7_arrive (d + 2) 0 0 16 [some (.inr (.inl 56)), some (.inl (st)), some (.inl (code)), some (.inl (hh)), some (.inl (k)), some (.inl (e))] [] NO I P (qV (fun n' I' P' => n' = NO ∧ P' = P ∧ Fc sX I I' ∧ F56 I I' ∧ NX T I' (arrX w gl m r h x))) := by
    intro j
    induction j with
    | zero => intro n0 k e hj; omega
    | succ j ih =>
      intro n0 k e hj h0 h1 e0 e1 hk hno
      have sp := lastS_sp (p := fun j => hsR (8 * T 0 1) (rowX x j) = hh) h0
      rw [← hk] at sp
      have hs' : ∀ s, RE (rowX x s) r → hsR (8 * T 0 1) (rowX x s) = hh := fun s hs => by rw [ehh]; exact hs.hs (by omega)
      refine x_iload (i := 5) dX7_arrive_16 rfl ?_
      refine y_aln (i := 0) dX7_arrive_18 at56.ne0 rfl rfl ?_
      refine y_geti (z := 6) dX7_arrive_19 frX7_50 cfX7 at56 rfl rfl ?_
      rw [x6]
      refine x_icmp_ge (tgt := 64) dX7_arrive_22 rfl (fun h22 => ?_) (fun h22 => ?_)
      · have hnk : ¬ knownX x r := fun ⟨s, s0, s1, hs⟩ => hno s (by omega) s1 hs
        refine x_keep [1, 1, 1, 1, 0, 0] ?_
        exact hN hnk
      · refine x_iload (i := 4) dX7_arrive_25 rfl ?_
        refine x_if_lt (tgt := 64) dX7_arrive_27 rfl (fun h27 => ?_) (fun h27 => ?_)
        · have sn := sp.resolve_right (fun q => by omega)
          have hnk : ¬ knownX x r := fun ⟨s, s0, s1, hs⟩ => by
            by_cases q : s < n0
            · exact sn.2 s s0 q (hs' s hs)
            · exact hno s (by omega) s1 hs
          refine x_keep [1, 1, 1, 1, 0, 0] ?_
          exact hN hnk
        · have sy := sp.resolve_left (fun q => by omega)
          refine x_iload (i := 4) dX7_arrive_30 rfl ?_
          refine y_aln (i := 0) dX7_arrive_32 at56.ne0 rfl rfl ?_
          refine y_geti (z := 6) dX7_arrive_33 frX7_50 cfX7 at56 rfl rfl ?_
          rw [x6]
          refine x_icmp_ge (tgt := 64) dX7_arrive_36 rfl (fun h36 => ?_) (fun h36 => ?_)
          · omega
          · refine y_aln (i := 0) dX7_arrive_39 at56.ne0 rfl rfl ?_
            refine x_iload (i := 4) dX7_arrive_40 rfl ?_
            refine x_callVI (c_X7_isAtWork (s := k) hW hM hF (by omega)) dX7_arrive_42 lkX7_156 mfX7_isAtWork cfX7 at56 rfl rfl rfl rfl (Nat.le_of_ble_eq_true rfl) (fun r42 I42 P42 hr42 hf42 => ?_)
            obtain ⟨i42, p42, q42⟩ := hf42
            rw [i42, p42]
            refine x_if_eq (tgt := 49) dX7_arrive_45 rfl (fun h45 => ?_) (fun h45 => ?_)
            · have n45 := (q42.resolve_left (fun q => by have := q.1; omega)).2
              have hnk : ¬ RE (rowX x k) r := fun q => n45 (fun c c0 c1 => by rw [xr k c sy.1.1 (by omega) c0 (by omega), q c c0 (by omega)]; exact hre c c0 (by omega))
              have e56 : I 62 k = lastS (fun j => hsR (8 * T 0 1) (rowX x j) = hh) k := by rw [xn k sy.1.1 (by omega)]; exact lastS_co (fun j _ _ => by rw [sy.2.1])
              refine y_aln (i := 0) dX7_arrive_49 at56.ne0 rfl rfl ?_
              refine y_getp (z := 4) (v := 62) dX7_arrive_50 frX7_22 cfX7 at56 rfl rfl (wp (v := 62) hW rfl rfl (by decide)) ?_
              refine x_iload (i := 4) dX7_arrive_53 rfl ?_
              refine x_iald dX7_arrive_55 ar62 ⟨by omega, by omega⟩ ?_
              refine x_istore (i := 4) dX7_arrive_56 rfl (Nat.le_of_ble_eq_true rfl) ?_
              refine x_iinc dX7_arrive_58 rfl ⟨by omega, by omega⟩ rfl (Nat.le_of_ble_eq_true rfl) ?_
              refine x_goto (tgt := 16) dX7_arrive_61 rfl ?_
              refine x_keep [1, 1, 1, 1, 1, 1] ?_
              refine ih k _ (e + 1) (by omega) sy.1.1 (by omega) (by omega) (by omega) e56 (fun s s0 s1 => ?_)
              by_cases q : s = k
              · rw [q]; exact hnk
              · by_cases q2 : s < n0
                · exact fun z => sy.2.2 s (by omega) q2 (hs' s z)
                · exact hno s (by omega) s1
            · have y45 := (q42.resolve_right (fun q => h45 q.1)).2
              have hkn : knownX x r := ⟨k, sy.1.1, by omega, RE_of hF (hxr k sy.1.1 (by omega)) hr (fun c c0 c1 => by rw [← xr k c sy.1.1 (by omega) c0 (by omega), y45 c c0 c1]; exact (hre c c0 (by omega)).symm)⟩
              refine x_vret dX7_arrive_48 rfl ?_
              refine ⟨rfl, rfl, Fc.rf, F56.rf, ?_⟩
              unfold arrX
              rw [cif_pos hkn]
              exact hX
  refine y_aln (i := 0) dX7_arrive_0 at56.ne0 rfl rfl ?_
  refine x_callVI (c_X7_hash hW hM hF) dX7_arrive_1 lkX7_153 mfX7_hash cfX7 at56 rfl rfl rfl rfl (Nat.le_of_ble_eq_true rfl) (fun r1 I1 P1 hr1 hf1 => ?_)
  obtain ⟨i1, p1, q1⟩ := hf1
  rw [i1, p1, q1]
  rw [e58]
  refine x_istore_n (i := 3) dX7_arrive_4 rfl rfl (Nat.le_of_ble_eq_true rfl) ?_
  refine y_aln (i := 0) dX7_arrive_5 at56.ne0 rfl rfl ?_
  refine y_getp (z := 5) (v := 63) dX7_arrive_6 frX7_25 cfX7 at56 rfl rfl (wp (v := 63) hW rfl rfl (by decide)) ?_
  refine x_iload_n (i := 3) dX7_arrive_9 rfl rfl ?_
  refine x_iald dX7_arrive_10 ar63 ⟨by omega, by omega⟩ ?_
  refine x_istore (i := 4) dX7_arrive_11 rfl (Nat.le_of_ble_eq_true rfl) ?_
  refine y_ic dX7_arrive_13 ⟨by decide, by decide⟩ ?_
  refine x_istore (i := 5) dX7_arrive_14 rfl (Nat.le_of_ble_eq_true rfl) ?_
  refine x_keep [1, 1, 1, 1, 1, 1] ?_
  exact hL _ x.1 _ 0 (Nat.lt_succ_self _) hx0.1 (Int.le_refl _) (Int.le_refl _) (by omega) (xd hh bhh.1 bhh.2) (fun s s0 s1 => by omega)
def TRY (T : Tn) (I K : Mem) (m : Int) (x0 y : Sx) : Prop := K (57 + 1) = I (57 + 1) ∧ Fc sY I K ∧ F56 I K ∧ NX T K y ∧ XOK T m y ∧ laterX x0 y
theorem trdZ_s {T : Tn} {w gl m : Int} {h : Rw} {s a b o z : Int} {x : Sx} (hz : 0 ≤ z) : itN (fun z x => trdB T w gl m h s a b o z x) (z + 1) x = trdB T w gl m h s a b o z (itN (fun z x => trdB T w gl m h s a b o z x) z x) := itN_s _ _ hz
theorem c_X7_tryTrades {t l : Nat} {w gl m s a b : Int} {h : Rw} {x : Sx} (hW : WP P) (hM : MK I P 57 t l T) (hF : WF T) (hr : RW T h) (hre : RE h (I (57 + 1))) (hX : NX T I x) (hP : PX T I w gl m) (hx : XOK T m x) (ha : 0 ≤ a ∧ a < T 0 1) (hb : 0 ≤ b ∧ b < T 0 1) (hab : a ≠ b) (hs : 0 ≤ s ∧ s < x.1) : Cv G mX7_tryTrades (d + 3) 0 0 [.inr (.inl 56), .inl s, .inl a, .inl b] NO I P (qV (fun n' I' P' => n' = NO ∧ P' = P ∧ TRY T I I' m x (trdS T w gl m h s a b x))) := by
  obtain ⟨hq, hTo, hLo, hpt, hpl, hca, hcl⟩ := id hM
  have wT := wp_T hW hTo
  have wL := wp_L hW hLo
  have f1 := hF.1
  have f2 := hF.2.1
  have hr58 : RW T (I (57 + 1)) := hre.rw hr
  have hot : 0 ≤ otherX w a b ∧ otherX w a b < T 0 1 := by unfold otherX; split; exact hb; exact ha
  have eb : bagS T (I (57 + 1)) (otherX w a b) = bagS T h (otherX w a b) := (hre.bag hF hot).symm
  have oN := OFN_bd hF
  refine x_enter mfX7_tryTrades rfl (Nat.le_of_ble_eq_true rfl) (fun _ => ?_)
  have hO : ∀ (j : Nat) (o : Int) (K : Mem), (OFN T - o).toNat < j → 0 ≤ o → o ≤ OFN T → TRY T I K m x (itN (fun o x => itN (fun z x => trdB T w gl m h s a b o z x) (T 0 2) x) o x) → V G mX7_tryTrades (d + 3) 0 0 29 [some (.inr (.inl 56)), some (.inl (s)), some (.inl (a)), some (.inl (b)), some (.inl (otherX w a b)), some (.inl (bagS T h (otherX w a b))), some (.inl (o)), none] [] NO K P (qV (fun n' I' P' => n' = NO ∧ P' = P ∧ TRY T I I' m x (trdS T w gl m h s a b x))) := by
    intro j
    induction j with
    | zero => intro o K hj; omega
    | succ j ih =>
      intro o K hj ho ho2 hK
      have hKM : MK K P 57 t l T := hM.fX hK.2.1
      have k3 : K l 3 = OFN T := hKM.2.2.2.2.2.2.2.2.2.1
      obtain ⟨xo, exo⟩ : ∃ xo, xo = itN (fun o x => itN (fun z x => trdB T w gl m h s a b o z x) (T 0 2) x) o x := ⟨_, rfl⟩
      rw [← exo] at hK
      have hnext : o < OFN T → ∀ K' : Mem, TRY T I K' m x (itN (fun z x => trdB T w gl m h s a b o z x) (T 0 2) xo) → V G mX7_tryTrades (d + 3) 0 0 182 [some (.inr (.inl 56)), some (.inl (s)), some (.inl (a)), some (.inl (b)), some (.inl (otherX w a b)), some (.inl (bagS T h (otherX w a b))), some (.inl (o)), none] [] NO K' P (qV (fun n' I' P' => n' = NO ∧ P' = P ∧ TRY T I I' m x (trdS T w gl m h s a b x))) := fun ho3 K' hK' => by
        refine x_iinc dX7_tryTrades_182 rfl ⟨by omega, by omega⟩ rfl (Nat.le_of_ble_eq_true rfl) ?_
        refine x_goto (tgt := 29) dX7_tryTrades_185 rfl ?_
        refine x_keep [1, 1, 1, 1, 1, 1, 1, 0] ?_
        refine ih (o + 1) K' (by omega) (by omega) (by omega) ?_
        rw [itN_s _ _ ho, ← exo]
        exact hK'
      have hZ : o < OFN T → gvP T (I (57 + 1)) a o → ∀ (f : Nat) (z : Int) (K : Mem), (T 0 2 - z).toNat < f → 0 ≤ z → z ≤ T 0 2 → TRY T I K m x (itN (fun z x => trdB T w gl m h s a b o z x) z xo) → V G mX7_tryTrades (d + 3) 0 0 63 [some (.inr (.inl 56)), some (.inl (s)), some (.inl (a)), some (.inl (b)), some (.inl (otherX w a b)), some (.inl (bagS T h (otherX w a b))), some (.inl (o)), some (.inl (z))] [] NO K P (qV (fun n' I' P' => n' = NO ∧ P' = P ∧ TRY T I I' m x (trdS T w gl m h s a b x))) := by
        intro ho3 hgv f
        induction f with
        | zero => intro z K hf; omega
        | succ f ihz =>
          intro z K hf hz hz2 hK
          obtain ⟨xz, exz⟩ : ∃ xz, xz = itN (fun z x => trdB T w gl m h s a b o z x) z xo := ⟨_, rfl⟩
          rw [← exz] at hK
          have ezs := trdZ_s (T := T) (w := w) (gl := gl) (m := m) (h := h) (s := s) (a := a) (b := b) (o := o) (x := xo) hz
          rw [← exz] at ezs
          obtain ⟨k58, kF, k56, kX, kO, kL⟩ := id hK
          have hKM : MK K P 57 t l T := hM.fX kF
          have k1 : K t 1 = T 0 2 := hKM.2.2.2.2.2.1.2.1
          have kP := hP.fr k56
          have hnx : z < T 0 2 → ∀ K' : Mem, TRY T I K' m x (trdB T w gl m h s a b o z xz) → V G mX7_tryTrades (d + 3) 0 0 176 [some (.inr (.inl 56)), some (.inl (s)), some (.inl (a)), some (.inl (b)), some (.inl (otherX w a b)), some (.inl (bagS T h (otherX w a b))), some (.inl (o)), some (.inl (z))] [] NO K' P (qV (fun n' I' P' => n' = NO ∧ P' = P ∧ TRY T I I' m x (trdS T w gl m h s a b x))) := fun hz3 K' hK' => by
            refine x_iinc dX7_tryTrades_176 rfl ⟨by omega, by omega⟩ rfl (Nat.le_of_ble_eq_true rfl) ?_
            refine x_goto (tgt := 63) dX7_tryTrades_179 rfl ?_
            refine x_keep [1, 1, 1, 1, 1, 1, 1, 1] ?_
            exact ihz (z + 1) K' (by omega) (by omega) (by omega) (by rw [ezs]; exact hK')
          have hB : z < T 0 2 → ∀ K' : Mem, K' (57 + 1) = dealS T (I (57 + 1)) a b (OF T o) z → RW T (dealS T (I (57 + 1)) a b (OF T o) z) → Fc sY I K' → F56 I K' → NX T K' (trdB T w gl m h s a b o z xz) → V G mX7_tryTrades (d + 3) 0 0 162 [some (.inr (.inl 56)), some (.inl (s)), some (.inl (a)), some (.inl (b)), some (.inl (otherX w a b)), some (.inl (bagS T h (otherX w a b))), some (.inl (o)), some (.inl (z))] [] NO K' P (qV (fun n' I' P' => n' = NO ∧ P' = P ∧ TRY T I I' m x (trdS T w gl m h s a b x))) := fun hz3 K' h58 hdr hFc hF56 hNX => by
            have ok := trdB_ok (w := w) (gl := gl) (y := x) hF hr ha hb hab ⟨ho, ho3⟩ ⟨hz, hz3⟩ hs kL kO
            refine y_aln (i := 0) dX7_tryTrades_162 at56.ne0 rfl rfl ?_
            refine y_getp (z := 0) (v := 57) dX7_tryTrades_163 frX7_28 cfX7 at56 rfl rfl (wp (v := 57) hW rfl rfl (by decide)) ?_
            refine x_iload_n (i := 2) dX7_tryTrades_166 rfl rfl ?_
            refine x_iload_n (i := 3) dX7_tryTrades_167 rfl rfl ?_
            refine x_iload (i := 6) dX7_tryTrades_168 rfl ?_
            refine x_iload (i := 7) dX7_tryTrades_170 rfl ?_
            refine y_ic dX7_tryTrades_172 ⟨by decide, by decide⟩ ?_
            refine x_callVV (c_X3_deal hW (hM.fX hFc) hF (by rw [h58]; exact hdr.rc) (by omega) (by omega) ⟨ho, ho3⟩ (by omega) (Or.inr rfl)) dX7_tryTrades_173 lkX7_139 mfX3_deal cfX3 at57 rfl rfl rfl rfl (Nat.le_of_ble_eq_true rfl) (fun n173 I173 P173 hf173 => ?_)
            obtain ⟨rfl, h173, rfl⟩ := hf173
            rw [h58, del_m] at h173
            have e173 : I173 (57 + 1) = I (57 + 1) := by rw [h173, uA_eq]
            have o173 : ∀ a, a ≠ 57 + 1 → I173 a = K' a := fun a q => by rw [h173, uA_ne q]
            refine x_keep [1, 1, 1, 1, 1, 1, 1, 1] ?_
            exact hnx hz3 _ ⟨e173, fun a q => by rw [o173 a (fun e => q (Or.inr (by omega)))]; exact hFc a q, F56.tr hF56 (F56.eq (o173 56 (by decide))), hNX.fr (fun a q => o173 a (by rcases q with q | q <;> omega)), ok.1, ok.2⟩
          refine x_iload (i := 7) dX7_tryTrades_63 rfl ?_
          refine y_aln (i := 0) dX7_tryTrades_65 at56.ne0 rfl rfl ?_
          refine y_getp (z := 0) (v := 57) dX7_tryTrades_66 frX7_28 cfX7 at56 rfl rfl (wp (v := 57) hW rfl rfl (by decide)) ?_
          refine y_getp (z := 0) (v := t) dX7_tryTrades_69 frX7_103 cfX3 at57 rfl rfl hpt ?_
          refine y_geti (z := 1) dX7_tryTrades_72 frX7_132 cfX10 hTo.at rfl rfl ?_
          rw [k1]
          refine x_icmp_ge (tgt := 182) dX7_tryTrades_75 rfl (fun h75 => ?_) (fun h75 => ?_)
          · refine x_keep [1, 1, 1, 1, 1, 1, 1, 0] ?_
            first | (have z1 := ov; refine hnext ho3 K ?_; have e : itN (fun z x => trdB T w gl m h s a b o z x) (T 0 2) xo = xz := itN_stop ⟨hz, hz2⟩ exz.symm (fun i _ _ => trdB_over ov); rw [e]; exact hK) | (refine hnext ho3 K ?_; rw [show T 0 2 = z by omega, ← exz]; exact hK) | fail "none"
          · refine y_aln (i := 0) dX7_tryTrades_78 at56.ne0 rfl rfl ?_
            refine x_callVI (c_X7_isOpen hW) dX7_tryTrades_79 lkX7_84 mfX7_isOpen cfX7 at56 rfl rfl rfl rfl (Nat.le_of_ble_eq_true rfl) (fun r79 I79 P79 hr79 hf79 => ?_)
            obtain ⟨i79, p79, q79⟩ := hf79
            rw [i79, p79]
            rw [kX.1.2.1, kX.1.2.2] at q79
            refine x_if_eq (tgt := 182) dX7_tryTrades_82 rfl (fun h82 => ?_) (fun h82 => ?_)
            · have ov : overX xz := by have := q79.resolve_left (fun q => by have := q.1; omega); unfold overX; omega
              refine x_keep [1, 1, 1, 1, 1, 1, 1, 0] ?_
              first | (have z1 := ov; refine hnext ho3 K ?_; have e : itN (fun z x => trdB T w gl m h s a b o z x) (T 0 2) xo = xz := itN_stop ⟨hz, hz2⟩ exz.symm (fun i _ _ => trdB_over ov); rw [e]; exact hK) | (refine hnext ho3 K ?_; rw [show T 0 2 = z by omega, ← exz]; exact hK) | fail "none"
            · have nov : ¬ overX xz := by have := q79.resolve_right (fun q => h82 q.1); unfold overX; omega
              refine y_aln (i := 0) dX7_tryTrades_85 at56.ne0 rfl rfl ?_
              refine y_getp (z := 0) (v := 57) dX7_tryTrades_86 frX7_28 cfX7 at56 rfl rfl (wp (v := 57) hW rfl rfl (by decide)) ?_
              refine x_iload_n (i := 3) dX7_tryTrades_89 rfl rfl ?_
              refine x_iload (i := 6) dX7_tryTrades_90 rfl ?_
              refine x_iload (i := 7) dX7_tryTrades_92 rfl ?_
              refine x_callVI (c_X3_canGet hW hKM hF (by omega) ⟨ho, ho3⟩ (by omega)) dX7_tryTrades_94 lkX7_135 mfX3_canGet cfX3 at57 rfl rfl rfl rfl (Nat.le_of_ble_eq_true rfl) (fun r94 I94 P94 hr94 hf94 => ?_)
              obtain ⟨i94, p94, q94⟩ := hf94
              rw [i94, p94]
              rw [k58] at q94
              refine x_if_ne (tgt := 103) dX7_tryTrades_97 rfl (fun h97 => ?_) (fun h97 => ?_)
              · have hgt := (q94.resolve_right (fun q => by have := q.1; omega)).2
                have hlw : lawP T (I (57 + 1)) a b (OF T o) z := law_gg.mpr ⟨hgv, hgt⟩
                have hlh : lawP T h a b (OF T o) z := (hre.law hF ha hb ⟨hz, by omega⟩ (fun k k0 k1 => OF8 hF ⟨ho, ho3⟩ k0 k1)).mpr hlw
                have hdr := deal_RW hF hr58 ha hb hab ⟨hz, by omega⟩ (OFd hF ho ho3) hlw
                have hdh := deal_RW hF hr ha hb hab ⟨hz, by omega⟩ (OFd hF ho ho3) hlh
                have hde : RE (dealS T h a b (OF T o) z) (dealS T (I (57 + 1)) a b (OF T o) z) := hre.deal
                refine y_aln (i := 0) dX7_tryTrades_103 at56.ne0 rfl rfl ?_
                refine y_getp (z := 0) (v := 57) dX7_tryTrades_104 frX7_28 cfX7 at56 rfl rfl (wp (v := 57) hW rfl rfl (by decide)) ?_
                refine x_iload_n (i := 2) dX7_tryTrades_107 rfl rfl ?_
                refine x_iload_n (i := 3) dX7_tryTrades_108 rfl rfl ?_
                refine x_iload (i := 6) dX7_tryTrades_109 rfl ?_
                refine x_iload (i := 7) dX7_tryTrades_111 rfl ?_
                refine y_ic dX7_tryTrades_113 ⟨by decide, by decide⟩ ?_
                refine x_callVV (c_X3_deal hW hKM hF (by rw [k58]; exact hr58.rc) (by omega) (by omega) ⟨ho, ho3⟩ (by omega) (Or.inl rfl)) dX7_tryTrades_114 lkX7_139 mfX3_deal cfX3 at57 rfl rfl rfl rfl (Nat.le_of_ble_eq_true rfl) (fun n114 I114 P114 hf114 => ?_)
                obtain ⟨rfl, h114, rfl⟩ := hf114
                rw [k58, del_1] at h114
                have e114 : I114 (57 + 1) = dealS T (I (57 + 1)) a b (OF T o) z := by rw [h114, uA_eq]
                have o114 : ∀ a, a ≠ 57 + 1 → I114 a = K a := fun a q => by rw [h114, uA_ne q]
                have F114 : Fc sY I I114 := fun a q => by rw [o114 a (fun e => q (Or.inr (by omega)))]; exact kF a q
                have G114 : F56 I I114 := F56.tr k56 (F56.eq (o114 56 (by decide)))
                have X114 : NX T I114 xz := kX.fr (fun a q => o114 a (by rcases q with q | q <;> omega))
                have M114 := hM.fX F114
                have P114 := hP.fr G114
                refine y_aln (i := 0) dX7_tryTrades_117 at56.ne0 rfl rfl ?_
                refine y_geti (z := 8) dX7_tryTrades_118 frX7_32 cfX7 at56 rfl rfl ?_
                refine y_ic dX7_tryTrades_121 ⟨by decide, by decide⟩ ?_
                rw [P114.2.1]
                refine x_icmp_eq (tgt := 139) dX7_tryTrades_122 rfl (fun h122 => ?_) (fun h122 => ?_)
                · have c122 : w = -1 ∨ bagS T h (otherX w a b) < bagS T (dealS T h a b (OF T o) z) (otherX w a b) := Or.inl h122
                  refine y_aln (i := 0) dX7_tryTrades_139 at56.ne0 rfl rfl ?_
                  refine x_iload_n (i := 1) dX7_tryTrades_140 rfl rfl ?_
                  refine x_iload_n (i := 2) dX7_tryTrades_141 rfl rfl ?_
                  refine y_bi dX7_tryTrades_142 ⟨by decide, by decide⟩ ?_
                  refine x_imul dX7_tryTrades_144 ⟨by omega, by omega⟩ ?_
                  refine x_iload_n (i := 3) dX7_tryTrades_145 rfl rfl ?_
                  refine x_iadd dX7_tryTrades_146 ⟨by omega, by omega⟩ ?_
                  refine y_bi dX7_tryTrades_147 ⟨by decide, by decide⟩ ?_
                  refine x_imul dX7_tryTrades_149 ⟨by omega, by omega⟩ ?_
                  refine x_iload (i := 6) dX7_tryTrades_150 rfl ?_
                  refine x_iadd dX7_tryTrades_152 ⟨by omega, by omega⟩ ?_
                  refine y_bi dX7_tryTrades_153 ⟨by decide, by decide⟩ ?_
                  refine x_imul dX7_tryTrades_155 ⟨by omega, by omega⟩ ?_
                  refine x_iload (i := 7) dX7_tryTrades_156 rfl ?_
                  refine x_iadd dX7_tryTrades_158 ⟨by omega, by omega⟩ ?_
                  refine x_callVV (c_X7_arrive (r := dealS T h a b (OF T o) z) (h := (s, a, b, o, z)) (x := xz) hW M114 hF hdh (by rw [e114]; exact hde) X114 P114 ⟨by have := kO.1; omega, kO.1.2⟩ kO.2.1 (fun _ => ⟨rfl, (if_neg (show ¬ b = -1 by omega)).symm⟩)) dX7_tryTrades_159 lkX7_80 mfX7_arrive cfX7 at56 rfl rfl rfl rfl (Nat.le_of_ble_eq_true rfl) (fun n159 I159 P159 hf159 => ?_)
                  obtain ⟨rfl, rfl, f159, g159, n159⟩ := hf159
                  have y159 : trdB T w gl m h s a b o z xz = arrX w gl m (dealS T h a b (OF T o) z) (s, a, b, o, z) xz := cif_pos ⟨nov, hlh, c122⟩
                  rw [← y159] at n159
                  refine x_keep [1, 1, 1, 1, 1, 1, 1, 1] ?_
                  first | (have z1 := n136; exact hB (by omega) I114 e114 hdr F114 G114 (by rw [n136]; exact X114)) | exact hB (by omega) I159 ((f159 (57 + 1) (fun q => by rcases q with q | q <;> omega)).trans e114) hdr (F114.tr (f159.mo sX_sY)) (F56.tr G114 g159) n159 | fail "none"
                · refine y_aln (i := 0) dX7_tryTrades_125 at56.ne0 rfl rfl ?_
                  refine y_getp (z := 0) (v := 57) dX7_tryTrades_126 frX7_28 cfX7 at56 rfl rfl (wp (v := 57) hW rfl rfl (by decide)) ?_
                  refine x_iload (i := 4) dX7_tryTrades_129 rfl ?_
                  refine x_callVI (c_X3_bagWorth hW M114 hF (by rw [e114]; exact hdr.rc) hot) dX7_tryTrades_131 lkX7_116 mfX3_bagWorth cfX3 at57 rfl rfl rfl rfl (Nat.le_of_ble_eq_true rfl) (fun r131 I131 P131 hr131 hf131 => ?_)
                  obtain ⟨i131, p131, q131⟩ := hf131
                  rw [i131, p131]
                  rw [e114, ← hde.bag hF hot] at q131
                  refine x_iload (i := 5) dX7_tryTrades_134 rfl ?_
                  refine x_icmp_le (tgt := 162) dX7_tryTrades_136 rfl (fun h136 => ?_) (fun h136 => ?_)
                  · have n136 : trdB T w gl m h s a b o z xz = xz := cif_neg (fun q => by rcases q.2.2 with z | z; exact h122 z; omega)
                    refine x_keep [1, 1, 1, 1, 1, 1, 1, 1] ?_
                    first | (have z1 := n136; exact hB (by omega) I114 e114 hdr F114 G114 (by rw [n136]; exact X114)) | exact hB (by omega) I159 ((f159 (57 + 1) (fun q => by rcases q with q | q <;> omega)).trans e114) hdr (F114.tr (f159.mo sX_sY)) (F56.tr G114 g159) n159 | fail "none"
                  · have c122 : w = -1 ∨ bagS T h (otherX w a b) < bagS T (dealS T h a b (OF T o) z) (otherX w a b) := Or.inr (by omega)
                    refine y_aln (i := 0) dX7_tryTrades_139 at56.ne0 rfl rfl ?_
                    refine x_iload_n (i := 1) dX7_tryTrades_140 rfl rfl ?_
                    refine x_iload_n (i := 2) dX7_tryTrades_141 rfl rfl ?_
                    refine y_bi dX7_tryTrades_142 ⟨by decide, by decide⟩ ?_
                    refine x_imul dX7_tryTrades_144 ⟨by omega, by omega⟩ ?_
                    refine x_iload_n (i := 3) dX7_tryTrades_145 rfl rfl ?_
                    refine x_iadd dX7_tryTrades_146 ⟨by omega, by omega⟩ ?_
                    refine y_bi dX7_tryTrades_147 ⟨by decide, by decide⟩ ?_
                    refine x_imul dX7_tryTrades_149 ⟨by omega, by omega⟩ ?_
                    refine x_iload (i := 6) dX7_tryTrades_150 rfl ?_
                    refine x_iadd dX7_tryTrades_152 ⟨by omega, by omega⟩ ?_
                    refine y_bi dX7_tryTrades_153 ⟨by decide, by decide⟩ ?_
                    refine x_imul dX7_tryTrades_155 ⟨by omega, by omega⟩ ?_
                    refine x_iload (i := 7) dX7_tryTrades_156 rfl ?_
                    refine x_iadd dX7_tryTrades_158 ⟨by omega, by omega⟩ ?_
                    refine x_callVV (c_X7_arrive (r := dealS T h a b (OF T o) z) (h := (s, a, b, o, z)) (x := xz) hW M114 hF hdh (by rw [e114]; exact hde) X114 P114 ⟨by have := kO.1; omega, kO.1.2⟩ kO.2.1 (fun _ => ⟨rfl, (if_neg (show ¬ b = -1 by omega)).symm⟩)) dX7_tryTrades_159 lkX7_80 mfX7_arrive cfX7 at56 rfl rfl rfl rfl (Nat.le_of_ble_eq_true rfl) (fun n159 I159 P159 hf159 => ?_)
                    obtain ⟨rfl, rfl, f159, g159, n159⟩ := hf159
                    have y159 : trdB T w gl m h s a b o z xz = arrX w gl m (dealS T h a b (OF T o) z) (s, a, b, o, z) xz := cif_pos ⟨nov, hlh, c122⟩
                    rw [← y159] at n159
                    refine x_keep [1, 1, 1, 1, 1, 1, 1, 1] ?_
                    first | (have z1 := n136; exact hB (by omega) I114 e114 hdr F114 G114 (by rw [n136]; exact X114)) | exact hB (by omega) I159 ((f159 (57 + 1) (fun q => by rcases q with q | q <;> omega)).trans e114) hdr (F114.tr (f159.mo sX_sY)) (F56.tr G114 g159) n159 | fail "none"
              · have hng := (q94.resolve_left (fun q => by have := q.1; omega)).2
                have enl : trdB T w gl m h s a b o z xz = xz := cif_neg (fun q => hng (law_gg.mp ((hre.law hF ha hb ⟨hz, by omega⟩ (fun k k0 k1 => OF8 hF ⟨ho, ho3⟩ k0 k1)).mp q.2.1)).2)
                refine x_goto (tgt := 176) dX7_tryTrades_100 rfl ?_
                refine x_keep [1, 1, 1, 1, 1, 1, 1, 1] ?_
                exact hnx (by omega) K (by rw [enl]; exact hK)
      refine x_iload (i := 6) dX7_tryTrades_29 rfl ?_
      refine y_aln (i := 0) dX7_tryTrades_31 at56.ne0 rfl rfl ?_
      refine y_getp (z := 0) (v := 57) dX7_tryTrades_32 frX7_28 cfX7 at56 rfl rfl (wp (v := 57) hW rfl rfl (by decide)) ?_
      refine y_getp (z := 1) (v := l) dX7_tryTrades_35 frX7_119 cfX3 at57 rfl rfl hpl ?_
      refine y_geti (z := 3) dX7_tryTrades_38 frX7_123 cfX2 hLo.at rfl rfl ?_
      rw [k3]
      refine x_icmp_ge (tgt := 188) dX7_tryTrades_41 rfl (fun h41 => ?_) (fun h41 => ?_)
      · refine x_vret dX7_tryTrades_188 rfl ?_
        refine ⟨rfl, rfl, ?_⟩
        unfold trdS
        rw [show OFN T = o by omega, ← exo]
        exact hK
      · refine y_aln (i := 0) dX7_tryTrades_44 at56.ne0 rfl rfl ?_
        refine y_getp (z := 0) (v := 57) dX7_tryTrades_45 frX7_28 cfX7 at56 rfl rfl (wp (v := 57) hW rfl rfl (by decide)) ?_
        refine x_iload_n (i := 2) dX7_tryTrades_48 rfl rfl ?_
        refine x_iload (i := 6) dX7_tryTrades_49 rfl ?_
        refine x_callVI (c_X3_canGive hW hKM hF (by rw [hK.1]; exact hr58.rc) (by omega) ⟨ho, by omega⟩) dX7_tryTrades_51 lkX7_128 mfX3_canGive cfX3 at57 rfl rfl rfl rfl (Nat.le_of_ble_eq_true rfl) (fun r51 I51 P51 hr51 hf51 => ?_)
        obtain ⟨i51, p51, q51⟩ := hf51
        rw [i51, p51]
        rw [hK.1] at q51
        refine x_if_ne (tgt := 60) dX7_tryTrades_54 rfl (fun h54 => ?_) (fun h54 => ?_)
        · have hgv := (q51.resolve_right (fun q => by have := q.1; omega)).2
          refine y_ic dX7_tryTrades_60 ⟨by decide, by decide⟩ ?_
          refine x_istore (i := 7) dX7_tryTrades_61 rfl (Nat.le_of_ble_eq_true rfl) ?_
          refine x_keep [1, 1, 1, 1, 1, 1, 1, 1] ?_
          exact hZ (by omega) hgv _ 0 K (Nat.lt_succ_self _) (Int.le_refl 0) (by omega) hK
        · have hng := (q51.resolve_left (fun q => by have := q.1; omega)).2
          have eall : itN (fun z x => trdB T w gl m h s a b o z x) (T 0 2) xo = xo := itN_inv (p := fun y => y = xo) rfl (fun z y z0 z1 e => by rw [e]; exact cif_neg (fun q => hng (law_gg.mp ((hre.law hF ha hb ⟨z0, z1⟩ (fun k k0 k1 => OF8 hF ⟨ho, by omega⟩ k0 k1)).mp q.2.1)).1))
          refine x_goto (tgt := 182) dX7_tryTrades_57 rfl ?_
          refine x_keep [1, 1, 1, 1, 1, 1, 1, 0] ?_
          exact hnext (by omega) K (by rw [eall]; exact hK)
  have h13 : ∀ y, y = otherX w a b → V G mX7_tryTrades (d + 3) 0 0 13 [some (.inr (.inl 56)), some (.inl (s)), some (.inl (a)), some (.inl (b)), none, none, none, none] [.inl y] NO I P (qV (fun n' I' P' => n' = NO ∧ P' = P ∧ TRY T I I' m x (trdS T w gl m h s a b x))) := fun y hy => by
    subst hy
    refine x_istore (i := 4) dX7_tryTrades_13 rfl (Nat.le_of_ble_eq_true rfl) ?_
    refine y_aln (i := 0) dX7_tryTrades_15 at56.ne0 rfl rfl ?_
    refine y_getp (z := 0) (v := 57) dX7_tryTrades_16 frX7_28 cfX7 at56 rfl rfl (wp (v := 57) hW rfl rfl (by decide)) ?_
    refine x_iload (i := 4) dX7_tryTrades_19 rfl ?_
    refine x_callVI (c_X3_bagWorth hW hM hF hr58.rc hot) dX7_tryTrades_21 lkX7_116 mfX3_bagWorth cfX3 at57 rfl rfl rfl rfl (Nat.le_of_ble_eq_true rfl) (fun r21 I21 P21 hr21 hf21 => ?_)
    obtain ⟨i21, p21, q21⟩ := hf21
    rw [i21, p21, q21]
    rw [eb]
    refine x_istore (i := 5) dX7_tryTrades_24 rfl (Nat.le_of_ble_eq_true rfl) ?_
    refine y_ic dX7_tryTrades_26 ⟨by decide, by decide⟩ ?_
    refine x_istore (i := 6) dX7_tryTrades_27 rfl (Nat.le_of_ble_eq_true rfl) ?_
    refine x_keep [1, 1, 1, 1, 1, 1, 1, 0] ?_
    exact hO _ 0 I (Nat.lt_succ_self _) (Int.le_refl 0) (by omega) ⟨rfl, Fc.rf, F56.rf, hX, hx, laterX.rf⟩
  refine x_iload_n (i := 2) dX7_tryTrades_0 rfl rfl ?_
  refine y_aln (i := 0) dX7_tryTrades_1 at56.ne0 rfl rfl ?_
  refine y_geti (z := 8) dX7_tryTrades_2 frX7_32 cfX7 at56 rfl rfl ?_
  rw [hP.2.1]
  refine x_icmp_ne (tgt := 12) dX7_tryTrades_5 rfl (fun h5 => ?_) (fun h5 => ?_)
  · refine x_iload_n (i := 2) dX7_tryTrades_12 rfl rfl ?_
    refine x_keep [1, 1, 1, 1, 0, 0, 0, 0] ?_
    first | (have z1 : a = w := (by omega); exact h13 b (by unfold otherX; rw [if_pos z1])) | exact h13 a (by unfold otherX; rw [if_neg (by omega)]) | fail "none"
  · refine x_iload_n (i := 3) dX7_tryTrades_8 rfl rfl ?_
    refine x_goto (tgt := 13) dX7_tryTrades_9 rfl ?_
    refine x_keep [1, 1, 1, 1, 0, 0, 0, 0] ?_
    first | (have z1 : a = w := (by omega); exact h13 b (by unfold otherX; rw [if_pos z1])) | exact h13 a (by unfold otherX; rw [if_neg (by omega)]) | fail "none"
end

