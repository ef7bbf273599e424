/-! ===== the class: tokens ===== -/
def STp (k : Nat) : Prop := k ≠ 0
theorem STp.ne0 {k : Nat} (h : STp k) : k ≠ 0 := h
theorem stp1 (k : Nat) : STp (1001 + k) := by show 1001 + k ≠ 0; omega
theorem uI_at {K : Mem} {a : Nat} {i v w : Int} (h : v = w) : uI K a i v a i = w := by rw [uI_eq, u1_eq, h]
abbrev sK : Nat → Prop := fun a => a = 42 ∨ a = 43 ∨ a = 44 ∨ a = 45
/-- the text at hand: length, bytes -/
def TX (K : Mem) (tp : Rw) (n : Int) : Prop := K 2 = tp ∧ K 42 1 = n ∧ 0 ≤ n ∧ n ≤ 700
theorem TX.at {K : Mem} {tp : Rw} {n q : Int} (h : TX K tp n) : TX (uI K 42 2 q) tp n := ⟨by rw [uI_ne (by decide)]; exact h.1, by rw [uI_eq, u1_ne (by decide)]; exact h.2.1, h.2.2⟩
section
variable {G : HX} {d : Nat} {I : Mem} {P : Ptr} {tp : Rw} {n : Int}
theorem c_X9_wordOf {k : Nat} (hk : k < 11) : Cv G mX9_wordOf d 0 0 [.inl (k : Int)] NO I P (qR NO (fun r I' P' => I' = I ∧ P' = P ∧ r = 1001 + k)) := by
  refine x_enter mfX9_wordOf rfl (Nat.le_of_ble_eq_true rfl) (fun _ => ?_)
  refine y_ic dX9_wordOf_0 ⟨by decide, by decide⟩ ?_
  refine x_iload_n (i := 0) dX9_wordOf_1 rfl rfl ?_
  refine x_iadd dX9_wordOf_2 ⟨by omega, by omega⟩ ?_
  refine y_tsw (td := 86) dX9_wordOf_3 (fun j off tgt hx3 ho3 ht3 hle3 => ?_) (by decide) (by decide) (by decide) (fun h3 => ?_)
  · have hj3 : j = 0 ∨ j = 1 ∨ j = 2 ∨ j = 3 ∨ j = 4 ∨ j = 5 ∨ j = 6 ∨ j = 7 ∨ j = 8 ∨ j = 9 := by omega
    rcases hj3 with rfl | rfl | rfl | rfl | rfl | rfl | rfl | rfl | rfl | rfl
    · have eo3 : off = 53 := Option.some.inj (ho3.symm.trans rfl)
      obtain rfl : tgt = 56 := by omega
      refine x_ldcS (j := 0) (by decide) rfl dX9_wordOf_56 ?_
      exact x_aretq (by decide) dX9_wordOf_58 rfl ⟨rfl, _, rfl, rfl, rfl, by omega⟩ -- END
    · have eo3 : off = 56 := Option.some.inj (ho3.symm.trans rfl)
      obtain rfl : tgt = 59 := by omega
      refine x_ldcS (j := 1) (by decide) rfl dX9_wordOf_59 ?_
      exact x_aretq (by decide) dX9_wordOf_61 rfl ⟨rfl, _, rfl, rfl, rfl, by omega⟩ -- END
    · have eo3 : off = 59 := Option.some.inj (ho3.symm.trans rfl)
      obtain rfl : tgt = 62 := by omega
      refine x_ldcS (j := 2) (by decide) rfl dX9_wordOf_62 ?_
      exact x_aretq (by decide) dX9_wordOf_64 rfl ⟨rfl, _, rfl, rfl, rfl, by omega⟩ -- END
    · have eo3 : off = 62 := Option.some.inj (ho3.symm.trans rfl)
      obtain rfl : tgt = 65 := by omega
      refine x_ldcS (j := 3) (by decide) rfl dX9_wordOf_65 ?_
      exact x_aretq (by decide) dX9_wordOf_67 rfl ⟨rfl, _, rfl, rfl, rfl, by omega⟩ -- END
    · have eo3 : off = 65 := Option.some.inj (ho3.symm.trans rfl)
      obtain rfl : tgt = 68 := by omega
      refine x_ldcS (j := 4) (by decide) rfl dX9_wordOf_68 ?_
      exact x_aretq (by decide) dX9_wordOf_70 rfl ⟨rfl, _, rfl, rfl, rfl, by omega⟩ -- END
    · have eo3 : off = 68 := Option.some.inj (ho3.symm.trans rfl)
      obtain rfl : tgt = 71 := by omega
      refine x_ldcS (j := 5) (by decide) rfl dX9_wordOf_71 ?_
      exact x_aretq (by decide) dX9_wordOf_73 rfl ⟨rfl, _, rfl, rfl, rfl, by omega⟩ -- END
    · have eo3 : off = 71 := Option.some.inj (ho3.symm.trans rfl)
      obtain rfl : tgt = 74 := by omega
      refine x_ldcS (j := 6) (by decide) rfl dX9_wordOf_74 ?_
      exact x_aretq (by decide) dX9_wordOf_76 rfl ⟨rfl, _, rfl, rfl, rfl, by omega⟩ -- END
    · have eo3 : off = 74 := Option.some.inj (ho3.symm.trans rfl)
      obtain rfl : tgt = 77 := by omega
      refine x_ldcS (j := 7) (by decide) rfl dX9_wordOf_77 ?_
      exact x_aretq (by decide) dX9_wordOf_79 rfl ⟨rfl, _, rfl, rfl, rfl, by omega⟩ -- END
    · have eo3 : off = 77 := Option.some.inj (ho3.symm.trans rfl)
      obtain rfl : tgt = 80 := by omega
      refine x_ldcS (j := 8) (by decide) rfl dX9_wordOf_80 ?_
      exact x_aretq (by decide) dX9_wordOf_82 rfl ⟨rfl, _, rfl, rfl, rfl, by omega⟩ -- END
    · have eo3 : off = 80 := Option.some.inj (ho3.symm.trans rfl)
      obtain rfl : tgt = 83 := by omega
      refine x_ldcS (j := 9) (by decide) rfl dX9_wordOf_83 ?_
      exact x_aretq (by decide) dX9_wordOf_85 rfl ⟨rfl, _, rfl, rfl, rfl, by omega⟩ -- END
  · refine x_ldcS (j := 10) (by decide) rfl dX9_wordOf_86 ?_
    exact x_aretq (by decide) dX9_wordOf_88 rfl ⟨rfl, _, rfl, rfl, rfl, by omega⟩ -- END
theorem c_X9_isWord {k : Nat} {p e : Int} (hW : WP P) (hk : k < 11) (hX : TX I tp n) (he : I 42 2 = e) (hp : 0 ≤ p ∧ p ≤ e ∧ e ≤ n) : Cv G mX9_isWord (d + 4) 0 0 [.inr (.inl 42), .inl (k : Int), .inl p] NO I P (qI NO (fun r I' P' => I' = I ∧ P' = P ∧ ((r = 1 ∧ isWd tp p e (k : Int)) ∨ (r = 0 ∧ ¬ isWd tp p e (k : Int))))) := by
  obtain ⟨x2, x1, x0, x7⟩ := id hX
  have hw := wc_bd (k := (k : Int)) ⟨by omega, by omega⟩
  refine x_enter mfX9_isWord rfl (Nat.le_of_ble_eq_true rfl) (fun _ => ?_)
  have hL : e - p = wlS (k : Int) → ∀ (j : Nat) (i : Int), (wlS (k : Int) - i).toNat < j → 0 ≤ i → i ≤ wlS (k : Int) → (∀ y, 0 ≤ y → y < i → tp (p + y) = wcS (k : Int) y) → V G mX9_isWord (d + 4) 0 0 23 [some (.inr (.inl 42)), none, some (.inl (p)), some (.inr (.inl (1001 + k))), some (.inl (i))] [] NO I P (qI NO (fun r I' P' => I' = I ∧ P' = P ∧ ((r = 1 ∧ isWd tp p e (k : Int)) ∨ (r = 0 ∧ ¬ isWd tp p e (k : Int))))) := by
    intro hlen j
    induction j with
    | zero => intro i hj; omega
    | succ j ih =>
      intro i hj hi0 hi1 hv
      refine x_iload (i := 4) dX9_isWord_23 rfl ?_
      refine y_aln (i := 3) dX9_isWord_25 (stp1 k).ne0 rfl rfl ?_
      refine x_callW (as := []) hk (c_S_length hk) dX9_isWord_26 lkX9_56 mfS_length rfl rfl rfl rfl (Nat.le_of_ble_eq_true rfl) (fun r26 I26 P26 _ hf26 => ?_)
      obtain ⟨rfl, rfl, rfl⟩ := hf26
      refine x_icmp_ge (tgt := 58) dX9_isWord_29 rfl (fun h29 => ?_) (fun h29 => ?_)
      · refine y_ic dX9_isWord_58 ⟨by decide, by decide⟩ ?_
        refine x_zret dX9_isWord_59 (by omega) rfl ?_
        exact ⟨rfl, rfl, Or.inl ⟨rfl, hlen, fun y y0 y1 => hv y y0 (by omega)⟩⟩
      · refine y_aln (i := 0) dX9_isWord_32 at42.ne0 rfl rfl ?_
        refine y_getp (z := 0) (v := 2) dX9_isWord_33 frX9_21 cfX9 at42 rfl rfl (wp (v := 2) hW rfl rfl (by decide)) ?_
        refine x_iload_n (i := 2) dX9_isWord_36 rfl rfl ?_
        refine x_iload (i := 4) dX9_isWord_37 rfl ?_
        refine x_iadd dX9_isWord_39 ⟨by omega, by omega⟩ ?_
        refine x_bald dX9_isWord_40 ar2 ⟨by omega, by omega⟩ ?_
        rw [x2]
        refine y_aln (i := 3) dX9_isWord_41 (stp1 k).ne0 rfl rfl ?_
        refine x_iload (i := 4) dX9_isWord_42 rfl ?_
        refine x_callW (as := [.inl i]) hk (c_S_charAt hk ⟨hi0, by omega⟩) dX9_isWord_44 lkX9_60 mfS_charAt rfl rfl rfl rfl (Nat.le_of_ble_eq_true rfl) (fun r44 I44 P44 _ hf44 => ?_)
        obtain ⟨rfl, rfl, rfl⟩ := hf44
        refine x_icmp_eq (tgt := 52) dX9_isWord_47 rfl (fun h47 => ?_) (fun h47 => ?_)
        · refine x_iinc dX9_isWord_52 rfl ⟨by omega, by omega⟩ rfl (Nat.le_of_ble_eq_true rfl) ?_
          refine x_goto (tgt := 23) dX9_isWord_55 rfl ?_
          refine x_keep [1, 0, 1, 1, 1] ?_
          refine ih (i + 1) (by omega) (by omega) (by omega) (fun y y0 y1 => ?_)
          by_cases q : y = i
          · rw [q]; exact h47
          · exact hv y y0 (by omega)
        · have n47 := h47
          refine y_ic dX9_isWord_50 ⟨by decide, by decide⟩ ?_
          refine x_zret dX9_isWord_51 (by omega) rfl ?_
          exact ⟨rfl, rfl, Or.inr ⟨rfl, fun z => n47 (z.2 i hi0 (by omega))⟩⟩
  refine x_iload_n (i := 1) dX9_isWord_0 rfl rfl ?_
  refine x_callSR (c_X9_wordOf hk) dX9_isWord_1 lkX9_52 mfX9_wordOf rfl rfl rfl (Nat.le_of_ble_eq_true rfl) (fun r1 I1 P1 hf1 => ?_)
  obtain ⟨i1, p1, q1⟩ := hf1
  rw [i1, p1]
  subst q1
  refine y_asn (i := 3) dX9_isWord_4 (stp1 k).ne0 rfl rfl (Nat.le_of_ble_eq_true rfl) ?_
  refine y_aln (i := 0) dX9_isWord_5 at42.ne0 rfl rfl ?_
  refine y_geti (z := 2) dX9_isWord_6 frX9_29 cfX9 at42 rfl rfl ?_
  rw [he]
  refine x_iload_n (i := 2) dX9_isWord_9 rfl rfl ?_
  refine x_isub dX9_isWord_10 ⟨by omega, by omega⟩ ?_
  refine y_aln (i := 3) dX9_isWord_11 (stp1 k).ne0 rfl rfl ?_
  refine x_callW (as := []) hk (c_S_length hk) dX9_isWord_12 lkX9_56 mfS_length rfl rfl rfl rfl (Nat.le_of_ble_eq_true rfl) (fun r12 I12 P12 _ hf12 => ?_)
  obtain ⟨rfl, rfl, rfl⟩ := hf12
  refine x_icmp_eq (tgt := 20) dX9_isWord_15 rfl (fun h15 => ?_) (fun h15 => ?_)
  · refine y_ic dX9_isWord_20 ⟨by decide, by decide⟩ ?_
    refine x_istore (i := 4) dX9_isWord_21 rfl (Nat.le_of_ble_eq_true rfl) ?_
    refine x_keep [1, 0, 1, 1, 1] ?_
    exact hL h15 _ 0 (Nat.lt_succ_self _) (Int.le_refl 0) (by omega) (fun y y0 y1 => by omega)
  · refine y_ic dX9_isWord_18 ⟨by decide, by decide⟩ ?_
    refine x_zret dX9_isWord_19 (by omega) rfl ?_
    exact ⟨rfl, rfl, Or.inr ⟨rfl, fun z => h15 z.1⟩⟩
theorem c_X9_passBlanks {q : Int} (hW : WP P) (hX : TX I tp n) (hq : I 42 2 = q) (hb : 0 ≤ q ∧ q ≤ n) : Cv G mX9_passBlanks d 0 0 [.inr (.inl 42)] NO I P (qV (fun n' I' P' => n' = NO ∧ P' = P ∧ I' = uI I 42 2 (plS tp n q))) := by
  refine x_enter mfX9_passBlanks rfl (Nat.le_of_ble_eq_true rfl) (fun _ => ?_)
  have hL : ∀ (j : Nat) (e : Int) (K : Mem), (n - e).toNat < j → q ≤ e → e ≤ n → (∀ i, q ≤ i → i < e → isBl tp i) → K = uI I 42 2 e → V G mX9_passBlanks d 0 0 0 [some (.inr (.inl 42))] [] NO K P (qV (fun n' I' P' => n' = NO ∧ P' = P ∧ I' = uI I 42 2 (plS tp n q))) := by
    intro j
    induction j with
    | zero => intro e K hj; omega
    | succ j ih =>
      intro e K hj he0 he1 hv hK
      obtain ⟨k2, k1, k0, k7⟩ : TX K tp n := by rw [hK]; exact hX.at
      have kq : K 42 2 = e := by rw [hK, uI_at rfl]
      have hd : (e < n → ¬ isBl tp e) → K = uI I 42 2 (plS tp n q) := fun h => by rw [hK, show plS tp n q = e from scS_is he0 (Or.inl he1) hv h]
      refine y_aln (i := 0) dX9_passBlanks_0 at42.ne0 rfl rfl ?_
      refine y_geti (z := 2) dX9_passBlanks_1 frX9_29 cfX9 at42 rfl rfl ?_
      rw [kq]
      refine y_aln (i := 0) dX9_passBlanks_4 at42.ne0 rfl rfl ?_
      refine y_geti (z := 1) dX9_passBlanks_5 frX9_25 cfX9 at42 rfl rfl ?_
      rw [k1]
      refine x_icmp_ge (tgt := 52) dX9_passBlanks_8 rfl (fun h8 => ?_) (fun h8 => ?_)
      · refine x_vret dX9_passBlanks_52 rfl ?_
        first | exact ⟨rfl, rfl, hd (fun z => by omega)⟩ | exact ⟨rfl, rfl, hd (fun _ z => by rcases z with z | z; exact h22 z; exact h36 z)⟩ | fail "none"
      · refine y_aln (i := 0) dX9_passBlanks_11 at42.ne0 rfl rfl ?_
        refine y_getp (z := 0) (v := 2) dX9_passBlanks_12 frX9_21 cfX9 at42 rfl rfl (wp (v := 2) hW rfl rfl (by decide)) ?_
        refine y_aln (i := 0) dX9_passBlanks_15 at42.ne0 rfl rfl ?_
        refine y_geti (z := 2) dX9_passBlanks_16 frX9_29 cfX9 at42 rfl rfl ?_
        rw [kq]
        refine x_bald dX9_passBlanks_19 ar2 ⟨by omega, by omega⟩ ?_
        rw [k2]
        refine y_bi dX9_passBlanks_20 ⟨by decide, by decide⟩ ?_
        refine x_icmp_eq (tgt := 39) dX9_passBlanks_22 rfl (fun h22 => ?_) (fun h22 => ?_)
        · have b22 : isBl tp e := Or.inl h22
          refine y_aln (i := 0) dX9_passBlanks_39 at42.ne0 rfl rfl ?_
          refine x_dup dX9_passBlanks_40 rfl ?_
          refine y_geti (z := 2) dX9_passBlanks_41 frX9_29 cfX9 at42 rfl rfl ?_
          rw [kq]
          refine y_ic dX9_passBlanks_44 ⟨by decide, by decide⟩ ?_
          refine x_iadd dX9_passBlanks_45 ⟨by omega, by omega⟩ ?_
          refine y_puti (z := 2) dX9_passBlanks_46 frX9_29 cfX9 at42 rfl rfl rfl ?_
          refine x_goto (tgt := 0) dX9_passBlanks_49 rfl ?_
          refine x_keep [1] ?_
          refine ih (e + 1) _ (by omega) (by omega) (by omega) (fun i i0 i1 => ?_) (by rw [hK, uI_uI])
          by_cases z : i = e
          · rw [z]; exact b22
          · exact hv i i0 (by omega)
        · refine y_aln (i := 0) dX9_passBlanks_25 at42.ne0 rfl rfl ?_
          refine y_getp (z := 0) (v := 2) dX9_passBlanks_26 frX9_21 cfX9 at42 rfl rfl (wp (v := 2) hW rfl rfl (by decide)) ?_
          refine y_aln (i := 0) dX9_passBlanks_29 at42.ne0 rfl rfl ?_
          refine y_geti (z := 2) dX9_passBlanks_30 frX9_29 cfX9 at42 rfl rfl ?_
          rw [kq]
          refine x_bald dX9_passBlanks_33 ar2 ⟨by omega, by omega⟩ ?_
          rw [k2]
          refine y_bi dX9_passBlanks_34 ⟨by decide, by decide⟩ ?_
          refine x_icmp_ne (tgt := 52) dX9_passBlanks_36 rfl (fun h36 => ?_) (fun h36 => ?_)
          · refine x_vret dX9_passBlanks_52 rfl ?_
            first | exact ⟨rfl, rfl, hd (fun z => by omega)⟩ | exact ⟨rfl, rfl, hd (fun _ z => by rcases z with z | z; exact h22 z; exact h36 z)⟩ | fail "none"
          · have b22 : isBl tp e := Or.inr h36
            refine y_aln (i := 0) dX9_passBlanks_39 at42.ne0 rfl rfl ?_
            refine x_dup dX9_passBlanks_40 rfl ?_
            refine y_geti (z := 2) dX9_passBlanks_41 frX9_29 cfX9 at42 rfl rfl ?_
            rw [kq]
            refine y_ic dX9_passBlanks_44 ⟨by decide, by decide⟩ ?_
            refine x_iadd dX9_passBlanks_45 ⟨by omega, by omega⟩ ?_
            refine y_puti (z := 2) dX9_passBlanks_46 frX9_29 cfX9 at42 rfl rfl rfl ?_
            refine x_goto (tgt := 0) dX9_passBlanks_49 rfl ?_
            refine x_keep [1] ?_
            refine ih (e + 1) _ (by omega) (by omega) (by omega) (fun i i0 i1 => ?_) (by rw [hK, uI_uI])
            by_cases z : i = e
            · rw [z]; exact b22
            · exact hv i i0 (by omega)
  exact hL _ q I (Nat.lt_succ_self _) (Int.le_refl _) hb.2 (fun i i0 i1 => by omega) (by rw [← hq]; exact uI_self.symm)
theorem c_X9_takeNumber {p sz : Int} (hW : WP P) (hX : TX I tp n) (hp : I 42 2 = p) (hs : I 42 3 = sz) (hb : 0 ≤ p ∧ p < n) (hsz : 0 ≤ sz ∧ sz < 701) : Cv G mX9_takeNumber d 0 0 [.inr (.inl 42)] NO I P (qI NO (fun r I' P' => P' = P ∧ r = 2 ∧ I' = uI (uI I 42 2 (dgE tp n p)) 45 sz (vlP tp n p))) := by
  refine x_enter mfX9_takeNumber rfl (Nat.le_of_ble_eq_true rfl) (fun _ => ?_)
  have hL : ∀ (j : Nat) (e v : Int) (K : Mem), (n - e).toNat < j → p ≤ e → e ≤ n → (∀ i, p ≤ i → i < e → isDg tp i) → K = uI I 42 2 e → v = dgN tp p (min (e - p) 4) → 0 ≤ v → v ≤ 9999 → (e - p ≤ 3 → v ≤ 999) → (e - p ≤ 2 → v ≤ 99) → (e - p ≤ 1 → v ≤ 9) → (e - p ≤ 0 → v ≤ 0) → V G mX9_takeNumber d 0 0 7 [some (.inr (.inl 42)), some (.inl (p)), some (.inl (v))] [] NO K P (qI NO (fun r I' P' => P' = P ∧ r = 2 ∧ I' = uI (uI I 42 2 (dgE tp n p)) 45 sz (vlP tp n p))) := by
    intro j
    induction j with
    | zero => intro e v K hj; omega
    | succ j ih =>
      intro e v K hj he0 he1 hv hK hvv v0 v4 v3 v2 v1 vz
      obtain ⟨k2, k1, k0, k7⟩ : TX K tp n := by rw [hK]; exact hX.at
      have kq : K 42 2 = e := by rw [hK, uI_at rfl]
      have ks : K 42 3 = sz := by rw [hK, uI_eq, u1_ne (by decide)]; exact hs
      have es : dgN tp p (e - p + 1) = 10 * dgN tp p (e - p) + tp (p + (e - p)) - 48 := itN_s _ _ (by omega)
      rw [show p + (e - p) = e by omega] at es
      have hd : (e < n → ¬ isDg tp e) → (e - p > 4 → uI K 45 sz (-1) = uI (uI I 42 2 (dgE tp n p)) 45 sz (vlP tp n p)) ∧ (e - p ≤ 4 → uI K 45 sz v = uI (uI I 42 2 (dgE tp n p)) 45 sz (vlP tp n p)) := fun h => by
        have ee : dgE tp n p = e := scS_is he0 (Or.inl he1) hv h
        unfold vlP
        rw [ee, hK]
        refine ⟨fun z => by rw [if_pos z], fun z => by rw [if_neg (by omega), hvv, show min (e - p) 4 = e - p by omega]⟩
      have hR : (e < n → ¬ isDg tp e) → V G mX9_takeNumber d 0 0 87 [some (.inr (.inl 42)), some (.inl (p)), some (.inl (v))] [] NO K P (qI NO (fun r I' P' => P' = P ∧ r = 2 ∧ I' = uI (uI I 42 2 (dgE tp n p)) 45 sz (vlP tp n p))) := fun h => by
        have hdd := hd h
        refine y_aln (i := 0) dX9_takeNumber_87 at42.ne0 rfl rfl ?_
        refine y_getp (z := 6) (v := 45) dX9_takeNumber_88 frX9_18 cfX9 at42 rfl rfl (wp (v := 45) hW rfl rfl (by decide)) ?_
        refine y_aln (i := 0) dX9_takeNumber_91 at42.ne0 rfl rfl ?_
        refine y_geti (z := 3) dX9_takeNumber_92 frX9_32 cfX9 at42 rfl rfl ?_
        rw [ks]
        refine y_aln (i := 0) dX9_takeNumber_95 at42.ne0 rfl rfl ?_
        refine y_geti (z := 2) dX9_takeNumber_96 frX9_29 cfX9 at42 rfl rfl ?_
        rw [kq]
        refine x_iload_n (i := 1) dX9_takeNumber_99 rfl rfl ?_
        refine x_isub dX9_takeNumber_100 ⟨by omega, by omega⟩ ?_
        refine y_ic dX9_takeNumber_101 ⟨by decide, by decide⟩ ?_
        refine x_icmp_le (tgt := 109) dX9_takeNumber_102 rfl (fun h102 => ?_) (fun h102 => ?_)
        · have d2 := hdd.2 (by omega)
          refine x_iload_n (i := 2) dX9_takeNumber_109 rfl rfl ?_
          refine x_iast dX9_takeNumber_110 ar45 ⟨by omega, by omega⟩ ?_
          refine y_ic dX9_takeNumber_111 ⟨by decide, by decide⟩ ?_
          refine x_iret dX9_takeNumber_112 rfl ?_
          first | exact ⟨rfl, rfl, d1⟩ | exact ⟨rfl, rfl, d2⟩ | fail "none"
        · have d1 := hdd.1 (by omega)
          refine y_ic dX9_takeNumber_105 ⟨by decide, by decide⟩ ?_
          refine x_goto (tgt := 110) dX9_takeNumber_106 rfl ?_
          refine x_iast dX9_takeNumber_110 ar45 ⟨by omega, by omega⟩ ?_
          refine y_ic dX9_takeNumber_111 ⟨by decide, by decide⟩ ?_
          refine x_iret dX9_takeNumber_112 rfl ?_
          first | exact ⟨rfl, rfl, d1⟩ | exact ⟨rfl, rfl, d2⟩ | fail "none"
      refine y_aln (i := 0) dX9_takeNumber_7 at42.ne0 rfl rfl ?_
      refine y_geti (z := 2) dX9_takeNumber_8 frX9_29 cfX9 at42 rfl rfl ?_
      rw [kq]
      refine y_aln (i := 0) dX9_takeNumber_11 at42.ne0 rfl rfl ?_
      refine y_geti (z := 1) dX9_takeNumber_12 frX9_25 cfX9 at42 rfl rfl ?_
      rw [k1]
      refine x_icmp_ge (tgt := 87) dX9_takeNumber_15 rfl (fun h15 => ?_) (fun h15 => ?_)
      · refine x_keep [1, 1, 1] ?_
        exact hR (fun z q => by have := q.1; have := q.2; omega)
      · refine y_aln (i := 0) dX9_takeNumber_18 at42.ne0 rfl rfl ?_
        refine y_getp (z := 0) (v := 2) dX9_takeNumber_19 frX9_21 cfX9 at42 rfl rfl (wp (v := 2) hW rfl rfl (by decide)) ?_
        refine y_aln (i := 0) dX9_takeNumber_22 at42.ne0 rfl rfl ?_
        refine y_geti (z := 2) dX9_takeNumber_23 frX9_29 cfX9 at42 rfl rfl ?_
        rw [kq]
        refine x_bald dX9_takeNumber_26 ar2 ⟨by omega, by omega⟩ ?_
        rw [k2]
        refine y_bi dX9_takeNumber_27 ⟨by decide, by decide⟩ ?_
        refine x_icmp_lt (tgt := 87) dX9_takeNumber_29 rfl (fun h29 => ?_) (fun h29 => ?_)
        · refine x_keep [1, 1, 1] ?_
          exact hR (fun z q => by have := q.1; have := q.2; omega)
        · refine y_aln (i := 0) dX9_takeNumber_32 at42.ne0 rfl rfl ?_
          refine y_getp (z := 0) (v := 2) dX9_takeNumber_33 frX9_21 cfX9 at42 rfl rfl (wp (v := 2) hW rfl rfl (by decide)) ?_
          refine y_aln (i := 0) dX9_takeNumber_36 at42.ne0 rfl rfl ?_
          refine y_geti (z := 2) dX9_takeNumber_37 frX9_29 cfX9 at42 rfl rfl ?_
          rw [kq]
          refine x_bald dX9_takeNumber_40 ar2 ⟨by omega, by omega⟩ ?_
          rw [k2]
          refine y_bi dX9_takeNumber_41 ⟨by decide, by decide⟩ ?_
          refine x_icmp_gt (tgt := 87) dX9_takeNumber_43 rfl (fun h43 => ?_) (fun h43 => ?_)
          · refine x_keep [1, 1, 1] ?_
            exact hR (fun z q => by have := q.1; have := q.2; omega)
          · refine y_aln (i := 0) dX9_takeNumber_46 at42.ne0 rfl rfl ?_
            refine y_geti (z := 2) dX9_takeNumber_47 frX9_29 cfX9 at42 rfl rfl ?_
            rw [kq]
            refine x_iload_n (i := 1) dX9_takeNumber_50 rfl rfl ?_
            refine x_isub dX9_takeNumber_51 ⟨by omega, by omega⟩ ?_
            refine y_ic dX9_takeNumber_52 ⟨by decide, by decide⟩ ?_
            refine x_icmp_ge (tgt := 74) dX9_takeNumber_53 rfl (fun h53 => ?_) (fun h53 => ?_)
            · have y52 : 4 ≤ e - p := by omega
              refine y_aln (i := 0) dX9_takeNumber_74 at42.ne0 rfl rfl ?_
              refine x_dup dX9_takeNumber_75 rfl ?_
              refine y_geti (z := 2) dX9_takeNumber_76 frX9_29 cfX9 at42 rfl rfl ?_
              rw [kq]
              refine y_ic dX9_takeNumber_79 ⟨by decide, by decide⟩ ?_
              refine x_iadd dX9_takeNumber_80 ⟨by omega, by omega⟩ ?_
              refine y_puti (z := 2) dX9_takeNumber_81 frX9_29 cfX9 at42 rfl rfl rfl ?_
              refine x_goto (tgt := 7) dX9_takeNumber_84 rfl ?_
              refine x_keep [1, 1, 1] ?_
              first | (have z1 := n52; refine ih (e + 1) _ _ (by omega) (by omega) (by omega) (fun i i0 i1 => ?_) (by rw [hK, uI_uI]) (by rw [show min (e + 1 - p) 4 = e - p + 1 by omega, es, hvv, show min (e - p) 4 = e - p by omega, Int.mul_comm 10]) (by omega) (by omega) (by omega) (by omega) (by omega) (by omega); by_cases z : i = e; (rw [z]; exact ⟨by omega, by omega⟩); exact hv i i0 (by omega)) | (have z1 := y52; refine ih (e + 1) _ _ (by omega) (by omega) (by omega) (fun i i0 i1 => ?_) (by rw [hK, uI_uI]) (by rw [show min (e + 1 - p) 4 = min (e - p) 4 by omega]; exact hvv) v0 v4 (by omega) (by omega) (by omega) (by omega); by_cases z : i = e; (rw [z]; exact ⟨by omega, by omega⟩); exact hv i i0 (by omega)) | fail "none"
            · have n52 : e - p < 4 := by omega
              refine x_iload_n (i := 2) dX9_takeNumber_56 rfl rfl ?_
              refine y_bi dX9_takeNumber_57 ⟨by decide, by decide⟩ ?_
              refine x_imul dX9_takeNumber_59 ⟨by omega, by omega⟩ ?_
              refine y_aln (i := 0) dX9_takeNumber_60 at42.ne0 rfl rfl ?_
              refine y_getp (z := 0) (v := 2) dX9_takeNumber_61 frX9_21 cfX9 at42 rfl rfl (wp (v := 2) hW rfl rfl (by decide)) ?_
              refine y_aln (i := 0) dX9_takeNumber_64 at42.ne0 rfl rfl ?_
              refine y_geti (z := 2) dX9_takeNumber_65 frX9_29 cfX9 at42 rfl rfl ?_
              rw [kq]
              refine x_bald dX9_takeNumber_68 ar2 ⟨by omega, by omega⟩ ?_
              rw [k2]
              refine x_iadd dX9_takeNumber_69 ⟨by omega, by omega⟩ ?_
              refine y_bi dX9_takeNumber_70 ⟨by decide, by decide⟩ ?_
              refine x_isub dX9_takeNumber_72 ⟨by omega, by omega⟩ ?_
              refine x_istore_n (i := 2) dX9_takeNumber_73 rfl rfl (Nat.le_of_ble_eq_true rfl) ?_
              refine y_aln (i := 0) dX9_takeNumber_74 at42.ne0 rfl rfl ?_
              refine x_dup dX9_takeNumber_75 rfl ?_
              refine y_geti (z := 2) dX9_takeNumber_76 frX9_29 cfX9 at42 rfl rfl ?_
              rw [kq]
              refine y_ic dX9_takeNumber_79 ⟨by decide, by decide⟩ ?_
              refine x_iadd dX9_takeNumber_80 ⟨by omega, by omega⟩ ?_
              refine y_puti (z := 2) dX9_takeNumber_81 frX9_29 cfX9 at42 rfl rfl rfl ?_
              refine x_goto (tgt := 7) dX9_takeNumber_84 rfl ?_
              refine x_keep [1, 1, 1] ?_
              first | (have z1 := n52; refine ih (e + 1) _ _ (by omega) (by omega) (by omega) (fun i i0 i1 => ?_) (by rw [hK, uI_uI]) (by rw [show min (e + 1 - p) 4 = e - p + 1 by omega, es, hvv, show min (e - p) 4 = e - p by omega, Int.mul_comm 10]) (by omega) (by omega) (by omega) (by omega) (by omega) (by omega); by_cases z : i = e; (rw [z]; exact ⟨by omega, by omega⟩); exact hv i i0 (by omega)) | (have z1 := y52; refine ih (e + 1) _ _ (by omega) (by omega) (by omega) (fun i i0 i1 => ?_) (by rw [hK, uI_uI]) (by rw [show min (e + 1 - p) 4 = min (e - p) 4 by omega]; exact hvv) v0 v4 (by omega) (by omega) (by omega) (by omega); by_cases z : i = e; (rw [z]; exact ⟨by omega, by omega⟩); exact hv i i0 (by omega)) | fail "none"
  refine y_aln (i := 0) dX9_takeNumber_0 at42.ne0 rfl rfl ?_
  refine y_geti (z := 2) dX9_takeNumber_1 frX9_29 cfX9 at42 rfl rfl ?_
  rw [hp]
  refine x_istore_n (i := 1) dX9_takeNumber_4 rfl rfl (Nat.le_of_ble_eq_true rfl) ?_
  refine y_ic dX9_takeNumber_5 ⟨by decide, by decide⟩ ?_
  refine x_istore_n (i := 2) dX9_takeNumber_6 rfl rfl (Nat.le_of_ble_eq_true rfl) ?_
  refine x_keep [1, 1, 1] ?_
  exact hL _ p 0 I (Nat.lt_succ_self _) (Int.le_refl _) (by omega) (fun i i0 i1 => by omega) (by rw [← hp]; exact uI_self.symm) (by rw [show min (p - p) 4 = 0 by omega]; rfl) (by decide) (by decide) (fun _ => by decide) (fun _ => by decide) (fun _ => by decide) (fun _ => by decide)
theorem c_X9_takeWord {p : Int} (hW : WP P) (hX : TX I tp n) (hp : I 42 2 = p) (hb : 0 ≤ p ∧ p < n) : Cv G mX9_takeWord (d + 5) 0 0 [.inr (.inl 42)] NO I P (qI NO (fun r I' P' => P' = P ∧ r = 4 + wdI tp p (ltE tp n p) ∧ I' = uI I 42 2 (ltE tp n p))) := by
  refine x_enter mfX9_takeWord rfl (Nat.le_of_ble_eq_true rfl) (fun _ => ?_)
  have hWd : ∀ (K : Mem) (e : Int), e = ltE tp n p → p ≤ e → e ≤ n → K = uI I 42 2 e → ∀ (j k : Nat), 11 - k < j → k ≤ 11 → (∀ y, 0 ≤ y → y < (k : Int) → ¬ isWd tp p e y) → V G mX9_takeWord (d + 5) 0 0 59 [some (.inr (.inl 42)), some (.inl (p)), some (.inl ((k : Int)))] [] NO K P (qI NO (fun r I' P' => P' = P ∧ r = 4 + wdI tp p (ltE tp n p) ∧ I' = uI I 42 2 (ltE tp n p))) := by
    intro K e hee he0 he1 hK j
    induction j with
    | zero => intro k hj; omega
    | succ j ih =>
      intro k hj hk hv
      have kX : TX K tp n := by rw [hK]; exact hX.at
      have kq : K 42 2 = e := by rw [hK, uI_at rfl]
      refine x_iload_n (i := 2) dX9_takeWord_59 rfl rfl ?_
      refine y_bi dX9_takeWord_60 ⟨by decide, by decide⟩ ?_
      refine x_icmp_ge (tgt := 84) dX9_takeWord_62 rfl (fun h62 => ?_) (fun h62 => ?_)
      · refine y_ic dX9_takeWord_84 ⟨by decide, by decide⟩ ?_
        refine x_iret dX9_takeWord_85 rfl ?_
        exact ⟨rfl, by rw [← hee, wdI_no (fun y y0 y1 => hv y y0 (by omega))]; rfl, by rw [← hee]; exact hK⟩
      · refine y_aln (i := 0) dX9_takeWord_65 at42.ne0 rfl rfl ?_
        refine x_iload_n (i := 2) dX9_takeWord_66 rfl rfl ?_
        refine x_iload_n (i := 1) dX9_takeWord_67 rfl rfl ?_
        refine x_callVI (c_X9_isWord (k := k) (e := e) hW (by omega) kX kq ⟨hb.1, he0, he1⟩) dX9_takeWord_68 lkX9_48 mfX9_isWord cfX9 at42 rfl rfl rfl rfl (Nat.le_of_ble_eq_true rfl) (fun r68 I68 P68 hr68 hf68 => ?_)
        obtain ⟨i68, p68, q68⟩ := hf68
        rw [i68, p68]
        refine x_if_eq (tgt := 78) dX9_takeWord_71 rfl (fun h71 => ?_) (fun h71 => ?_)
        · have n71 := (q68.resolve_left (fun q => by have := q.1; omega)).2
          refine x_iinc dX9_takeWord_78 rfl ⟨by omega, by omega⟩ rfl (Nat.le_of_ble_eq_true rfl) ?_
          refine x_goto (tgt := 59) dX9_takeWord_81 rfl ?_
          refine x_keep [1, 1, 1] ?_
          have := ih (k + 1) (by omega) (by omega) (fun y y0 y1 => by
            by_cases z : y = (k : Int)
            · rw [z]; exact n71
            · exact hv y y0 (by omega))
          rw [show ((k + 1 : Nat) : Int) = (k : Int) + 1 by omega] at this
          exact this
        · have y71 := (q68.resolve_right (fun q => h71 q.1)).2
          refine y_ic dX9_takeWord_74 ⟨by decide, by decide⟩ ?_
          refine x_iload_n (i := 2) dX9_takeWord_75 rfl rfl ?_
          refine x_iadd dX9_takeWord_76 ⟨by omega, by omega⟩ ?_
          refine x_iret dX9_takeWord_77 rfl ?_
          exact ⟨rfl, by rw [← hee, wdI_is ⟨by omega, by omega⟩ y71], by rw [← hee]; exact hK⟩
  have hL : ∀ (j : Nat) (e : Int) (K : Mem), (n - e).toNat < j → p ≤ e → e ≤ n → (∀ i, p ≤ i → i < e → isLt tp i) → K = uI I 42 2 e → V G mX9_takeWord (d + 5) 0 0 5 [some (.inr (.inl 42)), some (.inl (p)), none] [] NO K P (qI NO (fun r I' P' => P' = P ∧ r = 4 + wdI tp p (ltE tp n p) ∧ I' = uI I 42 2 (ltE tp n p))) := by
    intro j
    induction j with
    | zero => intro e K hj; omega
    | succ j ih =>
      intro e K hj he0 he1 hv hK
      obtain ⟨k2, k1, k0, k7⟩ : TX K tp n := by rw [hK]; exact hX.at
      have kq : K 42 2 = e := by rw [hK, uI_at rfl]
      have hR : (e < n → ¬ isLt tp e) → V G mX9_takeWord (d + 5) 0 0 57 [some (.inr (.inl 42)), some (.inl (p)), none] [] NO K P (qI NO (fun r I' P' => P' = P ∧ r = 4 + wdI tp p (ltE tp n p) ∧ I' = uI I 42 2 (ltE tp n p))) := fun h => by
        have ee : e = ltE tp n p := (scS_is he0 (Or.inl he1) hv h).symm
        have := hWd K e ee he0 he1 hK 12 0 (by decide) (by decide) (fun y y0 y1 => by omega)
        refine y_ic dX9_takeWord_57 ⟨by decide, by decide⟩ ?_
        refine x_istore_n (i := 2) dX9_takeWord_58 rfl rfl (Nat.le_of_ble_eq_true rfl) ?_
        refine x_keep [1, 1, 1] ?_
        exact this
      refine y_aln (i := 0) dX9_takeWord_5 at42.ne0 rfl rfl ?_
      refine y_geti (z := 2) dX9_takeWord_6 frX9_29 cfX9 at42 rfl rfl ?_
      rw [kq]
      refine y_aln (i := 0) dX9_takeWord_9 at42.ne0 rfl rfl ?_
      refine y_geti (z := 1) dX9_takeWord_10 frX9_25 cfX9 at42 rfl rfl ?_
      rw [k1]
      refine x_icmp_ge (tgt := 57) dX9_takeWord_13 rfl (fun h13 => ?_) (fun h13 => ?_)
      · refine x_keep [1, 1, 0] ?_
        exact hR (fun z q => by have := q.1; have := q.2; omega)
      · refine y_aln (i := 0) dX9_takeWord_16 at42.ne0 rfl rfl ?_
        refine y_getp (z := 0) (v := 2) dX9_takeWord_17 frX9_21 cfX9 at42 rfl rfl (wp (v := 2) hW rfl rfl (by decide)) ?_
        refine y_aln (i := 0) dX9_takeWord_20 at42.ne0 rfl rfl ?_
        refine y_geti (z := 2) dX9_takeWord_21 frX9_29 cfX9 at42 rfl rfl ?_
        rw [kq]
        refine x_bald dX9_takeWord_24 ar2 ⟨by omega, by omega⟩ ?_
        rw [k2]
        refine y_bi dX9_takeWord_25 ⟨by decide, by decide⟩ ?_
        refine x_icmp_lt (tgt := 57) dX9_takeWord_27 rfl (fun h27 => ?_) (fun h27 => ?_)
        · refine x_keep [1, 1, 0] ?_
          exact hR (fun z q => by have := q.1; have := q.2; omega)
        · refine y_aln (i := 0) dX9_takeWord_30 at42.ne0 rfl rfl ?_
          refine y_getp (z := 0) (v := 2) dX9_takeWord_31 frX9_21 cfX9 at42 rfl rfl (wp (v := 2) hW rfl rfl (by decide)) ?_
          refine y_aln (i := 0) dX9_takeWord_34 at42.ne0 rfl rfl ?_
          refine y_geti (z := 2) dX9_takeWord_35 frX9_29 cfX9 at42 rfl rfl ?_
          rw [kq]
          refine x_bald dX9_takeWord_38 ar2 ⟨by omega, by omega⟩ ?_
          rw [k2]
          refine y_bi dX9_takeWord_39 ⟨by decide, by decide⟩ ?_
          refine x_icmp_gt (tgt := 57) dX9_takeWord_41 rfl (fun h41 => ?_) (fun h41 => ?_)
          · refine x_keep [1, 1, 0] ?_
            exact hR (fun z q => by have := q.1; have := q.2; omega)
          · refine y_aln (i := 0) dX9_takeWord_44 at42.ne0 rfl rfl ?_
            refine x_dup dX9_takeWord_45 rfl ?_
            refine y_geti (z := 2) dX9_takeWord_46 frX9_29 cfX9 at42 rfl rfl ?_
            rw [kq]
            refine y_ic dX9_takeWord_49 ⟨by decide, by decide⟩ ?_
            refine x_iadd dX9_takeWord_50 ⟨by omega, by omega⟩ ?_
            refine y_puti (z := 2) dX9_takeWord_51 frX9_29 cfX9 at42 rfl rfl rfl ?_
            refine x_goto (tgt := 5) dX9_takeWord_54 rfl ?_
            refine x_keep [1, 1, 0] ?_
            refine ih (e + 1) _ (by omega) (by omega) (by omega) (fun i i0 i1 => ?_) (by rw [hK, uI_uI])
            by_cases z : i = e
            · rw [z]; exact ⟨by omega, by omega⟩
            · exact hv i i0 (by omega)
  refine y_aln (i := 0) dX9_takeWord_0 at42.ne0 rfl rfl ?_
  refine y_geti (z := 2) dX9_takeWord_1 frX9_29 cfX9 at42 rfl rfl ?_
  rw [hp]
  refine x_istore_n (i := 1) dX9_takeWord_4 rfl rfl (Nat.le_of_ble_eq_true rfl) ?_
  refine x_keep [1, 1, 0] ?_
  exact hL _ p I (Nat.lt_succ_self _) (Int.le_refl _) (by omega) (fun i i0 i1 => by omega) (by rw [← hp]; exact uI_self.symm)
theorem c_X9_takeToken {p sz : Int} (hW : WP P) (hX : TX I tp n) (hp : I 42 2 = p) (hs : I 42 3 = sz) (hb : 0 ≤ p ∧ p < n) (hsz : 0 ≤ sz ∧ sz < 701) : Cv G mX9_takeToken (d + 6) 0 0 [.inr (.inl 42)] NO I P (qI NO (fun r I' P' => P' = P ∧ r = kdP tp n p ∧ (∀ a, a ≠ 42 → a ≠ 45 → I' a = I a) ∧ I' 42 = u1 (I 42) 2 (nxP tp n p) ∧ (∀ x, x ≠ sz → I' 45 x = I 45 x) ∧ (r = 2 → I' 45 sz = vlP tp n p))) := by
  obtain ⟨x2, x1, x0, x7⟩ := id hX
  refine x_enter mfX9_takeToken rfl (Nat.le_of_ble_eq_true rfl) (fun _ => ?_)
  refine y_aln (i := 0) dX9_takeToken_0 at42.ne0 rfl rfl ?_
  refine y_getp (z := 0) (v := 2) dX9_takeToken_1 frX9_21 cfX9 at42 rfl rfl (wp (v := 2) hW rfl rfl (by decide)) ?_
  refine y_aln (i := 0) dX9_takeToken_4 at42.ne0 rfl rfl ?_
  refine y_geti (z := 2) dX9_takeToken_5 frX9_29 cfX9 at42 rfl rfl ?_
  rw [hp]
  refine x_bald dX9_takeToken_8 ar2 ⟨by omega, by omega⟩ ?_
  rw [x2]
  refine x_istore_n (i := 1) dX9_takeToken_9 rfl rfl (Nat.le_of_ble_eq_true rfl) ?_
  refine x_iload_n (i := 1) dX9_takeToken_10 rfl rfl ?_
  refine y_bi dX9_takeToken_11 ⟨by decide, by decide⟩ ?_
  refine x_icmp_lt (tgt := 27) dX9_takeToken_13 rfl (fun h13 => ?_) (fun h13 => ?_)
  · refine x_iload_n (i := 1) dX9_takeToken_27 rfl rfl ?_
    refine y_bi dX9_takeToken_28 ⟨by decide, by decide⟩ ?_
    refine x_icmp_lt (tgt := 44) dX9_takeToken_30 rfl (fun h30 => ?_) (fun h30 => ?_)
    · refine y_aln (i := 0) dX9_takeToken_44 at42.ne0 rfl rfl ?_
      refine x_dup dX9_takeToken_45 rfl ?_
      refine y_geti (z := 2) dX9_takeToken_46 frX9_29 cfX9 at42 rfl rfl ?_
      rw [hp]
      refine y_ic dX9_takeToken_49 ⟨by decide, by decide⟩ ?_
      refine x_iadd dX9_takeToken_50 ⟨by omega, by omega⟩ ?_
      refine y_puti (z := 2) dX9_takeToken_51 frX9_29 cfX9 at42 rfl rfl rfl ?_
      refine x_iload_n (i := 1) dX9_takeToken_54 rfl rfl ?_
      refine y_bi dX9_takeToken_55 ⟨by decide, by decide⟩ ?_
      refine x_icmp_ne (tgt := 64) dX9_takeToken_57 rfl (fun h57 => ?_) (fun h57 => ?_)
      · have n59 : tp p ≠ 59 := h57
        refine y_ic dX9_takeToken_64 ⟨by decide, by decide⟩ ?_
        refine x_iret dX9_takeToken_65 rfl ?_
        first | (have z1 := e59; refine ⟨rfl, ?_, fun a a0 a1 => uI_ne a0, ?_, fun x hx => by rw [uI_ne (by decide)], fun q => absurd q (by decide)⟩; (unfold kdP; rw [if_neg (by omega), if_neg (fun q => by have := q.1; have := q.2; omega), if_neg (fun q => by have := q.1; have := q.2; omega), if_pos e59]); (rw [uI_eq]; unfold nxP; rw [if_neg (by omega), if_neg (fun q => by have := q.1; have := q.2; omega), if_neg (fun q => by have := q.1; have := q.2; omega)])) | (have z1 := n59; refine ⟨rfl, ?_, fun a a0 a1 => uI_ne a0, ?_, fun x hx => by rw [uI_ne (by decide)], fun q => absurd q (by decide)⟩; (unfold kdP; rw [if_neg (by omega), if_neg (fun q => by have := q.1; have := q.2; omega), if_neg (fun q => by have := q.1; have := q.2; omega), if_neg n59]); (rw [uI_eq]; unfold nxP; rw [if_neg (by omega), if_neg (fun q => by have := q.1; have := q.2; omega), if_neg (fun q => by have := q.1; have := q.2; omega)])) | fail "none"
      · have e59 : tp p = 59 := h57
        refine y_ic dX9_takeToken_60 ⟨by decide, by decide⟩ ?_
        refine x_goto (tgt := 65) dX9_takeToken_61 rfl ?_
        refine x_iret dX9_takeToken_65 rfl ?_
        first | (have z1 := e59; refine ⟨rfl, ?_, fun a a0 a1 => uI_ne a0, ?_, fun x hx => by rw [uI_ne (by decide)], fun q => absurd q (by decide)⟩; (unfold kdP; rw [if_neg (by omega), if_neg (fun q => by have := q.1; have := q.2; omega), if_neg (fun q => by have := q.1; have := q.2; omega), if_pos e59]); (rw [uI_eq]; unfold nxP; rw [if_neg (by omega), if_neg (fun q => by have := q.1; have := q.2; omega), if_neg (fun q => by have := q.1; have := q.2; omega)])) | (have z1 := n59; refine ⟨rfl, ?_, fun a a0 a1 => uI_ne a0, ?_, fun x hx => by rw [uI_ne (by decide)], fun q => absurd q (by decide)⟩; (unfold kdP; rw [if_neg (by omega), if_neg (fun q => by have := q.1; have := q.2; omega), if_neg (fun q => by have := q.1; have := q.2; omega), if_neg n59]); (rw [uI_eq]; unfold nxP; rw [if_neg (by omega), if_neg (fun q => by have := q.1; have := q.2; omega), if_neg (fun q => by have := q.1; have := q.2; omega)])) | fail "none"
    · refine x_iload_n (i := 1) dX9_takeToken_33 rfl rfl ?_
      refine y_bi dX9_takeToken_34 ⟨by decide, by decide⟩ ?_
      refine x_icmp_gt (tgt := 44) dX9_takeToken_36 rfl (fun h36 => ?_) (fun h36 => ?_)
      · refine y_aln (i := 0) dX9_takeToken_44 at42.ne0 rfl rfl ?_
        refine x_dup dX9_takeToken_45 rfl ?_
        refine y_geti (z := 2) dX9_takeToken_46 frX9_29 cfX9 at42 rfl rfl ?_
        rw [hp]
        refine y_ic dX9_takeToken_49 ⟨by decide, by decide⟩ ?_
        refine x_iadd dX9_takeToken_50 ⟨by omega, by omega⟩ ?_
        refine y_puti (z := 2) dX9_takeToken_51 frX9_29 cfX9 at42 rfl rfl rfl ?_
        refine x_iload_n (i := 1) dX9_takeToken_54 rfl rfl ?_
        refine y_bi dX9_takeToken_55 ⟨by decide, by decide⟩ ?_
        refine x_icmp_ne (tgt := 64) dX9_takeToken_57 rfl (fun h57 => ?_) (fun h57 => ?_)
        · have n59 : tp p ≠ 59 := h57
          refine y_ic dX9_takeToken_64 ⟨by decide, by decide⟩ ?_
          refine x_iret dX9_takeToken_65 rfl ?_
          first | (have z1 := e59; refine ⟨rfl, ?_, fun a a0 a1 => uI_ne a0, ?_, fun x hx => by rw [uI_ne (by decide)], fun q => absurd q (by decide)⟩; (unfold kdP; rw [if_neg (by omega), if_neg (fun q => by have := q.1; have := q.2; omega), if_neg (fun q => by have := q.1; have := q.2; omega), if_pos e59]); (rw [uI_eq]; unfold nxP; rw [if_neg (by omega), if_neg (fun q => by have := q.1; have := q.2; omega), if_neg (fun q => by have := q.1; have := q.2; omega)])) | (have z1 := n59; refine ⟨rfl, ?_, fun a a0 a1 => uI_ne a0, ?_, fun x hx => by rw [uI_ne (by decide)], fun q => absurd q (by decide)⟩; (unfold kdP; rw [if_neg (by omega), if_neg (fun q => by have := q.1; have := q.2; omega), if_neg (fun q => by have := q.1; have := q.2; omega), if_neg n59]); (rw [uI_eq]; unfold nxP; rw [if_neg (by omega), if_neg (fun q => by have := q.1; have := q.2; omega), if_neg (fun q => by have := q.1; have := q.2; omega)])) | fail "none"
        · have e59 : tp p = 59 := h57
          refine y_ic dX9_takeToken_60 ⟨by decide, by decide⟩ ?_
          refine x_goto (tgt := 65) dX9_takeToken_61 rfl ?_
          refine x_iret dX9_takeToken_65 rfl ?_
          first | (have z1 := e59; refine ⟨rfl, ?_, fun a a0 a1 => uI_ne a0, ?_, fun x hx => by rw [uI_ne (by decide)], fun q => absurd q (by decide)⟩; (unfold kdP; rw [if_neg (by omega), if_neg (fun q => by have := q.1; have := q.2; omega), if_neg (fun q => by have := q.1; have := q.2; omega), if_pos e59]); (rw [uI_eq]; unfold nxP; rw [if_neg (by omega), if_neg (fun q => by have := q.1; have := q.2; omega), if_neg (fun q => by have := q.1; have := q.2; omega)])) | (have z1 := n59; refine ⟨rfl, ?_, fun a a0 a1 => uI_ne a0, ?_, fun x hx => by rw [uI_ne (by decide)], fun q => absurd q (by decide)⟩; (unfold kdP; rw [if_neg (by omega), if_neg (fun q => by have := q.1; have := q.2; omega), if_neg (fun q => by have := q.1; have := q.2; omega), if_neg n59]); (rw [uI_eq]; unfold nxP; rw [if_neg (by omega), if_neg (fun q => by have := q.1; have := q.2; omega), if_neg (fun q => by have := q.1; have := q.2; omega)])) | fail "none"
      · refine y_aln (i := 0) dX9_takeToken_39 at42.ne0 rfl rfl ?_
        refine x_callVI (c_X9_takeWord (d := d) hW hX hp hb) dX9_takeToken_40 lkX9_45 mfX9_takeWord cfX9 at42 rfl rfl rfl rfl (Nat.le_of_ble_eq_true rfl) (fun r40 I40 P40 hr40 hf40 => ?_)
        obtain ⟨rfl, rfl, h40⟩ := hf40
        have w40 := wdI_in (tp := tp) (p := p) (e := ltE tp n p)
        refine x_iret dX9_takeToken_43 rfl ?_
        refine ⟨rfl, ?_, fun a a0 a1 => by rw [h40, uI_ne a0], ?_, fun x hx => by rw [h40, uI_ne (by decide)], fun q => by omega⟩
        · unfold kdP; rw [if_neg (by omega), if_pos ⟨by omega, by omega⟩]
        · rw [h40, uI_eq]; unfold nxP; rw [if_neg (by omega), if_pos ⟨by omega, by omega⟩]
  · refine x_iload_n (i := 1) dX9_takeToken_16 rfl rfl ?_
    refine y_bi dX9_takeToken_17 ⟨by decide, by decide⟩ ?_
    refine x_icmp_gt (tgt := 27) dX9_takeToken_19 rfl (fun h19 => ?_) (fun h19 => ?_)
    · refine x_iload_n (i := 1) dX9_takeToken_27 rfl rfl ?_
      refine y_bi dX9_takeToken_28 ⟨by decide, by decide⟩ ?_
      refine x_icmp_lt (tgt := 44) dX9_takeToken_30 rfl (fun h30 => ?_) (fun h30 => ?_)
      · refine y_aln (i := 0) dX9_takeToken_44 at42.ne0 rfl rfl ?_
        refine x_dup dX9_takeToken_45 rfl ?_
        refine y_geti (z := 2) dX9_takeToken_46 frX9_29 cfX9 at42 rfl rfl ?_
        rw [hp]
        refine y_ic dX9_takeToken_49 ⟨by decide, by decide⟩ ?_
        refine x_iadd dX9_takeToken_50 ⟨by omega, by omega⟩ ?_
        refine y_puti (z := 2) dX9_takeToken_51 frX9_29 cfX9 at42 rfl rfl rfl ?_
        refine x_iload_n (i := 1) dX9_takeToken_54 rfl rfl ?_
        refine y_bi dX9_takeToken_55 ⟨by decide, by decide⟩ ?_
        refine x_icmp_ne (tgt := 64) dX9_takeToken_57 rfl (fun h57 => ?_) (fun h57 => ?_)
        · have n59 : tp p ≠ 59 := h57
          refine y_ic dX9_takeToken_64 ⟨by decide, by decide⟩ ?_
          refine x_iret dX9_takeToken_65 rfl ?_
          first | (have z1 := e59; refine ⟨rfl, ?_, fun a a0 a1 => uI_ne a0, ?_, fun x hx => by rw [uI_ne (by decide)], fun q => absurd q (by decide)⟩; (unfold kdP; rw [if_neg (by omega), if_neg (fun q => by have := q.1; have := q.2; omega), if_neg (fun q => by have := q.1; have := q.2; omega), if_pos e59]); (rw [uI_eq]; unfold nxP; rw [if_neg (by omega), if_neg (fun q => by have := q.1; have := q.2; omega), if_neg (fun q => by have := q.1; have := q.2; omega)])) | (have z1 := n59; refine ⟨rfl, ?_, fun a a0 a1 => uI_ne a0, ?_, fun x hx => by rw [uI_ne (by decide)], fun q => absurd q (by decide)⟩; (unfold kdP; rw [if_neg (by omega), if_neg (fun q => by have := q.1; have := q.2; omega), if_neg (fun q => by have := q.1; have := q.2; omega), if_neg n59]); (rw [uI_eq]; unfold nxP; rw [if_neg (by omega), if_neg (fun q => by have := q.1; have := q.2; omega), if_neg (fun q => by have := q.1; have := q.2; omega)])) | fail "none"
        · have e59 : tp p = 59 := h57
          refine y_ic dX9_takeToken_60 ⟨by decide, by decide⟩ ?_
          refine x_goto (tgt := 65) dX9_takeToken_61 rfl ?_
          refine x_iret dX9_takeToken_65 rfl ?_
          first | (have z1 := e59; refine ⟨rfl, ?_, fun a a0 a1 => uI_ne a0, ?_, fun x hx => by rw [uI_ne (by decide)], fun q => absurd q (by decide)⟩; (unfold kdP; rw [if_neg (by omega), if_neg (fun q => by have := q.1; have := q.2; omega), if_neg (fun q => by have := q.1; have := q.2; omega), if_pos e59]); (rw [uI_eq]; unfold nxP; rw [if_neg (by omega), if_neg (fun q => by have := q.1; have := q.2; omega), if_neg (fun q => by have := q.1; have := q.2; omega)])) | (have z1 := n59; refine ⟨rfl, ?_, fun a a0 a1 => uI_ne a0, ?_, fun x hx => by rw [uI_ne (by decide)], fun q => absurd q (by decide)⟩; (unfold kdP; rw [if_neg (by omega), if_neg (fun q => by have := q.1; have := q.2; omega), if_neg (fun q => by have := q.1; have := q.2; omega), if_neg n59]); (rw [uI_eq]; unfold nxP; rw [if_neg (by omega), if_neg (fun q => by have := q.1; have := q.2; omega), if_neg (fun q => by have := q.1; have := q.2; omega)])) | fail "none"
      · refine x_iload_n (i := 1) dX9_takeToken_33 rfl rfl ?_
        refine y_bi dX9_takeToken_34 ⟨by decide, by decide⟩ ?_
        refine x_icmp_gt (tgt := 44) dX9_takeToken_36 rfl (fun h36 => ?_) (fun h36 => ?_)
        · refine y_aln (i := 0) dX9_takeToken_44 at42.ne0 rfl rfl ?_
          refine x_dup dX9_takeToken_45 rfl ?_
          refine y_geti (z := 2) dX9_takeToken_46 frX9_29 cfX9 at42 rfl rfl ?_
          rw [hp]
          refine y_ic dX9_takeToken_49 ⟨by decide, by decide⟩ ?_
          refine x_iadd dX9_takeToken_50 ⟨by omega, by omega⟩ ?_
          refine y_puti (z := 2) dX9_takeToken_51 frX9_29 cfX9 at42 rfl rfl rfl ?_
          refine x_iload_n (i := 1) dX9_takeToken_54 rfl rfl ?_
          refine y_bi dX9_takeToken_55 ⟨by decide, by decide⟩ ?_
          refine x_icmp_ne (tgt := 64) dX9_takeToken_57 rfl (fun h57 => ?_) (fun h57 => ?_)
          · have n59 : tp p ≠ 59 := h57
            refine y_ic dX9_takeToken_64 ⟨by decide, by decide⟩ ?_
            refine x_iret dX9_takeToken_65 rfl ?_
            first | (have z1 := e59; refine ⟨rfl, ?_, fun a a0 a1 => uI_ne a0, ?_, fun x hx => by rw [uI_ne (by decide)], fun q => absurd q (by decide)⟩; (unfold kdP; rw [if_neg (by omega), if_neg (fun q => by have := q.1; have := q.2; omega), if_neg (fun q => by have := q.1; have := q.2; omega), if_pos e59]); (rw [uI_eq]; unfold nxP; rw [if_neg (by omega), if_neg (fun q => by have := q.1; have := q.2; omega), if_neg (fun q => by have := q.1; have := q.2; omega)])) | (have z1 := n59; refine ⟨rfl, ?_, fun a a0 a1 => uI_ne a0, ?_, fun x hx => by rw [uI_ne (by decide)], fun q => absurd q (by decide)⟩; (unfold kdP; rw [if_neg (by omega), if_neg (fun q => by have := q.1; have := q.2; omega), if_neg (fun q => by have := q.1; have := q.2; omega), if_neg n59]); (rw [uI_eq]; unfold nxP; rw [if_neg (by omega), if_neg (fun q => by have := q.1; have := q.2; omega), if_neg (fun q => by have := q.1; have := q.2; omega)])) | fail "none"
          · have e59 : tp p = 59 := h57
            refine y_ic dX9_takeToken_60 ⟨by decide, by decide⟩ ?_
            refine x_goto (tgt := 65) dX9_takeToken_61 rfl ?_
            refine x_iret dX9_takeToken_65 rfl ?_
            first | (have z1 := e59; refine ⟨rfl, ?_, fun a a0 a1 => uI_ne a0, ?_, fun x hx => by rw [uI_ne (by decide)], fun q => absurd q (by decide)⟩; (unfold kdP; rw [if_neg (by omega), if_neg (fun q => by have := q.1; have := q.2; omega), if_neg (fun q => by have := q.1; have := q.2; omega), if_pos e59]); (rw [uI_eq]; unfold nxP; rw [if_neg (by omega), if_neg (fun q => by have := q.1; have := q.2; omega), if_neg (fun q => by have := q.1; have := q.2; omega)])) | (have z1 := n59; refine ⟨rfl, ?_, fun a a0 a1 => uI_ne a0, ?_, fun x hx => by rw [uI_ne (by decide)], fun q => absurd q (by decide)⟩; (unfold kdP; rw [if_neg (by omega), if_neg (fun q => by have := q.1; have := q.2; omega), if_neg (fun q => by have := q.1; have := q.2; omega), if_neg n59]); (rw [uI_eq]; unfold nxP; rw [if_neg (by omega), if_neg (fun q => by have := q.1; have := q.2; omega), if_neg (fun q => by have := q.1; have := q.2; omega)])) | fail "none"
        · refine y_aln (i := 0) dX9_takeToken_39 at42.ne0 rfl rfl ?_
          refine x_callVI (c_X9_takeWord (d := d) hW hX hp hb) dX9_takeToken_40 lkX9_45 mfX9_takeWord cfX9 at42 rfl rfl rfl rfl (Nat.le_of_ble_eq_true rfl) (fun r40 I40 P40 hr40 hf40 => ?_)
          obtain ⟨rfl, rfl, h40⟩ := hf40
          have w40 := wdI_in (tp := tp) (p := p) (e := ltE tp n p)
          refine x_iret dX9_takeToken_43 rfl ?_
          refine ⟨rfl, ?_, fun a a0 a1 => by rw [h40, uI_ne a0], ?_, fun x hx => by rw [h40, uI_ne (by decide)], fun q => by omega⟩
          · unfold kdP; rw [if_neg (by omega), if_pos ⟨by omega, by omega⟩]
          · rw [h40, uI_eq]; unfold nxP; rw [if_neg (by omega), if_pos ⟨by omega, by omega⟩]
    · refine y_aln (i := 0) dX9_takeToken_22 at42.ne0 rfl rfl ?_
      refine x_callVI (c_X9_takeNumber hW hX hp hs hb hsz) dX9_takeToken_23 lkX9_42 mfX9_takeNumber cfX9 at42 rfl rfl rfl rfl (Nat.le_of_ble_eq_true rfl) (fun r23 I23 P23 hr23 hf23 => ?_)
      obtain ⟨rfl, rfl, h23⟩ := hf23
      refine x_iret dX9_takeToken_26 rfl ?_
      refine ⟨rfl, ?_, fun a a0 a1 => by rw [h23, uI_ne a1, uI_ne a0], ?_, fun x hx => by rw [h23, uI_eq, u1_ne hx, uI_ne (by decide)], fun _ => by rw [h23, uI_eq, u1_eq]⟩
      · unfold kdP; rw [if_neg (by omega), if_neg (fun q => by have := q.1; omega), if_pos ⟨by omega, by omega⟩]
      · rw [h23, uI_ne (by decide), uI_eq]; unfold nxP; rw [if_neg (by omega), if_neg (fun q => by have := q.1; omega), if_pos ⟨by omega, by omega⟩]
theorem c_X9_cut (hW : WP P) (hn : 0 ≤ n ∧ n ≤ 700) : Cv G mX9_cut (d + 7) 0 0 [.inr (.inl 42), .inl n] NO I P (qV (fun n' I' P' => n' = NO ∧ P' = P ∧ Fc sK I I' ∧ ∃ m, TKC I' (tkS (I 2) n) m)) := by
  obtain ⟨tp, etp⟩ : ∃ tp, tp = I 2 := ⟨_, rfl⟩
  refine x_enter mfX9_cut rfl (Nat.le_of_ble_eq_true rfl) (fun _ => ?_)
  have hL : ∀ (j : Nat) (i : Int) (K : Mem), (n - psS tp n i).toNat < j → 0 ≤ i → Fc sK I K → TX K tp n → K 42 3 = i → K 42 2 = plS tp n (psS tp n i) → (∀ y, 0 ≤ y → y < i → K 43 y = tkS tp n 0 y ∧ K 44 y = tkS tp n 1 y ∧ (tkS tp n 0 y = 2 → K 45 y = tkS tp n 2 y) ∧ tkS tp n 0 y ≠ 0) → V G mX9_cut (d + 7) 0 0 36 [some (.inr (.inl 42)), none] [] NO K P (qV (fun n' I' P' => n' = NO ∧ P' = P ∧ Fc sK I I' ∧ ∃ m, TKC I' (tkS (I 2) n) m)) := by
    intro j
    induction j with
    | zero => intro i K hj; omega
    | succ j ih =>
      intro i K hj hi kF kX k3 kq hv
      obtain ⟨k2, k1, k0, k7⟩ := id kX
      have b1 := ps_bd (tp := tp) hn.1 hi
      have b2 := plS_bd (tp := tp) b1.2
      have hin : i ≤ psS tp n i := by
        by_cases z : i = 0
        · omega
        · have h1 := (tk_lt (tp := tp) hn.1 (i := i - 1) (by omega) (hv (i - 1) (by omega) (by omega)).2.2.2).1
          rw [Int.sub_add_cancel] at h1
          exact h1
      have es := ps_s (tp := tp) (n := n) hi
      have t0 : tkS tp n 0 i = kdP tp n (plS tp n (psS tp n i)) := tk_0
      have t1 : tkS tp n 1 i = plS tp n (psS tp n i) := tk_1
      have t2 : tkS tp n 2 i = vlP tp n (plS tp n (psS tp n i)) := tk_2
      have te := tk_end (tp := tp) hn.1 hi
      have hE : n ≤ plS tp n (psS tp n i) → V G mX9_cut (d + 7) 0 0 100 [some (.inr (.inl 42)), none] [] NO K P (qV (fun n' I' P' => n' = NO ∧ P' = P ∧ Fc sK I I' ∧ ∃ m, TKC I' (tkS (I 2) n) m)) := fun hend => by
        have e0 : tkS tp n 0 i = 0 := te.mpr (by rw [t1]; omega)
        refine y_aln (i := 0) dX9_cut_100 at42.ne0 rfl rfl ?_
        refine y_getp (z := 5) (v := 44) dX9_cut_101 frX9_15 cfX9 at42 rfl rfl (wp (v := 44) hW rfl rfl (by decide)) ?_
        refine y_aln (i := 0) dX9_cut_104 at42.ne0 rfl rfl ?_
        refine y_geti (z := 3) dX9_cut_105 frX9_32 cfX9 at42 rfl rfl ?_
        rw [k3]
        refine y_aln (i := 0) dX9_cut_108 at42.ne0 rfl rfl ?_
        refine y_geti (z := 1) dX9_cut_109 frX9_25 cfX9 at42 rfl rfl ?_
        rw [k1]
        refine x_iast dX9_cut_112 ar44 ⟨by omega, by omega⟩ ?_
        refine y_aln (i := 0) dX9_cut_113 at42.ne0 rfl rfl ?_
        refine y_getp (z := 4) (v := 43) dX9_cut_114 frX9_9 cfX9 at42 rfl rfl (wp (v := 43) hW rfl rfl (by decide)) ?_
        refine y_aln (i := 0) dX9_cut_117 at42.ne0 rfl rfl ?_
        refine y_geti (z := 3) dX9_cut_118 frX9_32 cfX9 at42 rfl rfl ?_
        rw [uI_ne (by decide), k3]
        refine y_ic dX9_cut_121 ⟨by decide, by decide⟩ ?_
        refine x_iast dX9_cut_122 ar43 ⟨by omega, by omega⟩ ?_
        refine x_vret dX9_cut_123 rfl ?_
        refine ⟨rfl, rfl, (kF.ui (Or.inr (Or.inr (Or.inl rfl)))).ui (Or.inr (Or.inl rfl)), i, ?_⟩
        rw [← etp]
        refine ⟨⟨hi, by omega⟩, fun y y0 y1 => ?_, fun y y0 y1 => (hv y y0 y1).2.2.2, fun y y1 => ?_⟩
        · have m43 : uI (uI K 44 i n) 43 i 0 43 = u1 (K 43) i 0 := by rw [uI_eq, uI_ne (by decide)]
          have m44 : uI (uI K 44 i n) 43 i 0 44 = u1 (K 44) i n := by rw [uI_ne (by decide), uI_eq]
          have m45 : uI (uI K 44 i n) 43 i 0 45 = K 45 := by rw [uI_ne (by decide), uI_ne (by decide)]
          rw [m43, m44, m45]
          by_cases z : y = i
          · rw [z, u1_eq, u1_eq]
            exact ⟨e0.symm, by rw [t1]; omega, fun q => by omega⟩
          · rw [u1_ne z, u1_ne z]
            have := hv y y0 (by omega)
            exact ⟨this.1, this.2.1, this.2.2.1⟩
        · have st : ∀ m, 0 ≤ m → tkS tp n 0 (i + m) = 0 := fun m hm => int_ind (p := fun m => tkS tp n 0 (i + m) = 0) (by rw [Int.add_zero]; exact e0) (fun q hq ihq => by rw [← Int.add_assoc]; exact tk_stay hn.1 (by omega) ihq) m hm
          have s1 := st (y - i) (by omega)
          rw [show i + (y - i) = y by omega] at s1
          exact ⟨s1, by rw [(tk_end hn.1 (by omega)).mp s1, te.mp e0]⟩
      refine y_aln (i := 0) dX9_cut_36 at42.ne0 rfl rfl ?_
      refine y_geti (z := 2) dX9_cut_37 frX9_29 cfX9 at42 rfl rfl ?_
      rw [kq]
      refine y_aln (i := 0) dX9_cut_40 at42.ne0 rfl rfl ?_
      refine y_geti (z := 1) dX9_cut_41 frX9_25 cfX9 at42 rfl rfl ?_
      rw [k1]
      refine x_icmp_ge (tgt := 100) dX9_cut_44 rfl (fun h44 => ?_) (fun h44 => ?_)
      · refine x_keep [1, 0] ?_
        exact hE (by omega)
      · refine y_aln (i := 0) dX9_cut_47 at42.ne0 rfl rfl ?_
        refine y_geti (z := 3) dX9_cut_48 frX9_32 cfX9 at42 rfl rfl ?_
        rw [k3]
        refine y_si dX9_cut_51 ⟨by decide, by decide⟩ ?_
        refine x_icmp_ge (tgt := 100) dX9_cut_54 rfl (fun h54 => ?_) (fun h54 => ?_)
        · omega
        · refine y_aln (i := 0) dX9_cut_57 at42.ne0 rfl rfl ?_
          refine y_getp (z := 5) (v := 44) dX9_cut_58 frX9_15 cfX9 at42 rfl rfl (wp (v := 44) hW rfl rfl (by decide)) ?_
          refine y_aln (i := 0) dX9_cut_61 at42.ne0 rfl rfl ?_
          refine y_geti (z := 3) dX9_cut_62 frX9_32 cfX9 at42 rfl rfl ?_
          rw [k3]
          refine y_aln (i := 0) dX9_cut_65 at42.ne0 rfl rfl ?_
          refine y_geti (z := 2) dX9_cut_66 frX9_29 cfX9 at42 rfl rfl ?_
          rw [kq]
          refine x_iast dX9_cut_69 ar44 ⟨by omega, by omega⟩ ?_
          refine y_aln (i := 0) dX9_cut_70 at42.ne0 rfl rfl ?_
          refine y_getp (z := 4) (v := 43) dX9_cut_71 frX9_9 cfX9 at42 rfl rfl (wp (v := 43) hW rfl rfl (by decide)) ?_
          refine y_aln (i := 0) dX9_cut_74 at42.ne0 rfl rfl ?_
          refine y_geti (z := 3) dX9_cut_75 frX9_32 cfX9 at42 rfl rfl ?_
          rw [uI_ne (by decide), k3]
          refine y_aln (i := 0) dX9_cut_78 at42.ne0 rfl rfl ?_
          refine x_callVI (c_X9_takeToken (d := d) (tp := tp) (n := n) (p := plS tp n (psS tp n i)) (sz := i) hW ⟨by rw [uI_ne (by decide)]; exact k2, by rw [uI_ne (by decide)]; exact k1, k0, k7⟩ (by rw [uI_ne (by decide)]; exact kq) (by rw [uI_ne (by decide)]; exact k3) ⟨by omega, by omega⟩ ⟨by omega, by omega⟩) dX9_cut_79 lkX9_38 mfX9_takeToken cfX9 at42 rfl rfl rfl rfl (Nat.le_of_ble_eq_true rfl) (fun r79 I79 P79 hr79 hf79 => ?_)
          obtain ⟨rfl, e79, o79, a79, v79, w79⟩ := hf79
          have hnz : tkS tp n 0 i ≠ 0 := fun q => by have := te.mp q; rw [t1] at this; omega
          have f42 : ∀ x, x ≠ 2 → I79 42 x = K 42 x := fun x hx => by rw [a79, u1_ne hx, uI_ne (by decide)]
          have f422 : I79 42 2 = psS tp n (i + 1) := by rw [a79, u1_eq, es]
          have F79 : Fc sK I I79 := fun a ha => by rw [o79 a (fun e => ha (Or.inl e)) (fun e => ha (Or.inr (Or.inr (Or.inr e)))), uI_ne (fun e => ha (Or.inr (Or.inr (Or.inl e))))]; exact kF a ha
          refine x_iast dX9_cut_82 ar43 ⟨by omega, by omega⟩ ?_
          refine y_aln (i := 0) dX9_cut_83 at42.ne0 rfl rfl ?_
          refine x_dup dX9_cut_84 rfl ?_
          refine y_geti (z := 3) dX9_cut_85 frX9_32 cfX9 at42 rfl rfl ?_
          rw [uI_ne (by decide), f42 3 (by decide), k3]
          refine y_ic dX9_cut_88 ⟨by decide, by decide⟩ ?_
          refine x_iadd dX9_cut_89 ⟨by omega, by omega⟩ ?_
          refine y_puti (z := 3) dX9_cut_90 frX9_32 cfX9 at42 rfl rfl rfl ?_
          have F93 : Fc sK I (uI (uI I79 43 i r79) 42 3 (i + 1)) := (F79.ui (Or.inr (Or.inl rfl))).ui (Or.inl rfl)
          have X93 : TX (uI (uI I79 43 i r79) 42 3 (i + 1)) tp n := ⟨by rw [uI_ne (by decide), uI_ne (by decide), o79 2 (by decide) (by decide), uI_ne (by decide)]; exact k2, by rw [uI_eq, u1_ne (by decide), uI_ne (by decide), f42 1 (by decide)]; exact k1, k0, k7⟩
          have q93 : uI (uI I79 43 i r79) 42 3 (i + 1) 42 2 = psS tp n (i + 1) := by rw [uI_eq, u1_ne (by decide), uI_ne (by decide)]; exact f422
          have b93 := ps_bd (tp := tp) (n := n) (i := i + 1) hn.1 (by omega)
          refine y_aln (i := 0) dX9_cut_93 at42.ne0 rfl rfl ?_
          refine x_callVV (c_X9_passBlanks hW X93 q93 b93) dX9_cut_94 lkX9_35 mfX9_passBlanks cfX9 at42 rfl rfl rfl rfl (Nat.le_of_ble_eq_true rfl) (fun n94 I94 P94 hf94 => ?_)
          obtain ⟨rfl, rfl, rfl⟩ := hf94
          refine x_goto (tgt := 36) dX9_cut_97 rfl ?_
          refine x_keep [1, 0] ?_
          refine ih (i + 1) _ ?_ (by omega) (F93.ui (Or.inl rfl)) X93.at (by rw [uI_eq, u1_ne (by decide), uI_eq, u1_eq]) (by rw [uI_eq, u1_eq]) (fun y y0 y1 => ?_)
          · have h1 := nxP_bd (tp := tp) b2.2
            have h2 := h1.2.2 (by omega)
            rw [es]
            omega
          · have m43 : uI (uI (uI I79 43 i r79) 42 3 (i + 1)) 42 2 (plS tp n (psS tp n (i + 1))) 43 = u1 (K 43) i r79 := by rw [uI_ne (by decide), uI_ne (by decide), uI_eq, o79 43 (by decide) (by decide), uI_ne (by decide)]
            have m44 : uI (uI (uI I79 43 i r79) 42 3 (i + 1)) 42 2 (plS tp n (psS tp n (i + 1))) 44 = u1 (K 44) i (plS tp n (psS tp n i)) := by rw [uI_ne (by decide), uI_ne (by decide), uI_ne (by decide), o79 44 (by decide) (by decide), uI_eq]
            have m45 : uI (uI (uI I79 43 i r79) 42 3 (i + 1)) 42 2 (plS tp n (psS tp n (i + 1))) 45 = I79 45 := by rw [uI_ne (by decide), uI_ne (by decide), uI_ne (by decide)]
            rw [m43, m44, m45]
            by_cases z : y = i
            · rw [z, u1_eq, u1_eq]
              exact ⟨e79.trans t0.symm, t1.symm, fun q => (w79 (by rw [e79, ← t0]; exact q)).trans t2.symm, hnz⟩
            · rw [u1_ne z, u1_ne z, v79 y z, uI_ne (by decide)]
              exact hv y y0 (by omega)
  have h19 : ∀ v, v = n → V G mX9_cut (d + 7) 0 0 19 [some (.inr (.inl 42)), none] [.inl v, .inr (.inl 42)] NO I P (qV (fun n' I' P' => n' = NO ∧ P' = P ∧ Fc sK I I' ∧ ∃ m, TKC I' (tkS (I 2) n) m)) := fun v hv => by
    subst hv
    refine y_puti (z := 1) dX9_cut_19 frX9_25 cfX9 at42 rfl rfl rfl ?_
    refine y_aln (i := 0) dX9_cut_22 at42.ne0 rfl rfl ?_
    refine y_ic dX9_cut_23 ⟨by decide, by decide⟩ ?_
    refine y_puti (z := 2) dX9_cut_24 frX9_29 cfX9 at42 rfl rfl rfl ?_
    refine y_aln (i := 0) dX9_cut_27 at42.ne0 rfl rfl ?_
    refine y_ic dX9_cut_28 ⟨by decide, by decide⟩ ?_
    refine y_puti (z := 3) dX9_cut_29 frX9_32 cfX9 at42 rfl rfl rfl ?_
    refine y_aln (i := 0) dX9_cut_32 at42.ne0 rfl rfl ?_
    refine x_callVV (c_X9_passBlanks (tp := tp) (n := v) (q := 0) hW ⟨by rw [uI_ne (by decide), uI_ne (by decide), uI_ne (by decide), etp], by rw [uI_eq, u1_ne (by decide), uI_eq, u1_ne (by decide), uI_eq, u1_eq], hn.1, hn.2⟩ (by rw [uI_eq, u1_ne (by decide), uI_eq, u1_eq]) ⟨Int.le_refl 0, hn.1⟩) dX9_cut_33 lkX9_35 mfX9_passBlanks cfX9 at42 rfl rfl rfl rfl (Nat.le_of_ble_eq_true rfl) (fun n33 I33 P33 hf33 => ?_)
    obtain ⟨rfl, rfl, rfl⟩ := hf33
    refine x_keep [1, 0] ?_
    exact hL _ 0 _ (Nat.lt_succ_self _) (Int.le_refl 0) ((((Fc.rf.ui (Or.inl rfl)).ui (Or.inl rfl)).ui (Or.inl rfl)).ui (Or.inl rfl)) (TX.at ⟨by rw [uI_ne (by decide), uI_ne (by decide), uI_ne (by decide), etp], by rw [uI_eq, u1_ne (by decide), uI_eq, u1_ne (by decide), uI_eq, u1_eq], hn.1, hn.2⟩) (by rw [uI_eq, u1_ne (by decide), uI_eq, u1_eq]) (by rw [uI_eq, u1_eq, ps_0]) (fun y y0 y1 => by omega)
  refine y_aln (i := 0) dX9_cut_0 at42.ne0 rfl rfl ?_
  refine x_iload_n (i := 1) dX9_cut_1 rfl rfl ?_
  refine y_aln (i := 0) dX9_cut_2 at42.ne0 rfl rfl ?_
  refine y_getp (z := 0) (v := 2) dX9_cut_3 frX9_21 cfX9 at42 rfl rfl (wp (v := 2) hW rfl rfl (by decide)) ?_
  refine x_alen (t := 2) (by decide) dX9_cut_6 ar2 (by decide) ?_
  refine x_icmp_ge (tgt := 14) dX9_cut_7 rfl (fun h7 => ?_) (fun h7 => ?_)
  · refine y_aln (i := 0) dX9_cut_14 at42.ne0 rfl rfl ?_
    refine y_getp (z := 0) (v := 2) dX9_cut_15 frX9_21 cfX9 at42 rfl rfl (wp (v := 2) hW rfl rfl (by decide)) ?_
    refine x_alen (t := 2) (by decide) dX9_cut_18 ar2 (by decide) ?_
    refine x_keep [1, 0] ?_
    first | exact h19 n rfl | exact h19 _ (by omega) | fail "none"
  · refine x_iload_n (i := 1) dX9_cut_10 rfl rfl ?_
    refine x_goto (tgt := 19) dX9_cut_11 rfl ?_
    refine x_keep [1, 0] ?_
    first | exact h19 n rfl | exact h19 _ (by omega) | fail "none"
end

