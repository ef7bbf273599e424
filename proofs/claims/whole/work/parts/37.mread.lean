/-! ===== the reference: the tape, tokens ===== -/
theorem shl5_64 {x : Int} (hx : 0 ≤ x ∧ x < 1125899906842624) : oL x <<< ((oI 5).toInt64 &&& 63) = oL (32 * x) := by
  obtain ⟨n, rfl⟩ := Int.eq_ofNat_of_zero_le hx.1
  have e : ((oI 5).toInt64 &&& 63) = (5 : Int64) := by decide
  rw [e]
  apply Int64.toBitVec_inj.mp
  show (BitVec.ofInt 64 (n : Int)) <<< ((5 : Int64).toBitVec.smod 64) = BitVec.ofInt 64 (32 * (n : Int))
  have e2 : ((5 : Int64).toBitVec.smod 64) = 5#64 := by decide
  rw [e2, show (32 * (n : Int)) = ((32 * n : Nat) : Int) by omega, BitVec.ofInt_natCast, BitVec.ofInt_natCast]
  apply BitVec.eq_of_toNat_eq
  rw [BitVec.shiftLeft_eq', BitVec.toNat_shiftLeft, show (5#64).toNat = 5 from rfl, Nat.shiftLeft_eq, BitVec.toNat_ofNat, BitVec.toNat_ofNat]
  omega
theorem lor5_64 {a b : Int} (ha : 0 ≤ a ∧ a < 1125899906842624) (hb : 0 ≤ b ∧ b < 32) : oL (32 * a) ||| oL b = oL (32 * a + b) := by
  obtain ⟨n, rfl⟩ := Int.eq_ofNat_of_zero_le ha.1
  obtain ⟨m, rfl⟩ := Int.eq_ofNat_of_zero_le hb.1
  apply Int64.toBitVec_inj.mp
  rw [Int64.toBitVec_or]
  show (BitVec.ofInt 64 (32 * (n : Int))) ||| (BitVec.ofInt 64 (m : Int)) = BitVec.ofInt 64 (32 * (n : Int) + (m : Int))
  rw [show (32 * (n : Int) + (m : Int)) = ((32 * n + m : Nat) : Int) by omega, show (32 * (n : Int)) = ((32 * n : Nat) : Int) by omega, BitVec.ofInt_natCast, BitVec.ofInt_natCast, BitVec.ofInt_natCast]
  apply BitVec.eq_of_toNat_eq
  rw [BitVec.toNat_or, BitVec.toNat_ofNat, BitVec.toNat_ofNat, BitVec.toNat_ofNat, Nat.mod_eq_of_lt (by omega), Nat.mod_eq_of_lt (by omega), Nat.mod_eq_of_lt (by omega)]
  have := Nat.two_pow_add_eq_or_of_lt (i := 5) (b := m) (by omega) n
  rw [show 2 ^ 5 = 32 from rfl] at this
  exact this.symm
section
variable {G : HX} {Y : MI} {d kc ks pc : Nat} {lv : LV} {st : List AV} {n : Nat} {I : Mem} {P : Ptr} {Q : QT}
theorem y_lshl5 {x : Int} (hd : decode Y.2.1 pc = .ok (.lshl, 1)) (hx : 0 ≤ x ∧ x < 1125899906842624) (k : V G Y d kc ks (pc + 1) lv (.inr (.inr (32 * x)) :: st) n I P Q) : V G Y d kc ks pc lv (.inl 5 :: .inr (.inr x) :: st) n I P Q := x_lshl (32 * x) hd (shl5_64 hx) ⟨by omega, by omega⟩ k
theorem y_lor5 {a b : Int} (hd : decode Y.2.1 pc = .ok (.lor, 1)) (ha : 0 ≤ a ∧ a < 1125899906842624) (hb : 0 ≤ b ∧ b < 32) (k : V G Y d kc ks (pc + 1) lv (.inr (.inr (32 * a + b)) :: st) n I P Q) : V G Y d kc ks pc lv (.inr (.inr b) :: .inr (.inr (32 * a)) :: st) n I P Q := x_lor (32 * a + b) hd (lor5_64 ha hb) ⟨by omega, by omega⟩ k
end
theorem cmpI_0 {x y : Int} : cmpI x y = 0 ↔ x = y := by
  unfold cmpI
  split
  · exact ⟨fun h => absurd h (by decide), fun h => by omega⟩
  · split
    · exact ⟨fun _ => by assumption, fun _ => rfl⟩
    · exact ⟨fun h => absurd h (by decide), fun h => by omega⟩
/-- a byte of a number -/
def byS (v k : Int) : Int := andF (shrF v k) 255
theorem byS_bd (v k : Int) : 0 ≤ byS v k ∧ byS v k ≤ 255 := andF_bd (x := shrF v k) 255
def fdS (a b c d e j : Int) : Int := byS (if j < 4 then a else if j < 8 then b else if j < 12 then c else if j < 16 then d else e) (24 - 8 * (j % 4))
/-- the tape, how much of it is read -/
def LX (K : Mem) (tp : Rw) (n : Int) : Prop := K 91 20 = n ∧ (0 ≤ n ∧ n ≤ 700) ∧ ∀ c, 0 ≤ c → c < n → K 100 c = tp c ∧ 0 ≤ tp c ∧ tp c ≤ 255
theorem LX.fr {S : List Nat} {F : List Int} {I J : Mem} {tp : Rw} {n : Int} (h : LX I tp n) (hf : Fr S F I J) (h1 : (20 : Int) ∉ F := by decide) (h2 : (100 : Nat) ∉ S := by decide) : LX J tp n := by
  unfold LX
  rw [hf.2 _ h1, hf.1 100 (by decide) h2]
  exact h
/-- the token at hand -/
def KR (K : Mem) (tk : Tn) (i : Int) : Prop := (K 91 22 = 0 ↔ tk 0 i = 0) ∧ (K 91 22 = 3 ↔ tk 0 i = 1) ∧ (K 91 22 = 2 ↔ tk 0 i = 2) ∧ (0 ≤ K 91 25 ∧ K 91 25 ≤ 9999) ∧ (tk 0 i = 2 → (4 < K 91 24 ∧ tk 2 i = -1) ∨ (K 91 24 ≤ 4 ∧ tk 2 i = K 91 25)) ∧ ∀ w, 0 ≤ w → w < 11 → ((K 91 22 = 1 ∧ K 91 24 < 7 ∧ K 91 26 = ltS w) ↔ tk 0 i = 4 + w)
def TKR (K : Mem) (tp : Rw) (n i : Int) : Prop := LX K tp n ∧ K 91 21 = psS tp n (i + 1) ∧ K 91 23 = tkS tp n 1 i ∧ KR K (tkS tp n) i
abbrev lxF : List Int := [21, 22, 23, 24, 25, 26]
section
variable {G : HX} {d : Nat} {I : Mem} {P : Ptr} {T : Tn}
theorem c_X12_lays {v : Int} (hW : WP P) (ht : 0 ≤ I 91 17 ∧ I 91 17 + 4 ≤ 700) : Cv G mX12_lays d 0 0 [.inr (.inl 91), .inl v] NO I P (qV (fun n' I' P' => n' = NO ∧ P' = P ∧ Fr [100] [17] I I' ∧ I' 91 17 = I 91 17 + 4 ∧ ∀ c, I' 100 c = if I 91 17 ≤ c ∧ c < I 91 17 + 4 then byS v (24 - 8 * (c - I 91 17)) else I 100 c)) := by
  obtain ⟨t, ht0⟩ : ∃ t, t = I 91 17 := ⟨_, rfl⟩
  rw [← ht0] at ht
  refine x_enter mfX12_lays rfl (Nat.le_of_ble_eq_true rfl) (fun _ => ?_)
  have hL : ∀ (j : Nat) (k : Int) (K : Mem), (4 - k).toNat < j → 0 ≤ k → k ≤ 4 → K 91 17 = t + k → (∀ c, K 100 c = if t ≤ c ∧ c < t + k then byS v (24 - 8 * (c - t)) else I 100 c) → Fr [100] [17] I K → V G mX12_lays d 0 0 3 [some (.inr (.inl 91)), some (.inl (v)), some (.inl (24 - 8 * k))] [] NO K P (qV (fun n' I' P' => n' = NO ∧ P' = P ∧ Fr [100] [17] I I' ∧ I' 91 17 = I 91 17 + 4 ∧ ∀ c, I' 100 c = if I 91 17 ≤ c ∧ c < I 91 17 + 4 then byS v (24 - 8 * (c - I 91 17)) else I 100 c)) := by
    intro j
    induction j with
    | zero => intro k K hj; omega
    | succ j ih =>
      intro k K hj hk hk2 h17 hc hFr
      refine x_iload_n (i := 2) dX12_lays_3 rfl rfl ?_
      refine x_if_lt (tgt := 39) dX12_lays_4 rfl (fun h4 => ?_) (fun h4 => ?_)
      · refine x_vret dX12_lays_39 rfl ?_
        rw [← ht0]
        exact ⟨rfl, rfl, hFr, by rw [h17]; omega, fun c => by rw [hc, show k = 4 by omega]⟩
      · refine y_aln (i := 0) dX12_lays_7 at91.ne0 rfl rfl ?_
        refine y_getp (z := 16) (v := 100) dX12_lays_8 frX12_44 cfX12 at91 rfl rfl (wp (v := 100) hW rfl rfl (by decide)) ?_
        refine y_aln (i := 0) dX12_lays_11 at91.ne0 rfl rfl ?_
        refine y_geti (z := 17) dX12_lays_12 frX12_187 cfX12 at91 rfl rfl ?_
        refine x_iload_n (i := 1) dX12_lays_15 rfl rfl ?_
        refine x_iload_n (i := 2) dX12_lays_16 rfl rfl ?_
        refine y_ishr dX12_lays_17 ?_
        refine y_si dX12_lays_18 ⟨by decide, by decide⟩ ?_
        refine y_iand dX12_lays_21 ?_
        refine x_iast dX12_lays_22 ar100 ⟨by omega, by omega⟩ ?_
        refine y_aln (i := 0) dX12_lays_23 at91.ne0 rfl rfl ?_
        refine x_dup dX12_lays_24 rfl ?_
        refine y_geti (z := 17) dX12_lays_25 frX12_187 cfX12 at91 rfl rfl ?_
        refine y_ic dX12_lays_28 ⟨by decide, by decide⟩ ?_
        refine x_iadd dX12_lays_29 (by rw [uI_ne (by decide)]; exact ⟨by omega, by omega⟩) ?_
        rw [uI_ne (by decide)]
        refine y_puti (z := 17) dX12_lays_30 frX12_187 cfX12 at91 rfl rfl rfl ?_
        refine x_iinc dX12_lays_33 rfl ⟨by omega, by omega⟩ rfl (Nat.le_of_ble_eq_true rfl) ?_
        refine x_goto (tgt := 3) dX12_lays_36 rfl ?_
        refine x_keep [1, 1, 1] ?_
        obtain ⟨J, hJ⟩ : ∃ J, J = uI (uI K 100 (K 91 17) (andF (shrF v (24 - 8 * k)) 255)) 91 17 (K 91 17 + 1) := ⟨_, rfl⟩
        rw [← hJ]
        have := ih (k + 1) J (by omega) (by omega) (by omega) (by rw [hJ, uI_eq, u1_eq, h17]; omega) (fun c => by
          rw [hJ, uI_ne (by decide), uI_eq, h17]
          by_cases e : c = t + k
          · rw [e, u1_eq, if_pos (by omega), show t + k - t = k by omega]; rfl
          · rw [u1_ne e, hc]
            by_cases q : t ≤ c ∧ c < t + k
            · rw [if_pos q, if_pos (by omega)]
            · rw [if_neg q, if_neg (by omega)]) (by rw [hJ]; exact (hFr.ui (by decide) (by decide)).uf (by decide))
        rw [show 24 - 8 * (k + 1) = 24 - 8 * k + -8 by omega] at this
        exact this
  refine y_bi dX12_lays_0 ⟨by decide, by decide⟩ ?_
  refine x_istore_n (i := 2) dX12_lays_2 rfl rfl (Nat.le_of_ble_eq_true rfl) ?_
  refine x_keep [1, 1, 1] ?_
  exact hL _ 0 I (Nat.lt_succ_self _) (by decide) (by decide) (by omega) (fun c => by rw [if_neg (by omega)]) Fr.rf
theorem c_X12_feed {a b c x e : Int} (hW : WP P) (ht : 0 ≤ I 91 17 ∧ I 91 17 ≤ 700) : Cv G mX12_feed (d + 1) 0 0 [.inr (.inl 91), .inl a, .inl b, .inl c, .inl x, .inl e] NO I P (qI NO (fun r I' P' => P' = P ∧ ((700 < I 91 17 + 20 ∧ r = -1 ∧ I' = uI I 91 0 0) ∨ (I 91 17 + 20 ≤ 700 ∧ r = I 91 17 + 20 ∧ I' 91 0 = 0 ∧ I' 91 17 = I 91 17 + 20 ∧ Fr [100] [0, 17] I I' ∧ ∀ j, 0 ≤ j → j < 700 → I' 100 j = if I 91 17 ≤ j ∧ j < I 91 17 + 20 then fdS a b c x e (j - I 91 17) else I 100 j)))) := by
  obtain ⟨t, ht0⟩ : ∃ t, t = I 91 17 := ⟨_, rfl⟩
  have k17 : uI I 91 0 0 91 17 = t := by rw [uI_eq, u1_ne (by decide), ht0]
  have k100 : uI I 91 0 0 100 = I 100 := uI_ne (by decide)
  rw [← ht0] at ht
  refine x_enter mfX12_feed rfl (Nat.le_of_ble_eq_true rfl) (fun _ => ?_)
  refine y_aln (i := 0) dX12_feed_0 at91.ne0 rfl rfl ?_
  refine y_ic dX12_feed_1 ⟨by decide, by decide⟩ ?_
  refine y_puti (z := 0) dX12_feed_2 frX12_184 cfX12 at91 rfl rfl rfl ?_
  refine y_aln (i := 0) dX12_feed_5 at91.ne0 rfl rfl ?_
  refine y_geti (z := 17) dX12_feed_6 frX12_187 cfX12 at91 rfl rfl ?_
  refine y_bi dX12_feed_9 ⟨by decide, by decide⟩ ?_
  refine x_iadd dX12_feed_11 (by rw [k17]; exact ⟨by omega, by omega⟩) ?_
  refine y_si dX12_feed_12 ⟨by decide, by decide⟩ ?_
  rw [k17]
  refine x_icmp_le (tgt := 20) dX12_feed_15 rfl (fun h15 => ?_) (fun h15 => ?_)
  · refine y_aln (i := 0) dX12_feed_20 at91.ne0 rfl rfl ?_
    refine x_iload_n (i := 1) dX12_feed_21 rfl rfl ?_
    refine x_callVV (c_X12_lays hW (by rw [k17]; omega)) dX12_feed_22 lkX12_190 mfX12_lays cfX12 at91 rfl rfl rfl rfl (Nat.le_of_ble_eq_true rfl) (fun n22 I22 P22 hf22 => ?_)
    rw [k17] at hf22
    obtain ⟨rfl, rfl, f1, t1, c1⟩ := hf22
    refine y_aln (i := 0) dX12_feed_25 at91.ne0 rfl rfl ?_
    refine x_iload_n (i := 2) dX12_feed_26 rfl rfl ?_
    refine x_callVV (c_X12_lays hW (by rw [t1]; omega)) dX12_feed_27 lkX12_190 mfX12_lays cfX12 at91 rfl rfl rfl rfl (Nat.le_of_ble_eq_true rfl) (fun n27 I27 P27 hf27 => ?_)
    rw [t1] at hf27
    obtain ⟨rfl, rfl, f2, t2, c2⟩ := hf27
    refine y_aln (i := 0) dX12_feed_30 at91.ne0 rfl rfl ?_
    refine x_iload_n (i := 3) dX12_feed_31 rfl rfl ?_
    refine x_callVV (c_X12_lays hW (by rw [t2]; omega)) dX12_feed_32 lkX12_190 mfX12_lays cfX12 at91 rfl rfl rfl rfl (Nat.le_of_ble_eq_true rfl) (fun n32 I32 P32 hf32 => ?_)
    rw [t2] at hf32
    obtain ⟨rfl, rfl, f3, t3, c3⟩ := hf32
    refine y_aln (i := 0) dX12_feed_35 at91.ne0 rfl rfl ?_
    refine x_iload (i := 4) dX12_feed_36 rfl ?_
    refine x_callVV (c_X12_lays hW (by rw [t3]; omega)) dX12_feed_38 lkX12_190 mfX12_lays cfX12 at91 rfl rfl rfl rfl (Nat.le_of_ble_eq_true rfl) (fun n38 I38 P38 hf38 => ?_)
    rw [t3] at hf38
    obtain ⟨rfl, rfl, f4, t4, c4⟩ := hf38
    refine y_aln (i := 0) dX12_feed_41 at91.ne0 rfl rfl ?_
    refine x_iload (i := 5) dX12_feed_42 rfl ?_
    refine x_callVV (c_X12_lays hW (by rw [t4]; omega)) dX12_feed_44 lkX12_190 mfX12_lays cfX12 at91 rfl rfl rfl rfl (Nat.le_of_ble_eq_true rfl) (fun n44 I44 P44 hf44 => ?_)
    rw [t4] at hf44
    obtain ⟨rfl, rfl, f5, t5, c5⟩ := hf44
    have fr := f1.tr (f2.tr (f3.tr (f4.tr f5)))
    have z0 : I44 91 0 = 0 := by rw [fr.2 0 (by decide), uI_eq, u1_eq]
    have fr0 : Fr [100] [0, 17] I I44 := (Fr.rf.uf (by decide)).tr (fr.mo (by decide) (by decide))
    refine y_aln (i := 0) dX12_feed_47 at91.ne0 rfl rfl ?_
    refine y_geti (z := 17) dX12_feed_48 frX12_187 cfX12 at91 rfl rfl ?_
    rw [t5]
    refine x_iret dX12_feed_51 rfl ?_
    refine ⟨rfl, Or.inr ⟨by omega, by omega, z0, by omega, fr0, fun j j0 j1 => ?_⟩⟩
    rw [← ht0, c5, c4, c3, c2, c1, k100]
    unfold fdS
    by_cases q : t ≤ j ∧ j < t + 20
    · rw [if_pos q]
      by_cases q1 : j < t + 4
      · rw [if_neg (by omega), if_neg (by omega), if_neg (by omega), if_neg (by omega), if_pos (by omega), if_pos (by omega)]
        congr 1; omega
      · by_cases q2 : j < t + 8
        · rw [if_neg (by omega), if_neg (by omega), if_neg (by omega), if_pos (by omega), if_neg (by omega), if_pos (by omega)]
          congr 1; omega
        · by_cases q3 : j < t + 12
          · rw [if_neg (by omega), if_neg (by omega), if_pos (by omega), if_neg (by omega), if_neg (by omega), if_pos (by omega)]
            congr 1; omega
          · by_cases q4 : j < t + 16
            · rw [if_neg (by omega), if_pos (by omega), if_neg (by omega), if_neg (by omega), if_neg (by omega), if_pos (by omega)]
              congr 1; omega
            · rw [if_pos (by omega), if_neg (by omega), if_neg (by omega), if_neg (by omega), if_neg (by omega)]
              congr 1; omega
    · rw [if_neg q, if_neg (by omega), if_neg (by omega), if_neg (by omega), if_neg (by omega), if_neg (by omega)]
  · refine y_ic dX12_feed_18 ⟨by decide, by decide⟩ ?_
    refine x_iret dX12_feed_19 rfl ?_
    exact ⟨rfl, Or.inl ⟨by omega, rfl, rfl⟩⟩
theorem c_X12_byteAt {tp : Rw} {n k : Int} (hW : WP P) (hL : LX I tp n) (hk : 0 ≤ k) : Cv G mX12_byteAt d 0 0 [.inr (.inl 91), .inl k] NO I P (qI NO (fun r I' P' => I' = I ∧ P' = P ∧ r = if k < n then tp k else 0)) := by
  obtain ⟨l1, l2, l3⟩ := hL
  refine x_enter mfX12_byteAt rfl (Nat.le_of_ble_eq_true rfl) (fun _ => ?_)
  refine x_iload_n (i := 1) dX12_byteAt_0 rfl rfl ?_
  refine y_aln (i := 0) dX12_byteAt_1 at91.ne0 rfl rfl ?_
  refine y_geti (z := 20) dX12_byteAt_2 frX12_194 cfX12 at91 rfl rfl ?_
  refine x_icmp_ge (tgt := 17) dX12_byteAt_5 rfl (fun h5 => ?_) (fun h5 => ?_)
  · refine y_ic dX12_byteAt_17 ⟨by decide, by decide⟩ ?_
    refine x_iret dX12_byteAt_18 rfl ?_
    first | exact ⟨rfl, rfl, by rw [if_pos (by omega)]; exact (l3 k hk (by omega)).1⟩ | exact ⟨rfl, rfl, by rw [if_neg (by omega)]⟩
  · refine y_aln (i := 0) dX12_byteAt_8 at91.ne0 rfl rfl ?_
    refine y_getp (z := 16) (v := 100) dX12_byteAt_9 frX12_44 cfX12 at91 rfl rfl (wp (v := 100) hW rfl rfl (by decide)) ?_
    refine x_iload_n (i := 1) dX12_byteAt_12 rfl rfl ?_
    refine x_iald dX12_byteAt_13 ar100 ⟨by omega, by omega⟩ ?_
    refine x_goto (tgt := 18) dX12_byteAt_14 rfl ?_
    refine x_iret dX12_byteAt_18 rfl ?_
    first | exact ⟨rfl, rfl, by rw [if_pos (by omega)]; exact (l3 k hk (by omega)).1⟩ | exact ⟨rfl, rfl, by rw [if_neg (by omega)]⟩
theorem c_X12_isLetter {c : Int} : Cv G mX12_isLetter d 0 0 [.inl c] NO I P (qI NO (fun r I' P' => I' = I ∧ P' = P ∧ ((r = 1 ∧ 97 ≤ c ∧ c ≤ 122) ∨ (r = 0 ∧ ¬ (97 ≤ c ∧ c ≤ 122))))) := by
  refine x_enter mfX12_isLetter rfl (Nat.le_of_ble_eq_true rfl) (fun _ => ?_)
  refine x_iload_n (i := 0) dX12_isLetter_0 rfl rfl ?_
  refine y_bi dX12_isLetter_1 ⟨by decide, by decide⟩ ?_
  refine x_icmp_lt (tgt := 16) dX12_isLetter_3 rfl (fun h3 => ?_) (fun h3 => ?_)
  · refine y_ic dX12_isLetter_16 ⟨by decide, by decide⟩ ?_
    refine x_zret dX12_isLetter_17 (by omega) rfl ?_
    exact ⟨rfl, rfl, by omega⟩
  · refine x_iload_n (i := 0) dX12_isLetter_6 rfl rfl ?_
    refine y_bi dX12_isLetter_7 ⟨by decide, by decide⟩ ?_
    refine x_icmp_gt (tgt := 16) dX12_isLetter_9 rfl (fun h9 => ?_) (fun h9 => ?_)
    · refine y_ic dX12_isLetter_16 ⟨by decide, by decide⟩ ?_
      refine x_zret dX12_isLetter_17 (by omega) rfl ?_
      exact ⟨rfl, rfl, by omega⟩
    · refine y_ic dX12_isLetter_12 ⟨by decide, by decide⟩ ?_
      refine x_goto (tgt := 17) dX12_isLetter_13 rfl ?_
      refine x_zret dX12_isLetter_17 (by omega) rfl ?_
      exact ⟨rfl, rfl, by omega⟩
theorem c_X12_isDigit {c : Int} : Cv G mX12_isDigit d 0 0 [.inl c] NO I P (qI NO (fun r I' P' => I' = I ∧ P' = P ∧ ((r = 1 ∧ 48 ≤ c ∧ c ≤ 57) ∨ (r = 0 ∧ ¬ (48 ≤ c ∧ c ≤ 57))))) := by
  refine x_enter mfX12_isDigit rfl (Nat.le_of_ble_eq_true rfl) (fun _ => ?_)
  refine x_iload_n (i := 0) dX12_isDigit_0 rfl rfl ?_
  refine y_bi dX12_isDigit_1 ⟨by decide, by decide⟩ ?_
  refine x_icmp_lt (tgt := 16) dX12_isDigit_3 rfl (fun h3 => ?_) (fun h3 => ?_)
  · refine y_ic dX12_isDigit_16 ⟨by decide, by decide⟩ ?_
    refine x_zret dX12_isDigit_17 (by omega) rfl ?_
    exact ⟨rfl, rfl, by omega⟩
  · refine x_iload_n (i := 0) dX12_isDigit_6 rfl rfl ?_
    refine y_bi dX12_isDigit_7 ⟨by decide, by decide⟩ ?_
    refine x_icmp_gt (tgt := 16) dX12_isDigit_9 rfl (fun h9 => ?_) (fun h9 => ?_)
    · refine y_ic dX12_isDigit_16 ⟨by decide, by decide⟩ ?_
      refine x_zret dX12_isDigit_17 (by omega) rfl ?_
      exact ⟨rfl, rfl, by omega⟩
    · refine y_ic dX12_isDigit_12 ⟨by decide, by decide⟩ ?_
      refine x_goto (tgt := 17) dX12_isDigit_13 rfl ?_
      refine x_zret dX12_isDigit_17 (by omega) rfl ?_
      exact ⟨rfl, rfl, by omega⟩
theorem c_X12_goes {tp : Rw} {n i : Int} (hW : WP P) (hL : LX I tp n) (hi : 0 ≤ i) (hq : I 91 21 = psS tp n i) : Cv G mX12_goes (d + 1) 0 0 [.inr (.inl 91)] NO I P (qV (fun n' I' P' => n' = NO ∧ P' = P ∧ Fr [] lxF I I' ∧ TKR I' tp n i)) := by
  have hn := hL.2.1
  have hps := ps_bd (tp := tp) hn.1 hi
  refine x_enter mfX12_goes rfl (Nat.le_of_ble_eq_true rfl) (fun _ => ?_)
  obtain ⟨p, hp⟩ : ∃ p, p = plS tp n (psS tp n i) := ⟨_, rfl⟩
  have hpb := plS_bd (tp := tp) hps.2
  have hnp := nxP_bd (tp := tp) hpb.2
  have ek0 : tkS tp n 0 i = kdP tp n p := by rw [tk_0, hp]
  have ek1 : tkS tp n 1 i = p := by rw [tk_1, hp]
  have ek2 : tkS tp n 2 i = vlP tp n p := by rw [tk_2, hp]
  have epn : psS tp n (i + 1) = nxP tp n p := by rw [ps_s hi, hp]
  rw [← hp] at hpb hnp
  have hE : ∀ K : Mem, Fr [] lxF I K → K 91 21 = nxP tp n p → K 91 23 = p → (∀ v : Int, v = nxP tp n p - p → KR (uI K 91 24 v) (tkS tp n) i) → V G mX12_goes (d + 1) 0 0 278 [some (.inr (.inl 91)), none] [] NO K P (qV (fun n' I' P' => n' = NO ∧ P' = P ∧ Fr [] lxF I I' ∧ TKR I' tp n i)) := fun K hFr h21 h23 hKR => by
    refine y_aln (i := 0) dX12_goes_278 at91.ne0 rfl rfl ?_
    refine y_aln (i := 0) dX12_goes_279 at91.ne0 rfl rfl ?_
    refine y_geti (z := 21) dX12_goes_280 frX12_197 cfX12 at91 rfl rfl ?_
    refine y_aln (i := 0) dX12_goes_283 at91.ne0 rfl rfl ?_
    refine y_geti (z := 23) dX12_goes_284 frX12_204 cfX12 at91 rfl rfl ?_
    refine x_isub dX12_goes_287 ⟨by omega, by omega⟩ ?_
    refine y_puti (z := 24) dX12_goes_288 frX12_224 cfX12 at91 rfl rfl rfl ?_
    refine x_vret dX12_goes_291 rfl ?_
    have hFr2 : Fr [] lxF I (uI K 91 24 (K 91 21 - K 91 23)) := hFr.uf (by decide)
    exact ⟨rfl, rfl, hFr2, hL.fr hFr2, by rw [uI_eq, u1_ne (by decide), h21, epn], by rw [uI_eq, u1_ne (by decide), h23, ek1], hKR _ (by omega)⟩
  have hLt : p < n → isLt tp p → ∀ (j : Nat) (q : Int) (K : Mem), (n - q).toNat < j → p ≤ q → q ≤ n → (∀ x, p ≤ x → x < q → isLt tp x) → Fr [] lxF I K → K 91 21 = q → K 91 23 = p → K 91 25 = 0 → K 91 26 = pkS (fun i => tp (p + i) - 96) (min 8 (q - p)) → V G mX12_goes (d + 1) 0 0 103 [some (.inr (.inl 91)), none] [] NO K P (qV (fun n' I' P' => n' = NO ∧ P' = P ∧ Fr [] lxF I I' ∧ TKR I' tp n i)) := by
    intro hpn hlp j
    induction j with
    | zero => intro q K hj; omega
    | succ j ih =>
      intro q K hj hq0 hqn hl hFr h21 h23 h25 h26
      have hLK := hL.fr hFr
      have hw : ∀ x, 0 ≤ x → x < min 8 (q - p) → 1 ≤ tp (p + x) - 96 ∧ tp (p + x) - 96 ≤ 31 := fun x x0 x1 => by have := hl (p + x) (by omega) (by omega); omega
      have hw1 := pk_nn hw
      have hw2 : pkS (fun i => tp (p + i) - 96) (min 8 (q - p)) < 1125899906842624 := by
        have e0 : pkS (fun i => tp (p + i) - 96) 0 = 0 := rfl
        have key : ∀ m, 0 ≤ m → m ≤ min 8 (q - p) → (m = 0 → pkS (fun i => tp (p + i) - 96) m < 1) ∧ (m ≤ 1 → pkS (fun i => tp (p + i) - 96) m < 32) ∧ (m ≤ 2 → pkS (fun i => tp (p + i) - 96) m < 1024) ∧ (m ≤ 3 → pkS (fun i => tp (p + i) - 96) m < 32768) ∧ (m ≤ 4 → pkS (fun i => tp (p + i) - 96) m < 1048576) ∧ (m ≤ 5 → pkS (fun i => tp (p + i) - 96) m < 33554432) ∧ (m ≤ 6 → pkS (fun i => tp (p + i) - 96) m < 1073741824) ∧ (m ≤ 7 → pkS (fun i => tp (p + i) - 96) m < 34359738368) ∧ pkS (fun i => tp (p + i) - 96) m < 1099511627776 := fun m hm => int_ind (p := fun m => m ≤ min 8 (q - p) → (m = 0 → pkS (fun i => tp (p + i) - 96) m < 1) ∧ (m ≤ 1 → pkS (fun i => tp (p + i) - 96) m < 32) ∧ (m ≤ 2 → pkS (fun i => tp (p + i) - 96) m < 1024) ∧ (m ≤ 3 → pkS (fun i => tp (p + i) - 96) m < 32768) ∧ (m ≤ 4 → pkS (fun i => tp (p + i) - 96) m < 1048576) ∧ (m ≤ 5 → pkS (fun i => tp (p + i) - 96) m < 33554432) ∧ (m ≤ 6 → pkS (fun i => tp (p + i) - 96) m < 1073741824) ∧ (m ≤ 7 → pkS (fun i => tp (p + i) - 96) m < 34359738368) ∧ pkS (fun i => tp (p + i) - 96) m < 1099511627776) (fun _ => by rw [e0]; omega) (fun k hk ihk hh => by
          have h1 := ihk (by omega)
          have h2 := hw k hk (by omega)
          have h3 : pkS (fun i => tp (p + i) - 96) (k + 1) = 32 * pkS (fun i => tp (p + i) - 96) k + (tp (p + k) - 96) := pkS_s hk
          omega) m hm
        have := key (min 8 (q - p)) (by omega) (Int.le_refl _)
        omega
      have hc := fun (z : q < n) => hL.2.2 q (by omega) z
      have hend : (q < n → ¬ isLt tp q) → q = ltE tp n p := fun z => (scS_is (p := isLt tp) (n := n) (q := p) hq0 (Or.inl hqn) hl z).symm
      have nx : ∀ (w : Int) (K' : Mem), q < n → isLt tp q → w = pkS (fun i => tp (p + i) - 96) (min 8 (q + 1 - p)) → K' 91 26 = w → Fr [] lxF I K' → K' 91 21 = q → K' 91 23 = p → K' 91 25 = 0 → V G mX12_goes (d + 1) 0 0 154 [some (.inr (.inl 91)), none] [] NO K' P (qV (fun n' I' P' => n' = NO ∧ P' = P ∧ Fr [] lxF I I' ∧ TKR I' tp n i)) := fun w K' z z2 hw h26' hFr' h21' h23' h25' => by
        refine y_aln (i := 0) dX12_goes_154 at91.ne0 rfl rfl ?_
        refine x_dup dX12_goes_155 rfl ?_
        refine y_geti (z := 21) dX12_goes_156 frX12_197 cfX12 at91 rfl rfl ?_
        refine y_ic dX12_goes_159 ⟨by decide, by decide⟩ ?_
        refine x_iadd dX12_goes_160 (by rw [h21']; exact ⟨by omega, by omega⟩) ?_
        refine y_puti (z := 21) dX12_goes_161 frX12_197 cfX12 at91 rfl rfl rfl ?_
        refine x_goto (tgt := 103) dX12_goes_164 rfl ?_
        refine x_keep [1, 0] ?_
        exact ih (q + 1) _ (by omega) (by omega) (by omega) (fun x x0 x1 => by
          by_cases e : x = q
          · rw [e]; exact z2
          · exact hl x x0 (by omega)) (hFr'.uf (by decide)) (by rw [uI_eq, u1_eq, h21']) (by rw [uI_eq, u1_ne (by decide)]; exact h23') (by rw [uI_eq, u1_ne (by decide)]; exact h25') (by rw [uI_eq, u1_ne (by decide), h26', hw])
      have estep : q - p < 8 → pkS (fun i => tp (p + i) - 96) (min 8 (q + 1 - p)) = 32 * pkS (fun i => tp (p + i) - 96) (min 8 (q - p)) + (tp q - 96) := fun z => by
        rw [show min 8 (q + 1 - p) = min 8 (q - p) + 1 by omega, pkS_s (by omega), show p + min 8 (q - p) = q by omega]
      have eskip : ¬ q - p < 8 → pkS (fun i => tp (p + i) - 96) (min 8 (q + 1 - p)) = pkS (fun i => tp (p + i) - 96) (min 8 (q - p)) := fun z => by
        rw [show min 8 (q + 1 - p) = min 8 (q - p) by omega]
      obtain ⟨w, hw0⟩ : ∃ w, w = pkS (fun i => tp (p + i) - 96) (min 8 (q - p)) := ⟨_, rfl⟩
      have hw3 := hw0
      rw [← hw0] at hw1 hw2 h26 estep eskip
      refine y_aln (i := 0) dX12_goes_103 at91.ne0 rfl rfl ?_
      refine y_aln (i := 0) dX12_goes_104 at91.ne0 rfl rfl ?_
      refine y_geti (z := 21) dX12_goes_105 frX12_197 cfX12 at91 rfl rfl ?_
      refine x_callVI (c_X12_byteAt hW hLK (by omega)) dX12_goes_108 lkX12_200 mfX12_byteAt cfX12 at91 rfl rfl rfl rfl (Nat.le_of_ble_eq_true rfl) (fun r108 I108 P108 hr108 hf108 => ?_)
      obtain ⟨i108, p108, q108⟩ := hf108
      rw [i108, p108, q108]
      rw [h21]
      refine x_callSI (c_X12_isLetter) dX12_goes_111 lkX12_217 mfX12_isLetter rfl rfl rfl (Nat.le_of_ble_eq_true rfl) (fun r111 I111 P111 hr111 hf111 => ?_)
      obtain ⟨i111, p111, q111⟩ := hf111
      rw [i111, p111]
      refine x_if_eq (tgt := 167) dX12_goes_114 rfl (fun h114 => ?_) (fun h114 => ?_)
      · have hnl : q < n → ¬ isLt tp q := fun z => by rw [if_pos z] at q111; exact (q111.resolve_left (fun y => by have := y.1; omega)).2
        have he := hend hnl
        refine y_aln (i := 0) dX12_goes_167 at91.ne0 rfl rfl ?_
        refine y_ic dX12_goes_168 ⟨by decide, by decide⟩ ?_
        refine y_puti (z := 22) dX12_goes_169 frX12_214 cfX12 at91 rfl rfl rfl ?_
        refine x_goto (tgt := 278) dX12_goes_172 rfl ?_
        refine x_keep [1, 0] ?_
        have en : nxP tp n p = q := by unfold nxP; rw [if_neg (by omega), if_pos hlp, he]
        have ekd : kdP tp n p = 4 + wdI tp p q := by unfold kdP; rw [if_neg (by omega), if_pos hlp, ← he]
        refine hE _ (hFr.uf (by decide)) (by rw [uI_eq, u1_ne (by decide), h21, en]) (by rw [uI_eq, u1_ne (by decide)]; exact h23) (fun v hv => ?_)
        have hin := wdI_in (tp := tp) (p := p) (e := q)
        have a22 : uI (uI K 91 22 1) 91 24 v 91 22 = 1 := by rw [uI_eq, u1_ne (by decide), uI_eq, u1_eq]
        have a24 : uI (uI K 91 22 1) 91 24 v 91 24 = v := by rw [uI_eq, u1_eq]
        have a25 : uI (uI K 91 22 1) 91 24 v 91 25 = 0 := by rw [uI_eq, u1_ne (by decide), uI_eq, u1_ne (by decide)]; exact h25
        have a26 : uI (uI K 91 22 1) 91 24 v 91 26 = w := by rw [uI_eq, u1_ne (by decide), uI_eq, u1_ne (by decide)]; exact h26
        unfold KR
        rw [a22, a24, a25, a26, ek0, ekd]
        refine ⟨by omega, by omega, by omega, by omega, fun z => by omega, fun x x0 x1 => ?_⟩
        have hwp := wd_pack (tp := tp) (p := p) (e := q) (k := x) ⟨x0, x1⟩ hq0 hl
        constructor
        · rintro ⟨-, z1, z2⟩
          have : wdI tp p q = x := wdI_is ⟨x0, x1⟩ (hwp.mpr ⟨by omega, by rw [← z2, hw3, show min 8 (q - p) = q - p by omega]⟩)
          omega
        · intro z
          have hx : wdI tp p q = x := by omega
          have h1 := hin.resolve_left (fun y => by have := y.1; omega)
          rw [hx] at h1
          have h2 := hwp.mp h1.2
          exact ⟨rfl, by omega, by rw [hw3, ← h2.2, show min 8 (q - p) = q - p by omega]⟩
      · have hlq : q < n ∧ isLt tp q := by
          have h := (q111.resolve_right (fun y => by have := y.1; omega)).2
          by_cases z : q < n
          · rw [if_pos z] at h; exact ⟨z, h⟩
          · rw [if_neg z] at h; omega
        have htl := hlq.2
        refine y_aln (i := 0) dX12_goes_117 at91.ne0 rfl rfl ?_
        refine y_geti (z := 21) dX12_goes_118 frX12_197 cfX12 at91 rfl rfl ?_
        refine y_aln (i := 0) dX12_goes_121 at91.ne0 rfl rfl ?_
        refine y_geti (z := 23) dX12_goes_122 frX12_204 cfX12 at91 rfl rfl ?_
        refine x_isub dX12_goes_125 ⟨by omega, by omega⟩ ?_
        refine y_bi dX12_goes_126 ⟨by decide, by decide⟩ ?_
        refine x_icmp_ge (tgt := 154) dX12_goes_128 rfl (fun h128 => ?_) (fun h128 => ?_)
        · have ge8 : ¬ q - p < 8 := by omega
          refine x_keep [1, 0] ?_
          first | (have z := lt8; exact nx _ (uI K 91 26 (32 * w + (tp q - 96))) hlq.1 hlq.2 (estep lt8).symm (by rw [uI_eq, u1_eq]) (hFr.uf (by decide)) (by rw [uI_eq, u1_ne (by decide)]; exact h21) (by rw [uI_eq, u1_ne (by decide)]; exact h23) (by rw [uI_eq, u1_ne (by decide)]; exact h25)) | (have z := ge8; exact nx w K hlq.1 hlq.2 (eskip ge8).symm h26 hFr h21 h23 h25)
        · have lt8 : q - p < 8 := by omega
          refine y_aln (i := 0) dX12_goes_131 at91.ne0 rfl rfl ?_
          refine y_aln (i := 0) dX12_goes_132 at91.ne0 rfl rfl ?_
          refine y_getl (z := 26) dX12_goes_133 frX12_207 cfX12 at91 rfl rfl ?_
          rw [h26]
          refine y_ic dX12_goes_136 ⟨by decide, by decide⟩ ?_
          refine y_lshl5 dX12_goes_137 ⟨by omega, by omega⟩ ?_
          refine y_aln (i := 0) dX12_goes_138 at91.ne0 rfl rfl ?_
          refine y_aln (i := 0) dX12_goes_139 at91.ne0 rfl rfl ?_
          refine y_geti (z := 21) dX12_goes_140 frX12_197 cfX12 at91 rfl rfl ?_
          refine x_callVI (c_X12_byteAt hW hLK (by omega)) dX12_goes_143 lkX12_200 mfX12_byteAt cfX12 at91 rfl rfl rfl rfl (Nat.le_of_ble_eq_true rfl) (fun r143 I143 P143 hr143 hf143 => ?_)
          obtain ⟨i143, p143, q143⟩ := hf143
          rw [i143, p143, q143]
          rw [h21, if_pos hlq.1]
          refine y_bi dX12_goes_146 ⟨by decide, by decide⟩ ?_
          refine x_isub dX12_goes_148 ⟨by omega, by omega⟩ ?_
          refine x_i2l dX12_goes_149 ?_
          refine y_lor5 dX12_goes_150 ⟨by omega, by omega⟩ ⟨by omega, by omega⟩ ?_
          refine y_putl (z := 26) dX12_goes_151 frX12_207 cfX12 at91 rfl rfl rfl ?_
          refine x_keep [1, 0] ?_
          first | (have z := lt8; exact nx _ (uI K 91 26 (32 * w + (tp q - 96))) hlq.1 hlq.2 (estep lt8).symm (by rw [uI_eq, u1_eq]) (hFr.uf (by decide)) (by rw [uI_eq, u1_ne (by decide)]; exact h21) (by rw [uI_eq, u1_ne (by decide)]; exact h23) (by rw [uI_eq, u1_ne (by decide)]; exact h25)) | (have z := ge8; exact nx w K hlq.1 hlq.2 (eskip ge8).symm h26 hFr h21 h23 h25)
  have hDg : p < n → ¬ isLt tp p → isDg tp p → ∀ (j : Nat) (q : Int) (K : Mem), (n - q).toNat < j → p ≤ q → q ≤ n → (∀ x, p ≤ x → x < q → isDg tp x) → Fr [] lxF I K → K 91 21 = q → K 91 23 = p → K 91 25 = dgN tp p (min 4 (q - p)) → (0 ≤ K 91 25 ∧ (q - p ≤ 0 → K 91 25 ≤ 0) ∧ (q - p ≤ 1 → K 91 25 ≤ 9) ∧ (q - p ≤ 2 → K 91 25 ≤ 99) ∧ (q - p ≤ 3 → K 91 25 ≤ 999) ∧ K 91 25 ≤ 9999) → V G mX12_goes (d + 1) 0 0 182 [some (.inr (.inl 91)), none] [] NO K P (qV (fun n' I' P' => n' = NO ∧ P' = P ∧ Fr [] lxF I I' ∧ TKR I' tp n i)) := by
    intro hpn hnl hdp j
    induction j with
    | zero => intro q K hj; omega
    | succ j ih =>
      intro q K hj hq0 hqn hl hFr h21 h23 h25 hv
      have hLK := hL.fr hFr
      have hend : (q < n → ¬ isDg tp q) → q = dgE tp n p := fun z => (scS_is (p := isDg tp) (n := n) (q := p) hq0 (Or.inl hqn) hl z).symm
      have estep : q - p < 4 → dgN tp p (min 4 (q + 1 - p)) = 10 * dgN tp p (min 4 (q - p)) + tp q - 48 := fun z => by
        have := itN_s (fun i v => 10 * v + tp (p + i) - 48) (0 : Int) (n := min 4 (q - p)) (by omega)
        rw [show p + min 4 (q - p) = q by omega] at this
        rw [show min 4 (q + 1 - p) = min 4 (q - p) + 1 by omega]
        exact this
      have eskip : ¬ q - p < 4 → dgN tp p (min 4 (q + 1 - p)) = dgN tp p (min 4 (q - p)) := fun z => by
        rw [show min 4 (q + 1 - p) = min 4 (q - p) by omega]
      have nx : ∀ (w : Int) (K' : Mem), q < n → isDg tp q → w = dgN tp p (min 4 (q + 1 - p)) → K' 91 25 = w → (0 ≤ w ∧ (q + 1 - p ≤ 0 → w ≤ 0) ∧ (q + 1 - p ≤ 1 → w ≤ 9) ∧ (q + 1 - p ≤ 2 → w ≤ 99) ∧ (q + 1 - p ≤ 3 → w ≤ 999) ∧ w ≤ 9999) → Fr [] lxF I K' → K' 91 21 = q → K' 91 23 = p → V G mX12_goes (d + 1) 0 0 232 [some (.inr (.inl 91)), none] [] NO K' P (qV (fun n' I' P' => n' = NO ∧ P' = P ∧ Fr [] lxF I I' ∧ TKR I' tp n i)) := fun w K' z z2 hw h25' hb hFr' h21' h23' => by
        refine y_aln (i := 0) dX12_goes_232 at91.ne0 rfl rfl ?_
        refine x_dup dX12_goes_233 rfl ?_
        refine y_geti (z := 21) dX12_goes_234 frX12_197 cfX12 at91 rfl rfl ?_
        refine y_ic dX12_goes_237 ⟨by decide, by decide⟩ ?_
        refine x_iadd dX12_goes_238 (by rw [h21']; exact ⟨by omega, by omega⟩) ?_
        refine y_puti (z := 21) dX12_goes_239 frX12_197 cfX12 at91 rfl rfl rfl ?_
        refine x_goto (tgt := 182) dX12_goes_242 rfl ?_
        refine x_keep [1, 0] ?_
        exact ih (q + 1) _ (by omega) (by omega) (by omega) (fun x x0 x1 => by
          by_cases e : x = q
          · rw [e]; exact z2
          · exact hl x x0 (by omega)) (hFr'.uf (by decide)) (by rw [uI_eq, u1_eq, h21']) (by rw [uI_eq, u1_ne (by decide)]; exact h23') (by rw [uI_eq, u1_ne (by decide), h25', hw]) (by rw [uI_eq, u1_ne (by decide), h25']; exact hb)
      rw [← h25] at estep eskip
      refine y_aln (i := 0) dX12_goes_182 at91.ne0 rfl rfl ?_
      refine y_aln (i := 0) dX12_goes_183 at91.ne0 rfl rfl ?_
      refine y_geti (z := 21) dX12_goes_184 frX12_197 cfX12 at91 rfl rfl ?_
      refine x_callVI (c_X12_byteAt hW hLK (by omega)) dX12_goes_187 lkX12_200 mfX12_byteAt cfX12 at91 rfl rfl rfl rfl (Nat.le_of_ble_eq_true rfl) (fun r187 I187 P187 hr187 hf187 => ?_)
      obtain ⟨i187, p187, q187⟩ := hf187
      rw [i187, p187, q187]
      rw [h21]
      refine x_callSI (c_X12_isDigit) dX12_goes_190 lkX12_221 mfX12_isDigit rfl rfl rfl (Nat.le_of_ble_eq_true rfl) (fun r190 I190 P190 hr190 hf190 => ?_)
      obtain ⟨i190, p190, q190⟩ := hf190
      rw [i190, p190]
      refine x_if_eq (tgt := 245) dX12_goes_193 rfl (fun h193 => ?_) (fun h193 => ?_)
      · have hnd : q < n → ¬ isDg tp q := fun z => by rw [if_pos z] at q190; exact (q190.resolve_left (fun y => by have := y.1; omega)).2
        have he := hend hnd
        refine y_aln (i := 0) dX12_goes_245 at91.ne0 rfl rfl ?_
        refine y_ic dX12_goes_246 ⟨by decide, by decide⟩ ?_
        refine y_puti (z := 22) dX12_goes_247 frX12_214 cfX12 at91 rfl rfl rfl ?_
        refine x_goto (tgt := 278) dX12_goes_250 rfl ?_
        refine x_keep [1, 0] ?_
        have en : nxP tp n p = q := by unfold nxP; rw [if_neg (by omega), if_neg hnl, if_pos hdp, he]
        have ekd : kdP tp n p = 2 := by unfold kdP; rw [if_neg (by omega), if_neg hnl, if_pos hdp]
        have evl : vlP tp n p = if q - p > 4 then -1 else dgN tp p (q - p) := by unfold vlP; rw [← he]
        refine hE _ (hFr.uf (by decide)) (by rw [uI_eq, u1_ne (by decide), h21, en]) (by rw [uI_eq, u1_ne (by decide)]; exact h23) (fun v hv2 => ?_)
        have a22 : uI (uI K 91 22 2) 91 24 v 91 22 = 2 := by rw [uI_eq, u1_ne (by decide), uI_eq, u1_eq]
        have a24 : uI (uI K 91 22 2) 91 24 v 91 24 = v := by rw [uI_eq, u1_eq]
        have a25 : uI (uI K 91 22 2) 91 24 v 91 25 = K 91 25 := by rw [uI_eq, u1_ne (by decide), uI_eq, u1_ne (by decide)]
        unfold KR
        rw [a22, a24, a25, ek0, ekd, ek2, evl]
        refine ⟨by omega, by omega, by omega, by omega, fun _ => ?_, fun x x0 x1 => ⟨fun z => by omega, fun z => by omega⟩⟩
        by_cases z : q - p > 4
        · rw [if_pos z]; exact Or.inl ⟨by omega, rfl⟩
        · rw [if_neg z]; exact Or.inr ⟨by omega, by rw [h25, show min 4 (q - p) = q - p by omega]⟩
      · have hlq : q < n ∧ isDg tp q := by
          have h := (q190.resolve_right (fun y => by have := y.1; omega)).2
          by_cases z : q < n
          · rw [if_pos z] at h; exact ⟨z, h⟩
          · rw [if_neg z] at h; omega
        have htl := hlq.2
        refine y_aln (i := 0) dX12_goes_196 at91.ne0 rfl rfl ?_
        refine y_geti (z := 21) dX12_goes_197 frX12_197 cfX12 at91 rfl rfl ?_
        refine y_aln (i := 0) dX12_goes_200 at91.ne0 rfl rfl ?_
        refine y_geti (z := 23) dX12_goes_201 frX12_204 cfX12 at91 rfl rfl ?_
        refine x_isub dX12_goes_204 ⟨by omega, by omega⟩ ?_
        refine y_ic dX12_goes_205 ⟨by decide, by decide⟩ ?_
        refine x_icmp_ge (tgt := 232) dX12_goes_206 rfl (fun h206 => ?_) (fun h206 => ?_)
        · have ge4 : ¬ q - p < 4 := by omega
          refine x_keep [1, 0] ?_
          first | (have z := lt4; exact nx _ (uI K 91 25 (10 * K 91 25 + tp q - 48)) hlq.1 hlq.2 (estep lt4).symm (by rw [uI_eq, u1_eq]) (by omega) (hFr.uf (by decide)) (by rw [uI_eq, u1_ne (by decide)]; exact h21) (by rw [uI_eq, u1_ne (by decide)]; exact h23)) | (have z := ge4; exact nx _ K hlq.1 hlq.2 (eskip ge4).symm rfl (by omega) hFr h21 h23)
        · have lt4 : q - p < 4 := by omega
          refine y_aln (i := 0) dX12_goes_209 at91.ne0 rfl rfl ?_
          refine y_bi dX12_goes_210 ⟨by decide, by decide⟩ ?_
          refine y_aln (i := 0) dX12_goes_212 at91.ne0 rfl rfl ?_
          refine y_geti (z := 25) dX12_goes_213 frX12_211 cfX12 at91 rfl rfl ?_
          refine x_imul dX12_goes_216 ⟨by omega, by omega⟩ ?_
          refine y_aln (i := 0) dX12_goes_217 at91.ne0 rfl rfl ?_
          refine y_aln (i := 0) dX12_goes_218 at91.ne0 rfl rfl ?_
          refine y_geti (z := 21) dX12_goes_219 frX12_197 cfX12 at91 rfl rfl ?_
          refine x_callVI (c_X12_byteAt hW hLK (by omega)) dX12_goes_222 lkX12_200 mfX12_byteAt cfX12 at91 rfl rfl rfl rfl (Nat.le_of_ble_eq_true rfl) (fun r222 I222 P222 hr222 hf222 => ?_)
          obtain ⟨i222, p222, q222⟩ := hf222
          rw [i222, p222, q222]
          rw [h21, if_pos hlq.1]
          refine x_iadd dX12_goes_225 ⟨by omega, by omega⟩ ?_
          refine y_bi dX12_goes_226 ⟨by decide, by decide⟩ ?_
          refine x_isub dX12_goes_228 ⟨by omega, by omega⟩ ?_
          refine y_puti (z := 25) dX12_goes_229 frX12_211 cfX12 at91 rfl rfl rfl ?_
          refine x_keep [1, 0] ?_
          first | (have z := lt4; exact nx _ (uI K 91 25 (10 * K 91 25 + tp q - 48)) hlq.1 hlq.2 (estep lt4).symm (by rw [uI_eq, u1_eq]) (by omega) (hFr.uf (by decide)) (by rw [uI_eq, u1_ne (by decide)]; exact h21) (by rw [uI_eq, u1_ne (by decide)]; exact h23)) | (have z := ge4; exact nx _ K hlq.1 hlq.2 (eskip ge4).symm rfl (by omega) hFr h21 h23)
  have hOther : p < n → ¬ isLt tp p → ¬ isDg tp p → ∀ (s : Int) (K : Mem), (s = if tp p = 59 then 3 else 4) → Fr [] lxF I K → K 91 21 = p + 1 → K 91 23 = p → K 91 25 = 0 → V G mX12_goes (d + 1) 0 0 278 [some (.inr (.inl 91)), none] [] NO (uI K 91 22 s) P (qV (fun n' I' P' => n' = NO ∧ P' = P ∧ Fr [] lxF I I' ∧ TKR I' tp n i)) := fun hpn hnl hnd s K hs hFr h21 h23 h25 => by
    have en : nxP tp n p = p + 1 := by unfold nxP; rw [if_neg (by omega), if_neg hnl, if_neg hnd]
    have ekd : kdP tp n p = if tp p = 59 then 1 else 3 := by unfold kdP; rw [if_neg (by omega), if_neg hnl, if_neg hnd]
    refine hE _ (hFr.uf (by decide)) (by rw [uI_eq, u1_ne (by decide), h21, en]) (by rw [uI_eq, u1_ne (by decide)]; exact h23) (fun v hv2 => ?_)
    have a22 : uI (uI K 91 22 s) 91 24 v 91 22 = s := by rw [uI_eq, u1_ne (by decide), uI_eq, u1_eq]
    have a24 : uI (uI K 91 22 s) 91 24 v 91 24 = v := by rw [uI_eq, u1_eq]
    have a25 : uI (uI K 91 22 s) 91 24 v 91 25 = 0 := by rw [uI_eq, u1_ne (by decide), uI_eq, u1_ne (by decide)]; exact h25
    unfold KR
    rw [a22, a24, a25, ek0, ekd, hs]
    by_cases z : tp p = 59
    · rw [if_pos z, if_pos z]
      exact ⟨by omega, by omega, by omega, by omega, fun q => by omega, fun x x0 x1 => ⟨fun z => by omega, fun z => by omega⟩⟩
    · rw [if_neg z, if_neg z]
      exact ⟨by omega, by omega, by omega, by omega, fun q => by omega, fun x x0 x1 => ⟨fun z => by omega, fun z => by omega⟩⟩
  have hM : ∀ (K : Mem), Fr [] lxF I K → K 91 21 = p → V G mX12_goes (d + 1) 0 0 50 [some (.inr (.inl 91)), none] [] NO K P (qV (fun n' I' P' => n' = NO ∧ P' = P ∧ Fr [] lxF I I' ∧ TKR I' tp n i)) := fun K hFr h21 => by
    obtain ⟨J, hJ⟩ : ∃ J, J = uI (uI (uI K 91 23 (K 91 21)) 91 26 0) 91 25 0 := ⟨_, rfl⟩
    have j21 : J 91 21 = p := by rw [hJ, uI_eq, u1_ne (by decide), uI_eq, u1_ne (by decide), uI_eq, u1_ne (by decide)]; exact h21
    have j23 : J 91 23 = p := by rw [hJ, uI_eq, u1_ne (by decide), uI_eq, u1_ne (by decide), uI_eq, u1_eq]; exact h21
    have j25 : J 91 25 = 0 := by rw [hJ, uI_eq, u1_eq]
    have j26 : J 91 26 = 0 := by rw [hJ, uI_eq, u1_ne (by decide), uI_eq, u1_eq]
    have hFJ : Fr [] lxF I J := by rw [hJ]; exact ((hFr.uf (by decide)).uf (by decide)).uf (by decide)
    have hLJ := hL.fr hFJ
    have j20 : J 91 20 = n := hLJ.1
    have hc := fun (z : p < n) => hL.2.2 p (by omega) z
    have hZero : n ≤ p → V G mX12_goes (d + 1) 0 0 278 [some (.inr (.inl 91)), none] [] NO (uI J 91 22 0) P (qV (fun n' I' P' => n' = NO ∧ P' = P ∧ Fr [] lxF I I' ∧ TKR I' tp n i)) := fun hge => by
      refine hE _ (hFJ.uf (by decide)) (by rw [uI_eq, u1_ne (by decide), j21]; unfold nxP; rw [if_pos hge]) (by rw [uI_eq, u1_ne (by decide)]; exact j23) (fun v hv2 => ?_)
      have ekd : kdP tp n p = 0 := by unfold kdP; rw [if_pos hge]
      have a22 : uI (uI J 91 22 0) 91 24 v 91 22 = 0 := by rw [uI_eq, u1_ne (by decide), uI_eq, u1_eq]
      have a25 : uI (uI J 91 22 0) 91 24 v 91 25 = 0 := by rw [uI_eq, u1_ne (by decide), uI_eq, u1_ne (by decide)]; exact j25
      unfold KR
      rw [a22, a25, ek0, ekd]
      exact ⟨by omega, by omega, by omega, by omega, fun q => by omega, fun x x0 x1 => ⟨fun z => by omega, fun z => by omega⟩⟩
    refine y_aln (i := 0) dX12_goes_50 at91.ne0 rfl rfl ?_
    refine y_aln (i := 0) dX12_goes_51 at91.ne0 rfl rfl ?_
    refine y_geti (z := 21) dX12_goes_52 frX12_197 cfX12 at91 rfl rfl ?_
    refine y_puti (z := 23) dX12_goes_55 frX12_204 cfX12 at91 rfl rfl rfl ?_
    refine y_aln (i := 0) dX12_goes_58 at91.ne0 rfl rfl ?_
    refine x_lconst dX12_goes_59 ?_
    refine y_putl (z := 26) dX12_goes_60 frX12_207 cfX12 at91 rfl rfl rfl ?_
    refine y_aln (i := 0) dX12_goes_63 at91.ne0 rfl rfl ?_
    refine y_ic dX12_goes_64 ⟨by decide, by decide⟩ ?_
    refine y_puti (z := 25) dX12_goes_65 frX12_211 cfX12 at91 rfl rfl rfl ?_
    rw [show uI (uI (uI K 91 23 (K 91 21)) 91 26 (((0 : Fin 2) : Nat) : Int)) 91 25 0 = J from hJ.symm]
    refine y_aln (i := 0) dX12_goes_68 at91.ne0 rfl rfl ?_
    refine y_aln (i := 0) dX12_goes_69 at91.ne0 rfl rfl ?_
    refine y_geti (z := 21) dX12_goes_70 frX12_197 cfX12 at91 rfl rfl ?_
    refine x_callVI (c_X12_byteAt hW hLJ (by omega)) dX12_goes_73 lkX12_200 mfX12_byteAt cfX12 at91 rfl rfl rfl rfl (Nat.le_of_ble_eq_true rfl) (fun r73 I73 P73 hr73 hf73 => ?_)
    obtain ⟨i73, p73, q73⟩ := hf73
    rw [i73, p73, q73]
    rw [j21]
    refine x_istore_n (i := 1) dX12_goes_76 rfl rfl (Nat.le_of_ble_eq_true rfl) ?_
    refine y_aln (i := 0) dX12_goes_77 at91.ne0 rfl rfl ?_
    refine y_geti (z := 21) dX12_goes_78 frX12_197 cfX12 at91 rfl rfl ?_
    refine y_aln (i := 0) dX12_goes_81 at91.ne0 rfl rfl ?_
    refine y_geti (z := 20) dX12_goes_82 frX12_194 cfX12 at91 rfl rfl ?_
    refine x_icmp_lt (tgt := 96) dX12_goes_85 rfl (fun h85 => ?_) (fun h85 => ?_)
    · have hpn : p < n := by omega
      rw [if_pos hpn]
      refine x_iload_n (i := 1) dX12_goes_96 rfl rfl ?_
      refine x_callSI (c_X12_isLetter) dX12_goes_97 lkX12_217 mfX12_isLetter rfl rfl rfl (Nat.le_of_ble_eq_true rfl) (fun r97 I97 P97 hr97 hf97 => ?_)
      obtain ⟨i97, p97, q97⟩ := hf97
      rw [i97, p97]
      refine x_if_eq (tgt := 175) dX12_goes_100 rfl (fun h100 => ?_) (fun h100 => ?_)
      · have hnl : ¬ isLt tp p := (q97.resolve_left (fun y => by have := y.1; omega)).2
        refine x_iload_n (i := 1) dX12_goes_175 rfl rfl ?_
        refine x_callSI (c_X12_isDigit) dX12_goes_176 lkX12_221 mfX12_isDigit rfl rfl rfl (Nat.le_of_ble_eq_true rfl) (fun r176 I176 P176 hr176 hf176 => ?_)
        obtain ⟨i176, p176, q176⟩ := hf176
        rw [i176, p176]
        refine x_if_eq (tgt := 253) dX12_goes_179 rfl (fun h179 => ?_) (fun h179 => ?_)
        · have hnd : ¬ isDg tp p := (q176.resolve_left (fun y => by have := y.1; omega)).2
          refine y_aln (i := 0) dX12_goes_253 at91.ne0 rfl rfl ?_
          refine x_dup dX12_goes_254 rfl ?_
          refine y_geti (z := 21) dX12_goes_255 frX12_197 cfX12 at91 rfl rfl ?_
          refine y_ic dX12_goes_258 ⟨by decide, by decide⟩ ?_
          refine x_iadd dX12_goes_259 (by rw [j21]; exact ⟨by omega, by omega⟩) ?_
          refine y_puti (z := 21) dX12_goes_260 frX12_197 cfX12 at91 rfl rfl rfl ?_
          refine y_aln (i := 0) dX12_goes_263 at91.ne0 rfl rfl ?_
          refine x_iload_n (i := 1) dX12_goes_264 rfl rfl ?_
          refine y_bi dX12_goes_265 ⟨by decide, by decide⟩ ?_
          refine x_icmp_ne (tgt := 274) dX12_goes_267 rfl (fun h267 => ?_) (fun h267 => ?_)
          · have n59 : ¬ tp p = 59 := fun q => by omega
            refine y_ic dX12_goes_274 ⟨by decide, by decide⟩ ?_
            refine y_puti (z := 22) dX12_goes_275 frX12_214 cfX12 at91 rfl rfl rfl ?_
            refine x_keep [1, 0] ?_
            first | (have z := hge; exact hZero z)  | (have z := e59; exact hOther hpn hnl hnd _ _ (by rw [if_pos e59]) (hFJ.uf (by decide)) (by rw [uI_eq, u1_eq, j21]) (by rw [uI_eq, u1_ne (by decide)]; exact j23) (by rw [uI_eq, u1_ne (by decide)]; exact j25)) | (have z := n59; exact hOther hpn hnl hnd _ _ (by rw [if_neg n59]) (hFJ.uf (by decide)) (by rw [uI_eq, u1_eq, j21]) (by rw [uI_eq, u1_ne (by decide)]; exact j23) (by rw [uI_eq, u1_ne (by decide)]; exact j25))
          · have e59 : tp p = 59 := by omega
            refine y_ic dX12_goes_270 ⟨by decide, by decide⟩ ?_
            refine x_goto (tgt := 275) dX12_goes_271 rfl ?_
            refine y_puti (z := 22) dX12_goes_275 frX12_214 cfX12 at91 rfl rfl rfl ?_
            refine x_keep [1, 0] ?_
            first | (have z := hge; exact hZero z)  | (have z := e59; exact hOther hpn hnl hnd _ _ (by rw [if_pos e59]) (hFJ.uf (by decide)) (by rw [uI_eq, u1_eq, j21]) (by rw [uI_eq, u1_ne (by decide)]; exact j23) (by rw [uI_eq, u1_ne (by decide)]; exact j25)) | (have z := n59; exact hOther hpn hnl hnd _ _ (by rw [if_neg n59]) (hFJ.uf (by decide)) (by rw [uI_eq, u1_eq, j21]) (by rw [uI_eq, u1_ne (by decide)]; exact j23) (by rw [uI_eq, u1_ne (by decide)]; exact j25))
        · have hdp : isDg tp p := (q176.resolve_right (fun y => by have := y.1; omega)).2
          refine x_keep [1, 0] ?_
          exact hDg hpn hnl hdp _ p J (Nat.lt_succ_self _) (Int.le_refl _) (by omega) (fun x x0 x1 => by omega) hFJ j21 j23 (by rw [j25, show min 4 (p - p) = 0 by omega]; rfl) (by omega)
      · have hlp : isLt tp p := (q97.resolve_right (fun y => by have := y.1; omega)).2
        refine x_keep [1, 0] ?_
        exact hLt hpn hlp _ p J (Nat.lt_succ_self _) (Int.le_refl _) (by omega) (fun x x0 x1 => by omega) hFJ j21 j23 j25 (by rw [j26, show min 8 (p - p) = 0 by omega]; rfl)
    · have hge : n ≤ p := by omega
      refine y_aln (i := 0) dX12_goes_88 at91.ne0 rfl rfl ?_
      refine y_ic dX12_goes_89 ⟨by decide, by decide⟩ ?_
      refine y_puti (z := 22) dX12_goes_90 frX12_214 cfX12 at91 rfl rfl rfl ?_
      refine x_goto (tgt := 278) dX12_goes_93 rfl ?_
      refine x_keep [1, 0] ?_
      first | (have z := hge; exact hZero z)  | (have z := e59; exact hOther hpn hnl hnd _ _ (by rw [if_pos e59]) (hFJ.uf (by decide)) (by rw [uI_eq, u1_eq, j21]) (by rw [uI_eq, u1_ne (by decide)]; exact j23) (by rw [uI_eq, u1_ne (by decide)]; exact j25)) | (have z := n59; exact hOther hpn hnl hnd _ _ (by rw [if_neg n59]) (hFJ.uf (by decide)) (by rw [uI_eq, u1_eq, j21]) (by rw [uI_eq, u1_ne (by decide)]; exact j23) (by rw [uI_eq, u1_ne (by decide)]; exact j25))
  have hB : ∀ (j : Nat) (q : Int) (K : Mem), (n - q).toNat < j → psS tp n i ≤ q → q ≤ n → (∀ x, psS tp n i ≤ x → x < q → isBl tp x) → Fr [] lxF I K → K 91 21 = q → V G mX12_goes (d + 1) 0 0 0 [some (.inr (.inl 91)), none] [] NO K P (qV (fun n' I' P' => n' = NO ∧ P' = P ∧ Fr [] lxF I I' ∧ TKR I' tp n i)) := by
    intro j
    induction j with
    | zero => intro q K hj; omega
    | succ j ih =>
      intro q K hj hq0 hqn hl hFr g21
      have hLK := hL.fr hFr
      have e20 : K 91 20 = n := hLK.1
      have hend : (q < n → ¬ isBl tp q) → q = p := fun z => by rw [hp]; exact (scS_is (p := isBl tp) (n := n) hq0 (Or.inl hqn) hl z).symm
      have nx : q < n → isBl tp q → V G mX12_goes (d + 1) 0 0 37 [some (.inr (.inl 91)), none] [] NO K P (qV (fun n' I' P' => n' = NO ∧ P' = P ∧ Fr [] lxF I I' ∧ TKR I' tp n i)) := fun z z2 => by
        refine y_aln (i := 0) dX12_goes_37 at91.ne0 rfl rfl ?_
        refine x_dup dX12_goes_38 rfl ?_
        refine y_geti (z := 21) dX12_goes_39 frX12_197 cfX12 at91 rfl rfl ?_
        refine y_ic dX12_goes_42 ⟨by decide, by decide⟩ ?_
        refine x_iadd dX12_goes_43 (by rw [g21]; exact ⟨by omega, by omega⟩) ?_
        refine y_puti (z := 21) dX12_goes_44 frX12_197 cfX12 at91 rfl rfl rfl ?_
        refine x_goto (tgt := 0) dX12_goes_47 rfl ?_
        refine x_keep [1, 0] ?_
        exact ih (q + 1) _ (by omega) (by omega) (by omega) (fun x x0 x1 => by
          by_cases e : x = q
          · rw [e]; exact z2
          · exact hl x x0 (by omega)) (hFr.uf (by decide)) (by rw [uI_eq, u1_eq, g21])
      refine y_aln (i := 0) dX12_goes_0 at91.ne0 rfl rfl ?_
      refine y_geti (z := 21) dX12_goes_1 frX12_197 cfX12 at91 rfl rfl ?_
      refine y_aln (i := 0) dX12_goes_4 at91.ne0 rfl rfl ?_
      refine y_geti (z := 20) dX12_goes_5 frX12_194 cfX12 at91 rfl rfl ?_
      refine x_icmp_ge (tgt := 50) dX12_goes_8 rfl (fun h8 => ?_) (fun h8 => ?_)
      · refine x_keep [1, 0] ?_
        exact hM K hFr (by rw [g21]; exact hend (fun z y => by rcases y with y | y <;> omega))
      · refine y_aln (i := 0) dX12_goes_11 at91.ne0 rfl rfl ?_
        refine y_aln (i := 0) dX12_goes_12 at91.ne0 rfl rfl ?_
        refine y_geti (z := 21) dX12_goes_13 frX12_197 cfX12 at91 rfl rfl ?_
        refine x_callVI (c_X12_byteAt hW hLK (by omega)) dX12_goes_16 lkX12_200 mfX12_byteAt cfX12 at91 rfl rfl rfl rfl (Nat.le_of_ble_eq_true rfl) (fun r16 I16 P16 hr16 hf16 => ?_)
        obtain ⟨i16, p16, q16⟩ := hf16
        rw [i16, p16, q16]
        rw [g21, if_pos (by omega)]
        refine y_bi dX12_goes_19 ⟨by decide, by decide⟩ ?_
        refine x_icmp_eq (tgt := 37) dX12_goes_21 rfl (fun h21 => ?_) (fun h21 => ?_)
        · refine x_keep [1, 0] ?_
          first | exact nx (by omega) (Or.inl (by omega)) | exact nx (by omega) (Or.inr (by omega))
        · refine y_aln (i := 0) dX12_goes_24 at91.ne0 rfl rfl ?_
          refine y_aln (i := 0) dX12_goes_25 at91.ne0 rfl rfl ?_
          refine y_geti (z := 21) dX12_goes_26 frX12_197 cfX12 at91 rfl rfl ?_
          refine x_callVI (c_X12_byteAt hW hLK (by omega)) dX12_goes_29 lkX12_200 mfX12_byteAt cfX12 at91 rfl rfl rfl rfl (Nat.le_of_ble_eq_true rfl) (fun r29 I29 P29 hr29 hf29 => ?_)
          obtain ⟨i29, p29, q29⟩ := hf29
          rw [i29, p29, q29]
          rw [g21, if_pos (by omega)]
          refine y_bi dX12_goes_32 ⟨by decide, by decide⟩ ?_
          refine x_icmp_ne (tgt := 50) dX12_goes_34 rfl (fun h34 => ?_) (fun h34 => ?_)
          · refine x_keep [1, 0] ?_
            exact hM K hFr (by rw [g21]; exact hend (fun z y => by rcases y with y | y <;> omega))
          · refine x_keep [1, 0] ?_
            first | exact nx (by omega) (Or.inl (by omega)) | exact nx (by omega) (Or.inr (by omega))
  have := hB _ (psS tp n i) I (Nat.lt_succ_self _) (Int.le_refl _) hps.2 (fun x x0 x1 => by omega) Fr.rf hq
  exact this
end

