/-- the sum of f at 0 .. below n -/
def sumNat (f : Int → Int) : Nat → Int
  | 0 => 0
  | k + 1 => sumNat f k + f (k : Int)
def sumN (f : Int → Int) (n : Int) : Int := sumNat f n.toNat
theorem sumN_0 (f : Int → Int) : sumN f 0 = 0 := rfl
theorem sumN_s (f : Int → Int) {n : Int} (h : 0 ≤ n) : sumN f (n + 1) = sumN f n + f n := by
  obtain ⟨k, rfl⟩ := Int.eq_ofNat_of_zero_le h
  rfl
theorem t_try {G : HX} {d : Nat} {I : Mem} {P : Ptr} (q t : Nat) (sort : Int) (hq : isM q) (hW : WP P) (hT : isT NO t) (hpt : P q 0 = t) (h0 : 0 ≤ I t 0 ∧ I t 0 ≤ 6) (hs : 0 ≤ sort ∧ sort < 8) (hr : ∀ c, 0 ≤ c → c < 48 → 0 ≤ I (q + 1) c ∧ I (q + 1) c ≤ 960) :
    Cv G mX3_thingsOf d 0 0 [.inr (.inl q), .inl sort] NO I P (qI NO (fun r I' P' => I' = I ∧ P' = P ∧ r = sumN (fun p => I (q + 1) (p * 8 + sort)) (I t 0))) := by
  have wT := wp_T hW hT
  refine x_enter mfX3_thingsOf rfl (Nat.le_of_ble_eq_true rfl) (fun hok => ?_)
  have hL : ∀ (j : Nat) (p s : Int), (I t 0 - p).toNat < j → 0 ≤ p → p ≤ I t 0 → s = sumN (fun p => I (q + 1) (p * 8 + sort)) p → 0 ≤ s → s ≤ p * 960 → V G mX3_thingsOf d 0 0 4 [some (.inr (.inl q)), some (.inl (sort)), some (.inl (s)), some (.inl (p))] [] NO I P (qI NO (fun r I' P' => I' = I ∧ P' = P ∧ r = sumN (fun p => I (q + 1) (p * 8 + sort)) (I t 0))) := by
    intro j
    induction j with
    | zero => intro p s hj; omega
    | succ j ih =>
      intro p s hj hp hp2 hs0 hs1 hs2
      refine x_iload_n (i := 3) dX3_thingsOf_4 rfl rfl ?_
      refine y_aln (i := 0) dX3_thingsOf_5 hq.at.ne0 rfl rfl ?_
      refine y_getp (z := 0) (v := t) dX3_thingsOf_6 frX3_15 cfX3 hq.at rfl rfl hpt ?_
      refine y_geti (z := 0) dX3_thingsOf_9 frX3_39 cfX10 hT.at rfl rfl ?_
      refine x_icmp_ge (tgt := 35) dX3_thingsOf_12 rfl (fun h12 => ?_) (fun h12 => ?_)
      · refine x_iload_n (i := 2) dX3_thingsOf_35 rfl rfl ?_
        refine x_iret dX3_thingsOf_36 rfl ?_
        exact ⟨rfl, rfl, by rw [hs0, show p = I t 0 by omega]⟩
      · have hrr := hr (p * 8 + sort) (by omega) (by omega)
        refine x_iload_n (i := 2) dX3_thingsOf_15 rfl rfl ?_
        refine y_aln (i := 0) dX3_thingsOf_16 hq.at.ne0 rfl rfl ?_
        refine y_getp (z := 2) (v := (q + 1)) dX3_thingsOf_17 frX3_9 cfX3 hq.at rfl rfl (p3_2 hW hq) ?_
        refine x_iload_n (i := 3) dX3_thingsOf_20 rfl rfl ?_
        refine y_bi dX3_thingsOf_21 ⟨by decide, by decide⟩ ?_
        refine x_imul dX3_thingsOf_23 ⟨by omega, by omega⟩ ?_
        refine x_iload_n (i := 1) dX3_thingsOf_24 rfl rfl ?_
        refine x_iadd dX3_thingsOf_25 ⟨by omega, by omega⟩ ?_
        refine x_iald dX3_thingsOf_26 (a3_2 hq) ⟨by omega, by omega⟩ ?_
        refine x_iadd dX3_thingsOf_27 ⟨by omega, by omega⟩ ?_
        refine x_istore_n (i := 2) dX3_thingsOf_28 rfl rfl (Nat.le_of_ble_eq_true rfl) ?_
        refine x_iinc dX3_thingsOf_29 rfl ⟨by omega, by omega⟩ rfl (Nat.le_of_ble_eq_true rfl) ?_
        refine x_goto (tgt := 4) dX3_thingsOf_32 rfl ?_
        refine x_keep [1, 1, 1, 1] ?_
        exact ih _ _ (by omega) (by omega) (by omega) (by rw [sumN_s _ hp, hs0]) (by omega) (by omega)
  refine y_ic dX3_thingsOf_0 ⟨by decide, by decide⟩ ?_
  refine x_istore_n (i := 2) dX3_thingsOf_1 rfl rfl (Nat.le_of_ble_eq_true rfl) ?_
  refine y_ic dX3_thingsOf_2 ⟨by decide, by decide⟩ ?_
  refine x_istore_n (i := 3) dX3_thingsOf_3 rfl rfl (Nat.le_of_ble_eq_true rfl) ?_
  refine x_keep [1, 1, 1, 1] ?_
  exact hL _ _ _ (Nat.lt_succ_self _) (by omega) (by omega) (sumN_0 _).symm (by omega) (by omega)

