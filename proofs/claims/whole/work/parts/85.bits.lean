/-! ===== bytes and draws, bit by bit; sums; laws of a town ===== -/
theorem bv_sh (u m : BitVec 32) (k : Nat) (h : ∀ i, i < 32 → m.getLsbD i = true → i + k < 32) : (u >>> k) &&& m = (u.sshiftRight k) &&& m := by
  apply BitVec.eq_of_getLsbD_eq
  intro i hi
  rw [BitVec.getLsbD_and, BitVec.getLsbD_and, BitVec.getLsbD_ushiftRight, BitVec.getLsbD_sshiftRight]
  by_cases hm : m.getLsbD i = true
  · have := h i hi hm
    rw [hm, if_pos (by omega)]
    simp [show ¬ 32 ≤ i by omega]
  · rw [Bool.not_eq_true] at hm
    rw [hm, Bool.and_false, Bool.and_false]
theorem bv_by (w : BitVec 32) : (w &&& 255#32).toInt = (w.setWidth 8).toInt ∨ (w &&& 255#32).toInt = (w.setWidth 8).toInt + 256 := by
  have e1 : (w &&& 255#32).toNat = w.toNat % 256 := by
    rw [BitVec.toNat_and]
    exact Nat.and_two_pow_sub_one_eq_mod w.toNat 8
  have e2 : (w.setWidth 8).toNat = w.toNat % 256 := by rw [BitVec.toNat_setWidth]
  rw [BitVec.toInt_eq_toNat_cond, BitVec.toInt_eq_toNat_cond, e1, e2]
  have := Nat.mod_lt w.toNat (show 256 > 0 by decide)
  rw [if_pos (by omega)]
  split
  · left; rfl
  · right; omega
theorem dr_eq (x : Int) : andF (ushrF x 16) 32767 = andF (shrF x 16) 32767 := by
  have h1 : oI (ushrF x 16) = ((oI x).toUInt32 >>> (16 : UInt32)).toInt32 := Int32.ofInt_toInt _
  have h2 : oI (shrF x 16) = oI x >>> (16 : Int32) := Int32.ofInt_toInt _
  unfold andF
  rw [h1, h2]
  refine congrArg Int32.toInt ?_
  apply Int32.toBitVec_inj.mp
  rw [Int32.toBitVec_and, Int32.toBitVec_and]
  have e1 : ((oI x).toUInt32 >>> (16 : UInt32)).toInt32.toBitVec = (oI x).toBitVec >>> 16 := rfl
  have e2 : (oI x >>> (16 : Int32)).toBitVec = (oI x).toBitVec.sshiftRight 16 := rfl
  rw [e1, e2]
  exact bv_sh _ _ 16 (by decide)
/-- a byte of a number, as the class keeps it -/
def bcS (v k : Int) : Int := (oI (ushrF v k)).toInt8.toInt
theorem bcS_c (v k : Int) : (oI (ushrF v k)).toInt8.toInt32 = oI (bcS v k) := (Int32.ofInt_int8ToInt _).symm
theorem bcS_bd (v k : Int) : -128 ≤ bcS v k ∧ bcS v k ≤ 127 := by
  have h1 := Int8.toInt_lt (oI (ushrF v k)).toInt8
  have h2 := Int8.le_toInt (oI (ushrF v k)).toInt8
  unfold bcS
  omega
theorem bc_bv (v : Int) (k : Nat) (k1 : UInt32) (k2 : Int32) (h1 : oI (ushrF v k) = ((oI v).toUInt32 >>> k1).toInt32) (h2 : oI (shrF v k) = oI v >>> k2) (e1 : ((oI v).toUInt32 >>> k1).toInt32.toBitVec = (oI v).toBitVec >>> k) (e2 : (oI v >>> k2).toBitVec = (oI v).toBitVec.sshiftRight k) (hm : ∀ i, i < 32 → (255#32).getLsbD i = true → i + k < 32) : byS v k = bcS v k ∨ byS v k = bcS v k + 256 := by
  have a : byS v k = (((oI v).toBitVec >>> k) &&& 255#32).toInt := by
    unfold byS andF
    rw [h2]
    show ((oI v >>> k2) &&& oI 255).toBitVec.toInt = _
    rw [Int32.toBitVec_and, e2, bv_sh _ _ k hm]
    rfl
  have b : bcS v k = (((oI v).toBitVec >>> k).setWidth 8).toInt := by
    unfold bcS
    rw [h1]
    show (BitVec.signExtend 8 ((oI v).toUInt32 >>> k1).toInt32.toBitVec).toInt = _
    rw [e1, BitVec.signExtend_eq_setWidth_of_le _ (by decide)]
  rw [a, b]
  exact bv_by _
theorem bcS_by {v k : Int} (hk : k = 0 ∨ k = 8 ∨ k = 16 ∨ k = 24) : byS v k = bcS v k ∨ byS v k = bcS v k + 256 := by
  rcases hk with rfl | rfl | rfl | rfl
  · exact bc_bv v 0 0 0 (Int32.ofInt_toInt _) (Int32.ofInt_toInt _) rfl rfl (by decide)
  · exact bc_bv v 8 8 8 (Int32.ofInt_toInt _) (Int32.ofInt_toInt _) rfl rfl (by decide)
  · exact bc_bv v 16 16 16 (Int32.ofInt_toInt _) (Int32.ofInt_toInt _) rfl rfl (by decide)
  · exact bc_bv v 24 24 24 (Int32.ofInt_toInt _) (Int32.ofInt_toInt _) rfl rfl (by decide)
theorem sumN_m (f : Int → Int) {n : Int} : sumN (fun i => 100 * f i) n = 100 * sumN f n := by
  by_cases h : 0 ≤ n
  · exact int_ind (p := fun n => sumN (fun i => 100 * f i) n = 100 * sumN f n) (by rw [sumN_0, sumN_0]; rfl) (fun k hk ih => by rw [sumN_s _ hk, sumN_s _ hk, ih]; omega) n h
  · rw [sumN_neg _ (by omega), sumN_neg _ (by omega)]; rfl
theorem free_c {T : Tn} {r : Rw} : freeS T r = sumN (fun s => leftS T r s * dearS T s * 100) (T 0 2) + sumN (fun p => sumN (fun k => T 4 (18 * p + 3 * k + 2)) (T 3 p)) (T 0 1) * 100 := by
  unfold freeS
  congr 1
  · refine sumN_congr (fun s _ _ => ?_)
    rw [Int.mul_comm (leftS T r s), Int.mul_comm (dearS T s * leftS T r s), Int.mul_assoc]
  · rw [sumN_congr (fun p _ _ => sumN_m (fun k => T 4 (18 * p + 3 * k + 2))), sumN_m, Int.mul_comm]
theorem CA.law {I : Mem} {t : Nat} {T : Tn} {l : Int} (h : CA I t T) : CA I t (lawT T l) := by
  unfold CA at h ⊢
  rw [lawT_0 (k := 1) (by decide) (by decide), lawT_0 (k := 2) (by decide) (by decide), lawT_0 (k := 5) (by decide) (by decide), lawT_0 (k := 6) (by decide) (by decide), lawT_n (a := 1) (by decide), lawT_n (a := 2) (by decide), lawT_n (a := 3) (by decide), lawT_n (a := 4) (by decide), lawT_n (a := 5) (by decide), lawT_n (a := 6) (by decide)]
  exact h
