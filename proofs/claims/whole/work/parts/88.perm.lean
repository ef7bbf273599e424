/-! ===== orders of at most five meetings, one after another ===== -/
def PMT : Nat → List Nat
  | 0 => [0]
  | 1 => [0]
  | 2 => [8, 1]
  | 3 => [136, 80, 129, 17, 66, 10]
  | 4 => [1672, 1224, 1616, 720, 1112, 664, 1665, 1217, 1553, 209, 1049, 153, 1602, 706, 1546, 202, 538, 90, 1091, 643, 1035, 139, 531, 83]
  | 5 => [18056, 14472, 17608, 10440, 13576, 9992, 18000, 14416, 17104, 6352, 13072, 5904, 17496, 10328, 17048, 6296, 8984, 5400, 13408, 9824, 12960, 5792, 8928, 5344, 18049, 14465, 17601, 10433, 13569, 9985, 17937, 14353, 16593, 2257, 12561, 1809, 17433, 10265, 16537, 2201, 8473, 1305, 13345, 9761, 12449, 1697, 8417, 1249, 17986, 14402, 17090, 6338, 13058, 5890, 17930, 14346, 16586, 2250, 12554, 1802, 16922, 6170, 16474, 2138, 4378, 794, 12834, 5666, 12386, 1634, 4322, 738, 17475, 10307, 17027, 6275, 8963, 5379, 17419, 10251, 16523, 2187, 8459, 1291, 16915, 6163, 16467, 2131, 4371, 787, 8739, 5155, 8291, 1123, 4259, 675, 13380, 9796, 12932, 5764, 8900, 5316, 13324, 9740, 12428, 1676, 8396, 1228, 12820, 5652, 12372, 1620, 4308, 724, 8732, 5148, 8284, 1116, 4252, 668]
  | _ => []
def pmT (n k : Nat) : Rw := fun i => (((PMT n).getD k 0 / 8 ^ i.toNat % 8 : Nat) : Int)
noncomputable def pmB (n k : Nat) : Bool := decide (pivS n (pmT n k) = -1) || (decide (k + 1 < (PMT n).length) && (List.range n).all (fun i => decide (nextS n (pmT n k) i = pmT n (k + 1) i)))
theorem pm_all : (List.range 6).all (fun n => (List.range (PMT n).length).all (fun k => pmB n k) && decide (0 < (PMT n).length) && decide ((PMT n).length ≤ 120) && (List.range n).all (fun i => decide ((i : Int) = pmT n 0 i))) = true := by decide +kernel
theorem pm_row {n : Nat} (hn : n ≤ 5) : ((List.range (PMT n).length).all (fun k => pmB n k) = true ∧ 0 < (PMT n).length) ∧ (PMT n).length ≤ 120 ∧ QE n (fun k => k) (pmT n 0) := by
  have h := List.all_eq_true.mp pm_all n (List.mem_range.mpr (by omega))
  rw [Bool.and_eq_true, Bool.and_eq_true, Bool.and_eq_true] at h
  refine ⟨⟨h.1.1.1, of_decide_eq_true h.1.1.2⟩, of_decide_eq_true h.1.2, fun k k0 k1 => ?_⟩
  obtain ⟨i, rfl⟩ := Int.eq_ofNat_of_zero_le k0
  exact of_decide_eq_true (List.all_eq_true.mp h.2 i (List.mem_range.mpr (by omega)))
theorem pm_step {n k : Nat} (hn : n ≤ 5) (hk : k < (PMT n).length) : pivS n (pmT n k) = -1 ∨ (k + 1 < (PMT n).length ∧ QE n (nextS n (pmT n k)) (pmT n (k + 1))) := by
  have h := List.all_eq_true.mp (pm_row hn).1.1 k (List.mem_range.mpr hk)
  unfold pmB at h
  rw [Bool.or_eq_true] at h
  rcases h with h | h
  · exact Or.inl (of_decide_eq_true h)
  · rw [Bool.and_eq_true] at h
    refine Or.inr ⟨of_decide_eq_true h.1, fun k k0 k1 => ?_⟩
    obtain ⟨i, rfl⟩ := Int.eq_ofNat_of_zero_le k0
    exact of_decide_eq_true (List.all_eq_true.mp h.2 i (List.mem_range.mpr (by omega)))
theorem QE.tr {n : Int} {q q' q'' : Rw} (h : QE n q q') (h2 : QE n q' q'') : QE n q q'' := fun k k0 k1 => (h k k0 k1).trans (h2 k k0 k1)
