/-! ===== the reference: words, numbers, faults ===== -/
def chk (x y : Int × Int) : Int × Int := if x.1 = 0 then y else x
theorem chk_0 {x y : Int × Int} (h : x.1 = 0) : chk x y = y := if_pos h
theorem chk_1 {x y : Int × Int} (h : x.1 ≠ 0) : chk x y = x := if_neg h
theorem chk_z {x y : Int × Int} : (chk x y).1 = 0 ↔ x.1 = 0 ∧ y.1 = 0 := by
  unfold chk
  split
  · next h => exact ⟨fun q => ⟨h, q⟩, fun q => q.2⟩
  · next h => exact ⟨fun q => absurd q h, fun q => q.1⟩
theorem chk_a {x y z : Int × Int} : chk (chk x y) z = chk x (chk y z) := by
  by_cases h : x.1 = 0
  · rw [chk_0 h, chk_0 h]
  · rw [chk_1 h, chk_1 h, chk_1 h]
def cpR (r : Rs) : Int × Int := (r.1, r.2.1)
theorem cp_ck {c p : Int} {S : Tn} {r : Rs} : cpR (ckR c p S r) = chk (c, p) (cpR r) := by
  by_cases h : c = 0
  · rw [ckR_0 h, chk_0 h]
  · rw [ckR_1 h, chk_1 h]; rfl
theorem cp_ok {i : Int} {S : Tn} : cpR (okR i S) = (0, 0) := rfl
theorem chk_e {x : Int × Int} (h : x.1 ≠ 0) : chk x (0, 0) = x := chk_1 h
def GD (K : Mem) (tp : Rw) (n i : Int) : Prop := K 91 18 = 0 ∧ K 91 19 = -1 ∧ TKR K tp n i
def RSt (K : Mem) (tp : Rw) (n : Int) (x : Int × Int) (i : Int) : Prop := (x.1 = 0 ∧ GD K tp n i) ∨ (x.1 ≠ 0 ∧ K 91 18 = x.1 ∧ K 91 19 = x.2)
theorem RSt.z {K : Mem} {tp : Rw} {n i p : Int} {x : Int × Int} (h : RSt K tp n x i) : RSt K tp n (chk x (0, p)) i := by
  rcases h with ⟨h1, h2⟩ | ⟨h1, h2⟩
  · rw [chk_0 h1]; exact Or.inl ⟨rfl, h2⟩
  · rw [chk_1 h1]; exact Or.inr ⟨h1, h2⟩
theorem RSt.b {K : Mem} {tp : Rw} {n i j : Int} {x y : Int × Int} (h : RSt K tp n x i) (hx : x.1 ≠ 0) : RSt K tp n (chk x y) j := by
  rw [chk_1 hx]
  exact Or.inr ⟨hx, (h.resolve_left (fun q => hx q.1)).2⟩
theorem RSt.g {K : Mem} {tp : Rw} {n i : Int} {x : Int × Int} (h : RSt K tp n x i) (hx : x.1 = 0) : GD K tp n i := (h.resolve_right (fun q => q.1 hx)).2
theorem RSt.o {K : Mem} {tp : Rw} {n i : Int} {x : Int × Int} (hx : x.1 = 0) (h : GD K tp n i) : RSt K tp n x i := Or.inl ⟨hx, h⟩
theorem TKR.fr {K J : Mem} {tp : Rw} {n i : Int} {S : List Nat} {F : List Int} (h : TKR K tp n i) (hf : Fr S F K J) (h0 : (20 : Int) ∉ F := by decide) (h1 : (21 : Int) ∉ F := by decide) (h2 : (22 : Int) ∉ F := by decide) (h3 : (23 : Int) ∉ F := by decide) (h4 : (24 : Int) ∉ F := by decide) (h5 : (25 : Int) ∉ F := by decide) (h6 : (26 : Int) ∉ F := by decide) (hs : (100 : Nat) ∉ S := by decide) : TKR J tp n i := by
  unfold TKR KR
  rw [hf.2 _ h1, hf.2 _ h2, hf.2 _ h3, hf.2 _ h4, hf.2 _ h5, hf.2 _ h6]
  exact ⟨h.1.fr hf h0 hs, h.2⟩
theorem GD.fr {K J : Mem} {tp : Rw} {n i : Int} {S : List Nat} {F : List Int} (h : GD K tp n i) (hf : Fr S F K J) (hF : F.all (fun k => decide (k < 18 ∨ 26 < k)) = true := by decide) (hs : (100 : Nat) ∉ S := by decide) : GD J tp n i := by
  have hn : ∀ k : Int, 18 ≤ k → k ≤ 26 → k ∉ F := fun k k0 k1 q => by have := of_decide_eq_true (List.all_eq_true.mp hF k q); omega
  exact ⟨(hf.2 18 (hn _ (by decide) (by decide))).trans h.1, (hf.2 19 (hn _ (by decide) (by decide))).trans h.2.1, h.2.2.fr hf (hn _ (by decide) (by decide)) (hn _ (by decide) (by decide)) (hn _ (by decide) (by decide)) (hn _ (by decide) (by decide)) (hn _ (by decide) (by decide)) (hn _ (by decide) (by decide)) (hn _ (by decide) (by decide)) hs⟩
theorem RSt.fr {K J : Mem} {tp : Rw} {n i : Int} {x : Int × Int} {S : List Nat} {F : List Int} (h : RSt K tp n x i) (hf : Fr S F K J) (hF : F.all (fun k => decide (k < 18 ∨ 26 < k)) = true := by decide) (hs : (100 : Nat) ∉ S := by decide) : RSt J tp n x i := by
  have hn : ∀ k : Int, 18 ≤ k → k ≤ 26 → k ∉ F := fun k k0 k1 q => by have := of_decide_eq_true (List.all_eq_true.mp hF k q); omega
  rcases h with ⟨h1, h2⟩ | ⟨h1, h2, h3⟩
  · exact Or.inl ⟨h1, h2.fr hf hF hs⟩
  · exact Or.inr ⟨h1, (hf.2 18 (hn _ (by decide) (by decide))).trans h2, (hf.2 19 (hn _ (by decide) (by decide))).trans h3⟩
theorem GD.go {K J : Mem} {tp : Rw} {n i : Int} (h : GD K tp n i) (hf : Fr [] lxF K J) (ht : TKR J tp n (i + 1)) : GD J tp n (i + 1) := ⟨(hf.2 18 (by decide)).trans h.1, (hf.2 19 (by decide)).trans h.2.1, ht⟩
abbrev pF : List Int := [18, 19, 21, 22, 23, 24, 25, 26]
def spS (v x : Int) : Int := if x ≠ 0 then 32 * v + (x - 96) else v
section
variable {G : HX} {d : Nat} {I : Mem} {P : Ptr} {T : Tn}
theorem c_X12_spelled {x0 x1 x2 x3 x4 x5 : Int} (h0 : 97 ≤ x0 ∧ x0 ≤ 122) (h1 : x1 = 0 ∨ (97 ≤ x1 ∧ x1 ≤ 122)) (h2 : x2 = 0 ∨ (97 ≤ x2 ∧ x2 ≤ 122)) (h3 : x3 = 0 ∨ (97 ≤ x3 ∧ x3 ≤ 122)) (h4 : x4 = 0 ∨ (97 ≤ x4 ∧ x4 ≤ 122)) (h5 : x5 = 0 ∨ (97 ≤ x5 ∧ x5 ≤ 122)) : Cv G mX12_spelled d 0 0 [.inl x0, .inl x1, .inl x2, .inl x3, .inl x4, .inl x5] NO I P (qL NO (fun r I' P' => I' = I ∧ P' = P ∧ r = spS (spS (spS (spS (spS (x0 - 96) x1) x2) x3) x4) x5)) := by
  have sb : ∀ v x B : Int, (x = 0 ∨ (97 ≤ x ∧ x ≤ 122)) → 0 ≤ v ∧ v < B → 0 ≤ spS v x ∧ spS v x < 32 * B := fun v x B hx hv => by unfold spS; split <;> omega
  have b0 : 0 ≤ x0 - 96 ∧ x0 - 96 < 32 := by omega
  have b1 := sb _ x1 _ h1 b0
  have b2 := sb _ x2 _ h2 b1
  have b3 := sb _ x3 _ h3 b2
  have b4 := sb _ x4 _ h4 b3
  have b5 := sb _ x5 _ h5 b4
  refine x_enter mfX12_spelled rfl (Nat.le_of_ble_eq_true rfl) (fun _ => ?_)
  have p5 : ∀ v, v = spS (spS (spS (spS (spS (x0 - 96) x1) x2) x3) x4) x5 → V G mX12_spelled d 0 0 91 [none, none, none, none, none, none, some (.inr (.inr (v))), none] [] NO I P (qL NO (fun r I' P' => I' = I ∧ P' = P ∧ r = spS (spS (spS (spS (spS (x0 - 96) x1) x2) x3) x4) x5)) := fun v hv => by
    refine x_lload (i := 6) dX12_spelled_91 rfl ?_
    refine x_lret dX12_spelled_93 rfl ?_
    exact ⟨rfl, rfl, hv⟩
  obtain ⟨v4, e4⟩ : ∃ v, v = spS (spS (spS (spS (x0 - 96) x1) x2) x3) x4 := ⟨_, rfl⟩
  have p6 := fun (v : Int) (hv : v = spS v4 x5) => p5 v (by rw [hv, e4])
  rw [← e4] at b4
  have q4 : ∀ v, v = v4 → V G mX12_spelled d 0 0 73 [none, none, none, none, none, some (.inl (x5)), some (.inr (.inr (v))), none] [] NO I P (qL NO (fun r I' P' => I' = I ∧ P' = P ∧ r = spS (spS (spS (spS (spS (x0 - 96) x1) x2) x3) x4) x5)) := fun v hv => by
    refine x_iload (i := 5) dX12_spelled_73 rfl ?_
    refine x_if_eq (tgt := 91) dX12_spelled_75 rfl (fun h75 => ?_) (fun h75 => ?_)
    · have n75 : ¬ x5 ≠ 0 := by omega
      refine x_keep [0, 0, 0, 0, 0, 0, 1, 0] ?_
      first | (have z := y75; exact p6 (32 * v + (x5 - 96)) (by unfold spS; rw [if_pos y75, hv])) | (have z := n75; exact p6 v (by unfold spS; rw [if_neg n75, hv]))
    · have y75 : x5 ≠ 0 := by omega
      refine x_lload (i := 6) dX12_spelled_78 rfl ?_
      refine y_ic dX12_spelled_80 ⟨by decide, by decide⟩ ?_
      refine y_lshl5 dX12_spelled_81 ⟨by omega, by omega⟩ ?_
      refine x_iload (i := 5) dX12_spelled_82 rfl ?_
      refine y_bi dX12_spelled_84 ⟨by decide, by decide⟩ ?_
      refine x_isub dX12_spelled_86 ⟨by omega, by omega⟩ ?_
      refine x_i2l dX12_spelled_87 ?_
      refine y_lor5 dX12_spelled_88 ⟨by omega, by omega⟩ ⟨by omega, by omega⟩ ?_
      refine x_lstore (i := 6) dX12_spelled_89 (fun j _ e => (by have h9 : j = 5 := (by omega); subst h9; intro q; cases q)) (fun y q => by cases q) (Nat.le_of_ble_eq_true rfl) ?_
      refine x_keep [0, 0, 0, 0, 0, 0, 1, 0] ?_
      first | (have z := y75; exact p6 (32 * v + (x5 - 96)) (by unfold spS; rw [if_pos y75, hv])) | (have z := n75; exact p6 v (by unfold spS; rw [if_neg n75, hv]))
  obtain ⟨v3, e3⟩ : ∃ v, v = spS (spS (spS (x0 - 96) x1) x2) x3 := ⟨_, rfl⟩
  rw [← e3] at e4 b3
  have q3 : ∀ v, v = v3 → V G mX12_spelled d 0 0 55 [none, none, none, none, some (.inl (x4)), some (.inl (x5)), some (.inr (.inr (v))), none] [] NO I P (qL NO (fun r I' P' => I' = I ∧ P' = P ∧ r = spS (spS (spS (spS (spS (x0 - 96) x1) x2) x3) x4) x5)) := fun v hv => by
    refine x_iload (i := 4) dX12_spelled_55 rfl ?_
    refine x_if_eq (tgt := 73) dX12_spelled_57 rfl (fun h57 => ?_) (fun h57 => ?_)
    · have n57 : ¬ x4 ≠ 0 := by omega
      refine x_keep [0, 0, 0, 0, 0, 1, 1, 0] ?_
      first | (have z := y57; exact q4 (32 * v + (x4 - 96)) (by rw [e4]; unfold spS; rw [if_pos y57, hv])) | (have z := n57; exact q4 v (by rw [e4]; unfold spS; rw [if_neg n57, hv]))
    · have y57 : x4 ≠ 0 := by omega
      refine x_lload (i := 6) dX12_spelled_60 rfl ?_
      refine y_ic dX12_spelled_62 ⟨by decide, by decide⟩ ?_
      refine y_lshl5 dX12_spelled_63 ⟨by omega, by omega⟩ ?_
      refine x_iload (i := 4) dX12_spelled_64 rfl ?_
      refine y_bi dX12_spelled_66 ⟨by decide, by decide⟩ ?_
      refine x_isub dX12_spelled_68 ⟨by omega, by omega⟩ ?_
      refine x_i2l dX12_spelled_69 ?_
      refine y_lor5 dX12_spelled_70 ⟨by omega, by omega⟩ ⟨by omega, by omega⟩ ?_
      refine x_lstore (i := 6) dX12_spelled_71 (fun j _ e => (by have h9 : j = 5 := (by omega); subst h9; intro q; cases q)) (fun y q => by cases q) (Nat.le_of_ble_eq_true rfl) ?_
      refine x_keep [0, 0, 0, 0, 0, 1, 1, 0] ?_
      first | (have z := y57; exact q4 (32 * v + (x4 - 96)) (by rw [e4]; unfold spS; rw [if_pos y57, hv])) | (have z := n57; exact q4 v (by rw [e4]; unfold spS; rw [if_neg n57, hv]))
  obtain ⟨v2, e2⟩ : ∃ v, v = spS (spS (x0 - 96) x1) x2 := ⟨_, rfl⟩
  rw [← e2] at e3 b2
  have q2 : ∀ v, v = v2 → V G mX12_spelled d 0 0 39 [none, none, none, some (.inl (x3)), some (.inl (x4)), some (.inl (x5)), some (.inr (.inr (v))), none] [] NO I P (qL NO (fun r I' P' => I' = I ∧ P' = P ∧ r = spS (spS (spS (spS (spS (x0 - 96) x1) x2) x3) x4) x5)) := fun v hv => by
    refine x_iload_n (i := 3) dX12_spelled_39 rfl rfl ?_
    refine x_if_eq (tgt := 55) dX12_spelled_40 rfl (fun h40 => ?_) (fun h40 => ?_)
    · have n40 : ¬ x3 ≠ 0 := by omega
      refine x_keep [0, 0, 0, 0, 1, 1, 1, 0] ?_
      first | (have z := y40; exact q3 (32 * v + (x3 - 96)) (by rw [e3]; unfold spS; rw [if_pos y40, hv])) | (have z := n40; exact q3 v (by rw [e3]; unfold spS; rw [if_neg n40, hv]))
    · have y40 : x3 ≠ 0 := by omega
      refine x_lload (i := 6) dX12_spelled_43 rfl ?_
      refine y_ic dX12_spelled_45 ⟨by decide, by decide⟩ ?_
      refine y_lshl5 dX12_spelled_46 ⟨by omega, by omega⟩ ?_
      refine x_iload_n (i := 3) dX12_spelled_47 rfl rfl ?_
      refine y_bi dX12_spelled_48 ⟨by decide, by decide⟩ ?_
      refine x_isub dX12_spelled_50 ⟨by omega, by omega⟩ ?_
      refine x_i2l dX12_spelled_51 ?_
      refine y_lor5 dX12_spelled_52 ⟨by omega, by omega⟩ ⟨by omega, by omega⟩ ?_
      refine x_lstore (i := 6) dX12_spelled_53 (fun j _ e => (by have h9 : j = 5 := (by omega); subst h9; intro q; cases q)) (fun y q => by cases q) (Nat.le_of_ble_eq_true rfl) ?_
      refine x_keep [0, 0, 0, 0, 1, 1, 1, 0] ?_
      first | (have z := y40; exact q3 (32 * v + (x3 - 96)) (by rw [e3]; unfold spS; rw [if_pos y40, hv])) | (have z := n40; exact q3 v (by rw [e3]; unfold spS; rw [if_neg n40, hv]))
  obtain ⟨v1, e1⟩ : ∃ v, v = spS (x0 - 96) x1 := ⟨_, rfl⟩
  rw [← e1] at e2 b1
  have q1 : ∀ v, v = v1 → V G mX12_spelled d 0 0 23 [none, none, some (.inl (x2)), some (.inl (x3)), some (.inl (x4)), some (.inl (x5)), some (.inr (.inr (v))), none] [] NO I P (qL NO (fun r I' P' => I' = I ∧ P' = P ∧ r = spS (spS (spS (spS (spS (x0 - 96) x1) x2) x3) x4) x5)) := fun v hv => by
    refine x_iload_n (i := 2) dX12_spelled_23 rfl rfl ?_
    refine x_if_eq (tgt := 39) dX12_spelled_24 rfl (fun h24 => ?_) (fun h24 => ?_)
    · have n24 : ¬ x2 ≠ 0 := by omega
      refine x_keep [0, 0, 0, 1, 1, 1, 1, 0] ?_
      first | (have z := y24; exact q2 (32 * v + (x2 - 96)) (by rw [e2]; unfold spS; rw [if_pos y24, hv])) | (have z := n24; exact q2 v (by rw [e2]; unfold spS; rw [if_neg n24, hv]))
    · have y24 : x2 ≠ 0 := by omega
      refine x_lload (i := 6) dX12_spelled_27 rfl ?_
      refine y_ic dX12_spelled_29 ⟨by decide, by decide⟩ ?_
      refine y_lshl5 dX12_spelled_30 ⟨by omega, by omega⟩ ?_
      refine x_iload_n (i := 2) dX12_spelled_31 rfl rfl ?_
      refine y_bi dX12_spelled_32 ⟨by decide, by decide⟩ ?_
      refine x_isub dX12_spelled_34 ⟨by omega, by omega⟩ ?_
      refine x_i2l dX12_spelled_35 ?_
      refine y_lor5 dX12_spelled_36 ⟨by omega, by omega⟩ ⟨by omega, by omega⟩ ?_
      refine x_lstore (i := 6) dX12_spelled_37 (fun j _ e => (by have h9 : j = 5 := (by omega); subst h9; intro q; cases q)) (fun y q => by cases q) (Nat.le_of_ble_eq_true rfl) ?_
      refine x_keep [0, 0, 0, 1, 1, 1, 1, 0] ?_
      first | (have z := y24; exact q2 (32 * v + (x2 - 96)) (by rw [e2]; unfold spS; rw [if_pos y24, hv])) | (have z := n24; exact q2 v (by rw [e2]; unfold spS; rw [if_neg n24, hv]))
  refine x_iload_n (i := 0) dX12_spelled_0 rfl rfl ?_
  refine y_bi dX12_spelled_1 ⟨by decide, by decide⟩ ?_
  refine x_isub dX12_spelled_3 ⟨by omega, by omega⟩ ?_
  refine x_i2l dX12_spelled_4 ?_
  refine x_lstore (i := 6) dX12_spelled_5 (fun j _ e => (by have h9 : j = 5 := (by omega); subst h9; intro q; cases q)) (fun y q => by cases q) (Nat.le_of_ble_eq_true rfl) ?_
  refine x_iload_n (i := 1) dX12_spelled_7 rfl rfl ?_
  refine x_if_eq (tgt := 23) dX12_spelled_8 rfl (fun h8 => ?_) (fun h8 => ?_)
  · have n8 : ¬ x1 ≠ 0 := by omega
    refine x_keep [0, 0, 1, 1, 1, 1, 1, 0] ?_
    first | (have z := y8; exact q1 (32 * (x0 - 96) + (x1 - 96)) (by rw [e1]; unfold spS; rw [if_pos y8])) | (have z := n8; exact q1 (x0 - 96) (by rw [e1]; unfold spS; rw [if_neg n8]))
  · have y8 : x1 ≠ 0 := by omega
    refine x_lload (i := 6) dX12_spelled_11 rfl ?_
    refine y_ic dX12_spelled_13 ⟨by decide, by decide⟩ ?_
    refine y_lshl5 dX12_spelled_14 ⟨by omega, by omega⟩ ?_
    refine x_iload_n (i := 1) dX12_spelled_15 rfl rfl ?_
    refine y_bi dX12_spelled_16 ⟨by decide, by decide⟩ ?_
    refine x_isub dX12_spelled_18 ⟨by omega, by omega⟩ ?_
    refine x_i2l dX12_spelled_19 ?_
    refine y_lor5 dX12_spelled_20 ⟨by omega, by omega⟩ ⟨by omega, by omega⟩ ?_
    refine x_lstore (i := 6) dX12_spelled_21 (fun j _ e => (by have h9 : j = 5 := (by omega); subst h9; intro q; cases q)) (fun y q => by cases q) (Nat.le_of_ble_eq_true rfl) ?_
    refine x_keep [0, 0, 1, 1, 1, 1, 1, 0] ?_
    first | (have z := y8; exact q1 (32 * (x0 - 96) + (x1 - 96)) (by rw [e1]; unfold spS; rw [if_pos y8])) | (have z := n8; exact q1 (x0 - 96) (by rw [e1]; unfold spS; rw [if_neg n8]))
theorem c_X12_letters {k : Int} (hk : 0 ≤ k ∧ k < 11) : Cv G mX12_letters (d + 1) 0 0 [.inl k] NO I P (qL NO (fun r I' P' => I' = I ∧ P' = P ∧ r = ltS k)) := by
  refine x_enter mfX12_letters rfl (Nat.le_of_ble_eq_true rfl) (fun _ => ?_)
  refine x_iload_n (i := 0) dX12_letters_0 rfl rfl ?_
  refine y_tsw (td := 200) dX12_letters_1 (fun j off tgt hx1 ho1 ht1 hle1 => ?_) (by decide) (by decide) (by decide) (fun h1 => ?_)
  · have hj1 : j = 0 ∨ j = 1 ∨ j = 2 ∨ j = 3 ∨ j = 4 ∨ j = 5 ∨ j = 6 ∨ j = 7 ∨ j = 8 ∨ j = 9 := by omega
    rcases hj1 with rfl | rfl | rfl | rfl | rfl | rfl | rfl | rfl | rfl | rfl
    · have eo1 : off = 55 := Option.some.inj (ho1.symm.trans rfl)
      obtain rfl : tgt = 56 := by omega
      refine y_bi dX12_letters_56 ⟨by decide, by decide⟩ ?_
      refine y_bi dX12_letters_58 ⟨by decide, by decide⟩ ?_
      refine y_bi dX12_letters_60 ⟨by decide, by decide⟩ ?_
      refine y_bi dX12_letters_62 ⟨by decide, by decide⟩ ?_
      refine y_bi dX12_letters_64 ⟨by decide, by decide⟩ ?_
      refine y_ic dX12_letters_66 ⟨by decide, by decide⟩ ?_
      refine x_callSL (c_X12_spelled (by decide) (by decide) (by decide) (by decide) (by decide) (by decide)) dX12_letters_67 lkX12_227 mfX12_spelled rfl rfl rfl (Nat.le_of_ble_eq_true rfl) (fun r67 I67 P67 hr67 hf67 => ?_)
      obtain ⟨i67, p67, q67⟩ := hf67
      rw [i67, p67, q67]
      refine x_lret dX12_letters_70 rfl ?_
      exact ⟨rfl, rfl, by rw [show k = 0 by omega]; decide +kernel⟩
    · have eo1 : off = 70 := Option.some.inj (ho1.symm.trans rfl)
      obtain rfl : tgt = 71 := by omega
      refine y_bi dX12_letters_71 ⟨by decide, by decide⟩ ?_
      refine y_bi dX12_letters_73 ⟨by decide, by decide⟩ ?_
      refine y_bi dX12_letters_75 ⟨by decide, by decide⟩ ?_
      refine y_bi dX12_letters_77 ⟨by decide, by decide⟩ ?_
      refine y_bi dX12_letters_79 ⟨by decide, by decide⟩ ?_
      refine y_bi dX12_letters_81 ⟨by decide, by decide⟩ ?_
      refine x_callSL (c_X12_spelled (by decide) (by decide) (by decide) (by decide) (by decide) (by decide)) dX12_letters_83 lkX12_227 mfX12_spelled rfl rfl rfl (Nat.le_of_ble_eq_true rfl) (fun r83 I83 P83 hr83 hf83 => ?_)
      obtain ⟨i83, p83, q83⟩ := hf83
      rw [i83, p83, q83]
      refine x_lret dX12_letters_86 rfl ?_
      exact ⟨rfl, rfl, by rw [show k = 1 by omega]; decide +kernel⟩
    · have eo1 : off = 86 := Option.some.inj (ho1.symm.trans rfl)
      obtain rfl : tgt = 87 := by omega
      refine y_bi dX12_letters_87 ⟨by decide, by decide⟩ ?_
      refine y_bi dX12_letters_89 ⟨by decide, by decide⟩ ?_
      refine y_bi dX12_letters_91 ⟨by decide, by decide⟩ ?_
      refine y_ic dX12_letters_93 ⟨by decide, by decide⟩ ?_
      refine y_ic dX12_letters_94 ⟨by decide, by decide⟩ ?_
      refine y_ic dX12_letters_95 ⟨by decide, by decide⟩ ?_
      refine x_callSL (c_X12_spelled (by decide) (by decide) (by decide) (by decide) (by decide) (by decide)) dX12_letters_96 lkX12_227 mfX12_spelled rfl rfl rfl (Nat.le_of_ble_eq_true rfl) (fun r96 I96 P96 hr96 hf96 => ?_)
      obtain ⟨i96, p96, q96⟩ := hf96
      rw [i96, p96, q96]
      refine x_lret dX12_letters_99 rfl ?_
      exact ⟨rfl, rfl, by rw [show k = 2 by omega]; decide +kernel⟩
    · have eo1 : off = 99 := Option.some.inj (ho1.symm.trans rfl)
      obtain rfl : tgt = 100 := by omega
      refine y_bi dX12_letters_100 ⟨by decide, by decide⟩ ?_
      refine y_bi dX12_letters_102 ⟨by decide, by decide⟩ ?_
      refine y_bi dX12_letters_104 ⟨by decide, by decide⟩ ?_
      refine y_bi dX12_letters_106 ⟨by decide, by decide⟩ ?_
      refine y_bi dX12_letters_108 ⟨by decide, by decide⟩ ?_
      refine y_ic dX12_letters_110 ⟨by decide, by decide⟩ ?_
      refine x_callSL (c_X12_spelled (by decide) (by decide) (by decide) (by decide) (by decide) (by decide)) dX12_letters_111 lkX12_227 mfX12_spelled rfl rfl rfl (Nat.le_of_ble_eq_true rfl) (fun r111 I111 P111 hr111 hf111 => ?_)
      obtain ⟨i111, p111, q111⟩ := hf111
      rw [i111, p111, q111]
      refine x_lret dX12_letters_114 rfl ?_
      exact ⟨rfl, rfl, by rw [show k = 3 by omega]; decide +kernel⟩
    · have eo1 : off = 114 := Option.some.inj (ho1.symm.trans rfl)
      obtain rfl : tgt = 115 := by omega
      refine y_bi dX12_letters_115 ⟨by decide, by decide⟩ ?_
      refine y_bi dX12_letters_117 ⟨by decide, by decide⟩ ?_
      refine y_bi dX12_letters_119 ⟨by decide, by decide⟩ ?_
      refine y_bi dX12_letters_121 ⟨by decide, by decide⟩ ?_
      refine y_ic dX12_letters_123 ⟨by decide, by decide⟩ ?_
      refine y_ic dX12_letters_124 ⟨by decide, by decide⟩ ?_
      refine x_callSL (c_X12_spelled (by decide) (by decide) (by decide) (by decide) (by decide) (by decide)) dX12_letters_125 lkX12_227 mfX12_spelled rfl rfl rfl (Nat.le_of_ble_eq_true rfl) (fun r125 I125 P125 hr125 hf125 => ?_)
      obtain ⟨i125, p125, q125⟩ := hf125
      rw [i125, p125, q125]
      refine x_lret dX12_letters_128 rfl ?_
      exact ⟨rfl, rfl, by rw [show k = 4 by omega]; decide +kernel⟩
    · have eo1 : off = 128 := Option.some.inj (ho1.symm.trans rfl)
      obtain rfl : tgt = 129 := by omega
      refine y_bi dX12_letters_129 ⟨by decide, by decide⟩ ?_
      refine y_bi dX12_letters_131 ⟨by decide, by decide⟩ ?_
      refine y_bi dX12_letters_133 ⟨by decide, by decide⟩ ?_
      refine y_bi dX12_letters_135 ⟨by decide, by decide⟩ ?_
      refine y_bi dX12_letters_137 ⟨by decide, by decide⟩ ?_
      refine y_ic dX12_letters_139 ⟨by decide, by decide⟩ ?_
      refine x_callSL (c_X12_spelled (by decide) (by decide) (by decide) (by decide) (by decide) (by decide)) dX12_letters_140 lkX12_227 mfX12_spelled rfl rfl rfl (Nat.le_of_ble_eq_true rfl) (fun r140 I140 P140 hr140 hf140 => ?_)
      obtain ⟨i140, p140, q140⟩ := hf140
      rw [i140, p140, q140]
      refine x_lret dX12_letters_143 rfl ?_
      exact ⟨rfl, rfl, by rw [show k = 5 by omega]; decide +kernel⟩
    · have eo1 : off = 143 := Option.some.inj (ho1.symm.trans rfl)
      obtain rfl : tgt = 144 := by omega
      refine y_bi dX12_letters_144 ⟨by decide, by decide⟩ ?_
      refine y_bi dX12_letters_146 ⟨by decide, by decide⟩ ?_
      refine y_bi dX12_letters_148 ⟨by decide, by decide⟩ ?_
      refine y_ic dX12_letters_150 ⟨by decide, by decide⟩ ?_
      refine y_ic dX12_letters_151 ⟨by decide, by decide⟩ ?_
      refine y_ic dX12_letters_152 ⟨by decide, by decide⟩ ?_
      refine x_callSL (c_X12_spelled (by decide) (by decide) (by decide) (by decide) (by decide) (by decide)) dX12_letters_153 lkX12_227 mfX12_spelled rfl rfl rfl (Nat.le_of_ble_eq_true rfl) (fun r153 I153 P153 hr153 hf153 => ?_)
      obtain ⟨i153, p153, q153⟩ := hf153
      rw [i153, p153, q153]
      refine x_lret dX12_letters_156 rfl ?_
      exact ⟨rfl, rfl, by rw [show k = 6 by omega]; decide +kernel⟩
    · have eo1 : off = 156 := Option.some.inj (ho1.symm.trans rfl)
      obtain rfl : tgt = 157 := by omega
      refine y_bi dX12_letters_157 ⟨by decide, by decide⟩ ?_
      refine y_bi dX12_letters_159 ⟨by decide, by decide⟩ ?_
      refine y_bi dX12_letters_161 ⟨by decide, by decide⟩ ?_
      refine y_bi dX12_letters_163 ⟨by decide, by decide⟩ ?_
      refine y_bi dX12_letters_165 ⟨by decide, by decide⟩ ?_
      refine y_ic dX12_letters_167 ⟨by decide, by decide⟩ ?_
      refine x_callSL (c_X12_spelled (by decide) (by decide) (by decide) (by decide) (by decide) (by decide)) dX12_letters_168 lkX12_227 mfX12_spelled rfl rfl rfl (Nat.le_of_ble_eq_true rfl) (fun r168 I168 P168 hr168 hf168 => ?_)
      obtain ⟨i168, p168, q168⟩ := hf168
      rw [i168, p168, q168]
      refine x_lret dX12_letters_171 rfl ?_
      exact ⟨rfl, rfl, by rw [show k = 7 by omega]; decide +kernel⟩
    · have eo1 : off = 171 := Option.some.inj (ho1.symm.trans rfl)
      obtain rfl : tgt = 172 := by omega
      refine y_bi dX12_letters_172 ⟨by decide, by decide⟩ ?_
      refine y_bi dX12_letters_174 ⟨by decide, by decide⟩ ?_
      refine y_bi dX12_letters_176 ⟨by decide, by decide⟩ ?_
      refine y_bi dX12_letters_178 ⟨by decide, by decide⟩ ?_
      refine y_bi dX12_letters_180 ⟨by decide, by decide⟩ ?_
      refine y_ic dX12_letters_182 ⟨by decide, by decide⟩ ?_
      refine x_callSL (c_X12_spelled (by decide) (by decide) (by decide) (by decide) (by decide) (by decide)) dX12_letters_183 lkX12_227 mfX12_spelled rfl rfl rfl (Nat.le_of_ble_eq_true rfl) (fun r183 I183 P183 hr183 hf183 => ?_)
      obtain ⟨i183, p183, q183⟩ := hf183
      rw [i183, p183, q183]
      refine x_lret dX12_letters_186 rfl ?_
      exact ⟨rfl, rfl, by rw [show k = 8 by omega]; decide +kernel⟩
    · have eo1 : off = 186 := Option.some.inj (ho1.symm.trans rfl)
      obtain rfl : tgt = 187 := by omega
      refine y_bi dX12_letters_187 ⟨by decide, by decide⟩ ?_
      refine y_bi dX12_letters_189 ⟨by decide, by decide⟩ ?_
      refine y_bi dX12_letters_191 ⟨by decide, by decide⟩ ?_
      refine y_ic dX12_letters_193 ⟨by decide, by decide⟩ ?_
      refine y_ic dX12_letters_194 ⟨by decide, by decide⟩ ?_
      refine y_ic dX12_letters_195 ⟨by decide, by decide⟩ ?_
      refine x_callSL (c_X12_spelled (by decide) (by decide) (by decide) (by decide) (by decide) (by decide)) dX12_letters_196 lkX12_227 mfX12_spelled rfl rfl rfl (Nat.le_of_ble_eq_true rfl) (fun r196 I196 P196 hr196 hf196 => ?_)
      obtain ⟨i196, p196, q196⟩ := hf196
      rw [i196, p196, q196]
      refine x_lret dX12_letters_199 rfl ?_
      exact ⟨rfl, rfl, by rw [show k = 9 by omega]; decide +kernel⟩
  · refine y_bi dX12_letters_200 ⟨by decide, by decide⟩ ?_
    refine y_bi dX12_letters_202 ⟨by decide, by decide⟩ ?_
    refine y_bi dX12_letters_204 ⟨by decide, by decide⟩ ?_
    refine y_bi dX12_letters_206 ⟨by decide, by decide⟩ ?_
    refine y_ic dX12_letters_208 ⟨by decide, by decide⟩ ?_
    refine y_ic dX12_letters_209 ⟨by decide, by decide⟩ ?_
    refine x_callSL (c_X12_spelled (by decide) (by decide) (by decide) (by decide) (by decide) (by decide)) dX12_letters_210 lkX12_227 mfX12_spelled rfl rfl rfl (Nat.le_of_ble_eq_true rfl) (fun r210 I210 P210 hr210 hf210 => ?_)
    obtain ⟨i210, p210, q210⟩ := hf210
    rw [i210, p210, q210]
    refine x_lret dX12_letters_213 rfl ?_
    exact ⟨rfl, rfl, by rw [show k = 10 by omega]; decide +kernel⟩
theorem c_X12_is {tk : Tn} {i w : Int} (hW : WP P) (hk : KR I tk i) (hw : 0 ≤ w ∧ w < 11) : Cv G mX12_is (d + 2) 0 0 [.inr (.inl 91), .inl w] NO I P (qI NO (fun r I' P' => I' = I ∧ P' = P ∧ ((r = 1 ∧ tk 0 i = 4 + w) ∨ (r = 0 ∧ tk 0 i ≠ 4 + w)))) := by
  have h := hk.2.2.2.2.2 w hw.1 hw.2
  refine x_enter mfX12_is rfl (Nat.le_of_ble_eq_true rfl) (fun _ => ?_)
  refine y_aln (i := 0) dX12_is_0 at91.ne0 rfl rfl ?_
  refine y_geti (z := 22) dX12_is_1 frX12_214 cfX12 at91 rfl rfl ?_
  refine y_ic dX12_is_4 ⟨by decide, by decide⟩ ?_
  refine x_icmp_ne (tgt := 33) dX12_is_5 rfl (fun h5 => ?_) (fun h5 => ?_)
  · refine y_ic dX12_is_33 ⟨by decide, by decide⟩ ?_
    refine x_zret dX12_is_34 (by omega) rfl ?_
    first | exact ⟨rfl, rfl, Or.inl ⟨rfl, h.mp ⟨by omega, by omega, h26'⟩⟩⟩ | exact ⟨rfl, rfl, Or.inr ⟨rfl, fun q => absurd (h.mpr q).1 (by omega)⟩⟩ | exact ⟨rfl, rfl, Or.inr ⟨rfl, fun q => absurd (h.mpr q).2.1 (by omega)⟩⟩ | exact ⟨rfl, rfl, Or.inr ⟨rfl, fun q => h26' (h.mpr q).2.2⟩⟩
  · refine y_aln (i := 0) dX12_is_8 at91.ne0 rfl rfl ?_
    refine y_geti (z := 24) dX12_is_9 frX12_224 cfX12 at91 rfl rfl ?_
    refine y_bi dX12_is_12 ⟨by decide, by decide⟩ ?_
    refine x_icmp_ge (tgt := 33) dX12_is_14 rfl (fun h14 => ?_) (fun h14 => ?_)
    · refine y_ic dX12_is_33 ⟨by decide, by decide⟩ ?_
      refine x_zret dX12_is_34 (by omega) rfl ?_
      first | exact ⟨rfl, rfl, Or.inl ⟨rfl, h.mp ⟨by omega, by omega, h26'⟩⟩⟩ | exact ⟨rfl, rfl, Or.inr ⟨rfl, fun q => absurd (h.mpr q).1 (by omega)⟩⟩ | exact ⟨rfl, rfl, Or.inr ⟨rfl, fun q => absurd (h.mpr q).2.1 (by omega)⟩⟩ | exact ⟨rfl, rfl, Or.inr ⟨rfl, fun q => h26' (h.mpr q).2.2⟩⟩
    · refine y_aln (i := 0) dX12_is_17 at91.ne0 rfl rfl ?_
      refine y_getl (z := 26) dX12_is_18 frX12_207 cfX12 at91 rfl rfl ?_
      refine x_iload_n (i := 1) dX12_is_21 rfl rfl ?_
      refine x_callSL (c_X12_letters hw) dX12_is_22 lkX12_231 mfX12_letters rfl rfl rfl (Nat.le_of_ble_eq_true rfl) (fun r22 I22 P22 hr22 hf22 => ?_)
      obtain ⟨i22, p22, q22⟩ := hf22
      rw [i22, p22, q22]
      refine x_lcmp dX12_is_25 ?_
      refine x_if_ne (tgt := 33) dX12_is_26 rfl (fun h26 => ?_) (fun h26 => ?_)
      · have h26' : I 91 26 ≠ ltS w := fun q => h26 (cmpI_0.mpr q)
        refine y_ic dX12_is_33 ⟨by decide, by decide⟩ ?_
        refine x_zret dX12_is_34 (by omega) rfl ?_
        first | exact ⟨rfl, rfl, Or.inl ⟨rfl, h.mp ⟨by omega, by omega, h26'⟩⟩⟩ | exact ⟨rfl, rfl, Or.inr ⟨rfl, fun q => absurd (h.mpr q).1 (by omega)⟩⟩ | exact ⟨rfl, rfl, Or.inr ⟨rfl, fun q => absurd (h.mpr q).2.1 (by omega)⟩⟩ | exact ⟨rfl, rfl, Or.inr ⟨rfl, fun q => h26' (h.mpr q).2.2⟩⟩
      · have h26' : I 91 26 = ltS w := cmpI_0.mp (Decidable.not_not.mp (fun q => q h26))
        refine y_ic dX12_is_29 ⟨by decide, by decide⟩ ?_
        refine x_goto (tgt := 34) dX12_is_30 rfl ?_
        refine x_zret dX12_is_34 (by omega) rfl ?_
        first | exact ⟨rfl, rfl, Or.inl ⟨rfl, h.mp ⟨by omega, by omega, h26'⟩⟩⟩ | exact ⟨rfl, rfl, Or.inr ⟨rfl, fun q => absurd (h.mpr q).1 (by omega)⟩⟩ | exact ⟨rfl, rfl, Or.inr ⟨rfl, fun q => absurd (h.mpr q).2.1 (by omega)⟩⟩ | exact ⟨rfl, rfl, Or.inr ⟨rfl, fun q => h26' (h.mpr q).2.2⟩⟩
theorem c_X12_wrong {tp : Rw} {n i w : Int} {x : Int × Int} (hW : WP P) (hR : RSt I tp n x i) (hw : w ≠ 0) : Cv G mX12_wrong d 0 0 [.inr (.inl 91), .inl w] NO I P (qV (fun n' I' P' => n' = NO ∧ P' = P ∧ Fr [] [18, 19] I I' ∧ RSt I' tp n (chk x (w, tkS tp n 1 i)) i)) := by
  refine x_enter mfX12_wrong rfl (Nat.le_of_ble_eq_true rfl) (fun _ => ?_)
  rcases hR with ⟨h1, h2⟩ | ⟨h1, h2, h3⟩
  · skip
    refine y_aln (i := 0) dX12_wrong_0 at91.ne0 rfl rfl ?_
    refine y_geti (z := 18) dX12_wrong_1 frX12_235 cfX12 at91 rfl rfl ?_
    refine x_if_eq (tgt := 8) dX12_wrong_4 rfl (fun h4 => ?_) (fun h4 => ?_)
    · refine y_aln (i := 0) dX12_wrong_8 at91.ne0 rfl rfl ?_
      refine x_iload_n (i := 1) dX12_wrong_9 rfl rfl ?_
      refine y_puti (z := 18) dX12_wrong_10 frX12_235 cfX12 at91 rfl rfl rfl ?_
      refine y_aln (i := 0) dX12_wrong_13 at91.ne0 rfl rfl ?_
      refine y_aln (i := 0) dX12_wrong_14 at91.ne0 rfl rfl ?_
      refine y_geti (z := 23) dX12_wrong_15 frX12_204 cfX12 at91 rfl rfl ?_
      refine y_puti (z := 19) dX12_wrong_18 frX12_47 cfX12 at91 rfl rfl rfl ?_
      refine x_vret dX12_wrong_21 rfl ?_
      refine ⟨rfl, rfl, (Fr.rf.uf (by decide)).uf (by decide), ?_⟩
      rw [chk_0 h1]
      exact Or.inr ⟨hw, by rw [uI_eq, u1_ne (by decide), uI_eq, u1_eq], by rw [uI_eq, u1_eq, uI_eq, u1_ne (by decide)]; exact h2.2.2.2.2.1⟩
    · exact absurd h2.1 h4
  · skip
    refine y_aln (i := 0) dX12_wrong_0 at91.ne0 rfl rfl ?_
    refine y_geti (z := 18) dX12_wrong_1 frX12_235 cfX12 at91 rfl rfl ?_
    refine x_if_eq (tgt := 8) dX12_wrong_4 rfl (fun h4 => ?_) (fun h4 => ?_)
    · exact absurd (h2.symm.trans h4) h1
    · refine x_vret dX12_wrong_7 rfl ?_
      refine ⟨rfl, rfl, Fr.rf, ?_⟩
      rw [chk_1 h1]
      exact Or.inr ⟨h1, h2, h3⟩
theorem c_X12_isGood {tp : Rw} {n i : Int} {x : Int × Int} (hW : WP P) (hR : RSt I tp n x i) : Cv G mX12_isGood d 0 0 [.inr (.inl 91)] NO I P (qI NO (fun r I' P' => I' = I ∧ P' = P ∧ ((r = 1 ∧ x.1 = 0) ∨ (r = 0 ∧ x.1 ≠ 0)))) := by
  have h : (I 91 18 = 0 ∧ x.1 = 0) ∨ (I 91 18 ≠ 0 ∧ x.1 ≠ 0) := by
    rcases hR with ⟨h1, h2⟩ | ⟨h1, h2, h3⟩
    · exact Or.inl ⟨h2.1, h1⟩
    · exact Or.inr ⟨by rw [h2]; exact h1, h1⟩
  refine x_enter mfX12_isGood rfl (Nat.le_of_ble_eq_true rfl) (fun _ => ?_)
  refine y_aln (i := 0) dX12_isGood_0 at91.ne0 rfl rfl ?_
  refine y_geti (z := 18) dX12_isGood_1 frX12_235 cfX12 at91 rfl rfl ?_
  refine x_if_ne (tgt := 11) dX12_isGood_4 rfl (fun h4 => ?_) (fun h4 => ?_)
  · refine y_ic dX12_isGood_11 ⟨by decide, by decide⟩ ?_
    refine x_zret dX12_isGood_12 (by omega) rfl ?_
    exact ⟨rfl, rfl, by omega⟩
  · refine y_ic dX12_isGood_7 ⟨by decide, by decide⟩ ?_
    refine x_goto (tgt := 12) dX12_isGood_8 rfl ?_
    refine x_zret dX12_isGood_12 (by omega) rfl ?_
    exact ⟨rfl, rfl, by omega⟩
theorem c_X12_number {tp : Rw} {n i lo hi : Int} {x : Int × Int} (hW : WP P) (hi0 : 0 ≤ i) (hR : RSt I tp n x i) (hlo : 0 ≤ lo) : Cv G mX12_number (d + 2) 0 0 [.inr (.inl 91), .inl lo, .inl hi] NO I P (qI NO (fun r I' P' => P' = P ∧ Fr [] pF I I' ∧ RSt I' tp n (chk x (numC (tkS tp n) lo hi i, tkS tp n 1 i)) (i + 1) ∧ (0 ≤ r ∧ r ≤ 9999) ∧ ((chk x (numC (tkS tp n) lo hi i, tkS tp n 1 i)).1 = 0 → r = tkS tp n 2 i))) := by
  refine x_enter mfX12_number rfl (Nat.le_of_ble_eq_true rfl) (fun _ => ?_)
  have hE : ∀ (K : Mem) (c : Int), x.1 = 0 → c = numC (tkS tp n) lo hi i → RSt K tp n (c, tkS tp n 1 i) i → Fr [] [18, 19] I K → (0 ≤ K 91 25 ∧ K 91 25 ≤ 9999) → (c = 0 → K 91 25 = tkS tp n 2 i) → V G mX12_number (d + 2) 0 0 54 [some (.inr (.inl 91)), none, none, none] [] NO K P (qI NO (fun r I' P' => P' = P ∧ Fr [] pF I I' ∧ RSt I' tp n (chk x (numC (tkS tp n) lo hi i, tkS tp n 1 i)) (i + 1) ∧ (0 ≤ r ∧ r ≤ 9999) ∧ ((chk x (numC (tkS tp n) lo hi i, tkS tp n 1 i)).1 = 0 → r = tkS tp n 2 i))) := fun K c hx hc hRK hFr hb hv => by
    refine y_aln (i := 0) dX12_number_54 at91.ne0 rfl rfl ?_
    refine y_geti (z := 25) dX12_number_55 frX12_211 cfX12 at91 rfl rfl ?_
    refine x_istore_n (i := 3) dX12_number_58 rfl rfl (Nat.le_of_ble_eq_true rfl) ?_
    refine y_aln (i := 0) dX12_number_59 at91.ne0 rfl rfl ?_
    refine x_callVI (c_X12_isGood hW hRK) dX12_number_60 lkX12_238 mfX12_isGood cfX12 at91 rfl rfl rfl rfl (Nat.le_of_ble_eq_true rfl) (fun r60 I60 P60 hr60 hf60 => ?_)
    obtain ⟨i60, p60, q60⟩ := hf60
    rw [i60, p60]
    refine x_if_eq (tgt := 70) dX12_number_63 rfl (fun h63 => ?_) (fun h63 => ?_)
    · have hc1 : c ≠ 0 := (q60.resolve_left (fun q => by have := q.1; omega)).2
      refine x_iload_n (i := 3) dX12_number_70 rfl rfl ?_
      refine x_iret dX12_number_71 rfl ?_
      first | exact ⟨rfl, (hFr.mo (by decide) (by decide)).tr (fr67.mo (by decide) (by decide)), by rw [chk_0 hx, ← hc]; exact RSt.o hc0 (hg.go fr67 tk67), hb, fun _ => hv hc0⟩ | exact ⟨rfl, hFr.mo (by decide) (by decide), by rw [chk_0 hx, ← hc]; exact Or.inr ⟨hc1, (hRK.resolve_left (fun q => hc1 q.1)).2⟩, hb, fun q => absurd q (by rw [chk_0 hx, ← hc]; exact hc1)⟩
    · have hc0 : c = 0 := (q60.resolve_right (fun q => by have := q.1; omega)).2
      have hg := hRK.g hc0
      refine y_aln (i := 0) dX12_number_66 at91.ne0 rfl rfl ?_
      refine x_callVV (c_X12_goes hW hg.2.2.1 (by omega) hg.2.2.2.1) dX12_number_67 lkX12_242 mfX12_goes cfX12 at91 rfl rfl rfl rfl (Nat.le_of_ble_eq_true rfl) (fun n67 I67 P67 hf67 => ?_)
      obtain ⟨rfl, rfl, fr67, tk67⟩ := hf67
      refine x_iload_n (i := 3) dX12_number_70 rfl rfl ?_
      refine x_iret dX12_number_71 rfl ?_
      first | exact ⟨rfl, (hFr.mo (by decide) (by decide)).tr (fr67.mo (by decide) (by decide)), by rw [chk_0 hx, ← hc]; exact RSt.o hc0 (hg.go fr67 tk67), hb, fun _ => hv hc0⟩ | exact ⟨rfl, hFr.mo (by decide) (by decide), by rw [chk_0 hx, ← hc]; exact Or.inr ⟨hc1, (hRK.resolve_left (fun q => hc1 q.1)).2⟩, hb, fun q => absurd q (by rw [chk_0 hx, ← hc]; exact hc1)⟩
  rcases hR with ⟨h1, h2⟩ | ⟨h1, h2, h3⟩
  · have hRg : RSt I tp n (0, 0) i := RSt.o rfl h2
    have hK := h2.2.2.2.2.2
    obtain ⟨k1, k2, k3, k4, k5, k6⟩ := hK
    refine y_aln (i := 0) dX12_number_0 at91.ne0 rfl rfl ?_
    refine x_callVI (c_X12_isGood hW hRg) dX12_number_1 lkX12_238 mfX12_isGood cfX12 at91 rfl rfl rfl rfl (Nat.le_of_ble_eq_true rfl) (fun r1 I1 P1 hr1 hf1 => ?_)
    obtain ⟨i1, p1, q1⟩ := hf1
    rw [i1, p1]
    refine x_if_ne (tgt := 9) dX12_number_4 rfl (fun h4 => ?_) (fun h4 => ?_)
    · refine y_aln (i := 0) dX12_number_9 at91.ne0 rfl rfl ?_
      refine y_geti (z := 22) dX12_number_10 frX12_214 cfX12 at91 rfl rfl ?_
      refine y_ic dX12_number_13 ⟨by decide, by decide⟩ ?_
      refine x_icmp_eq (tgt := 25) dX12_number_14 rfl (fun h14 => ?_) (fun h14 => ?_)
      · have k5' := k5 (k3.mp (by omega))
        have ek : tkS tp n 0 i = 2 := k3.mp (by omega)
        refine y_aln (i := 0) dX12_number_25 at91.ne0 rfl rfl ?_
        refine y_geti (z := 24) dX12_number_26 frX12_224 cfX12 at91 rfl rfl ?_
        refine y_ic dX12_number_29 ⟨by decide, by decide⟩ ?_
        refine x_icmp_gt (tgt := 49) dX12_number_30 rfl (fun h30 => ?_) (fun h30 => ?_)
        · refine y_aln (i := 0) dX12_number_49 at91.ne0 rfl rfl ?_
          refine y_ic dX12_number_50 ⟨by decide, by decide⟩ ?_
          refine x_callVV (c_X12_wrong hW hRg (by decide)) dX12_number_51 lkX12_245 mfX12_wrong cfX12 at91 rfl rfl rfl rfl (Nat.le_of_ble_eq_true rfl) (fun n51 I51 P51 hf51 => ?_)
          obtain ⟨rfl, rfl, fr51, rs51⟩ := hf51
          rw [chk_0 rfl] at rs51
          have y51 : I51 91 25 = I 91 25 := fr51.2 25 (by decide)
          refine x_keep [1, 0, 0, 0] ?_
          first | exact hE _ 1 h1 (by unfold numC; rw [if_pos ek]) rs19 fr19 (by rw [y19]; exact k4) (fun q => absurd q (by decide)) | exact hE _ 2 h1 (by unfold numC; rw [if_neg (fun q => q ek), if_neg (by omega)]) rs51 fr51 (by rw [y51]; exact k4) (fun q => absurd q (by decide)) | exact hE I 0 h1 (by unfold numC; rw [if_neg (fun q => q ek), if_pos (by omega)]) (RSt.o rfl h2) Fr.rf k4 (fun _ => by omega)
        · refine y_aln (i := 0) dX12_number_33 at91.ne0 rfl rfl ?_
          refine y_geti (z := 25) dX12_number_34 frX12_211 cfX12 at91 rfl rfl ?_
          refine x_iload_n (i := 1) dX12_number_37 rfl rfl ?_
          refine x_icmp_lt (tgt := 49) dX12_number_38 rfl (fun h38 => ?_) (fun h38 => ?_)
          · refine y_aln (i := 0) dX12_number_49 at91.ne0 rfl rfl ?_
            refine y_ic dX12_number_50 ⟨by decide, by decide⟩ ?_
            refine x_callVV (c_X12_wrong hW hRg (by decide)) dX12_number_51 lkX12_245 mfX12_wrong cfX12 at91 rfl rfl rfl rfl (Nat.le_of_ble_eq_true rfl) (fun n51 I51 P51 hf51 => ?_)
            obtain ⟨rfl, rfl, fr51, rs51⟩ := hf51
            rw [chk_0 rfl] at rs51
            have y51 : I51 91 25 = I 91 25 := fr51.2 25 (by decide)
            refine x_keep [1, 0, 0, 0] ?_
            first | exact hE _ 1 h1 (by unfold numC; rw [if_pos ek]) rs19 fr19 (by rw [y19]; exact k4) (fun q => absurd q (by decide)) | exact hE _ 2 h1 (by unfold numC; rw [if_neg (fun q => q ek), if_neg (by omega)]) rs51 fr51 (by rw [y51]; exact k4) (fun q => absurd q (by decide)) | exact hE I 0 h1 (by unfold numC; rw [if_neg (fun q => q ek), if_pos (by omega)]) (RSt.o rfl h2) Fr.rf k4 (fun _ => by omega)
          · refine y_aln (i := 0) dX12_number_41 at91.ne0 rfl rfl ?_
            refine y_geti (z := 25) dX12_number_42 frX12_211 cfX12 at91 rfl rfl ?_
            refine x_iload_n (i := 2) dX12_number_45 rfl rfl ?_
            refine x_icmp_le (tgt := 54) dX12_number_46 rfl (fun h46 => ?_) (fun h46 => ?_)
            · refine x_keep [1, 0, 0, 0] ?_
              first | exact hE _ 1 h1 (by unfold numC; rw [if_pos ek]) rs19 fr19 (by rw [y19]; exact k4) (fun q => absurd q (by decide)) | exact hE _ 2 h1 (by unfold numC; rw [if_neg (fun q => q ek), if_neg (by omega)]) rs51 fr51 (by rw [y51]; exact k4) (fun q => absurd q (by decide)) | exact hE I 0 h1 (by unfold numC; rw [if_neg (fun q => q ek), if_pos (by omega)]) (RSt.o rfl h2) Fr.rf k4 (fun _ => by omega)
            · refine y_aln (i := 0) dX12_number_49 at91.ne0 rfl rfl ?_
              refine y_ic dX12_number_50 ⟨by decide, by decide⟩ ?_
              refine x_callVV (c_X12_wrong hW hRg (by decide)) dX12_number_51 lkX12_245 mfX12_wrong cfX12 at91 rfl rfl rfl rfl (Nat.le_of_ble_eq_true rfl) (fun n51 I51 P51 hf51 => ?_)
              obtain ⟨rfl, rfl, fr51, rs51⟩ := hf51
              rw [chk_0 rfl] at rs51
              have y51 : I51 91 25 = I 91 25 := fr51.2 25 (by decide)
              refine x_keep [1, 0, 0, 0] ?_
              first | exact hE _ 1 h1 (by unfold numC; rw [if_pos ek]) rs19 fr19 (by rw [y19]; exact k4) (fun q => absurd q (by decide)) | exact hE _ 2 h1 (by unfold numC; rw [if_neg (fun q => q ek), if_neg (by omega)]) rs51 fr51 (by rw [y51]; exact k4) (fun q => absurd q (by decide)) | exact hE I 0 h1 (by unfold numC; rw [if_neg (fun q => q ek), if_pos (by omega)]) (RSt.o rfl h2) Fr.rf k4 (fun _ => by omega)
      · have ek : tkS tp n 0 i ≠ 2 := fun q => h14 (k3.mpr q)
        refine y_aln (i := 0) dX12_number_17 at91.ne0 rfl rfl ?_
        refine y_ic dX12_number_18 ⟨by decide, by decide⟩ ?_
        refine x_callVV (c_X12_wrong hW hRg (by decide)) dX12_number_19 lkX12_245 mfX12_wrong cfX12 at91 rfl rfl rfl rfl (Nat.le_of_ble_eq_true rfl) (fun n19 I19 P19 hf19 => ?_)
        obtain ⟨rfl, rfl, fr19, rs19⟩ := hf19
        rw [chk_0 rfl] at rs19
        have y19 : I19 91 25 = I 91 25 := fr19.2 25 (by decide)
        refine x_goto (tgt := 54) dX12_number_22 rfl ?_
        refine x_keep [1, 0, 0, 0] ?_
        first | exact hE _ 1 h1 (by unfold numC; rw [if_pos ek]) rs19 fr19 (by rw [y19]; exact k4) (fun q => absurd q (by decide)) | exact hE _ 2 h1 (by unfold numC; rw [if_neg (fun q => q ek), if_neg (by omega)]) rs51 fr51 (by rw [y51]; exact k4) (fun q => absurd q (by decide)) | exact hE I 0 h1 (by unfold numC; rw [if_neg (fun q => q ek), if_pos (by omega)]) (RSt.o rfl h2) Fr.rf k4 (fun _ => by omega)
    · exact absurd (q1.resolve_left (fun q => by have := q.1; omega)).2 (fun q => q rfl)
  · have hRb : RSt I tp n x i := Or.inr ⟨h1, h2, h3⟩
    refine y_aln (i := 0) dX12_number_0 at91.ne0 rfl rfl ?_
    refine x_callVI (c_X12_isGood hW hRb) dX12_number_1 lkX12_238 mfX12_isGood cfX12 at91 rfl rfl rfl rfl (Nat.le_of_ble_eq_true rfl) (fun r1 I1 P1 hr1 hf1 => ?_)
    obtain ⟨i1, p1, q1⟩ := hf1
    rw [i1, p1]
    refine x_if_ne (tgt := 9) dX12_number_4 rfl (fun h4 => ?_) (fun h4 => ?_)
    · exact absurd (q1.resolve_right (fun q => by have := q.1; omega)).2 h1
    · refine y_ic dX12_number_7 ⟨by decide, by decide⟩ ?_
      refine x_iret dX12_number_8 rfl ?_
      exact ⟨rfl, Fr.rf, hRb.b h1, ⟨by decide, by decide⟩, fun q => absurd (chk_z.mp q).1 h1⟩
theorem c_X12_among {tp : Rw} {n i m : Int} {x : Int × Int} (hW : WP P) (hR : RSt I tp n x i) : Cv G mX12_among (d + 1) 0 0 [.inr (.inl 91), .inl m] NO I P (qI NO (fun r I' P' => P' = P ∧ Fr [] [18, 19] I I' ∧ RSt I' tp n (chk x (belC (tkS tp n) m i, tkS tp n 1 i)) i ∧ ((r = 1 ∧ (chk x (belC (tkS tp n) m i, tkS tp n 1 i)).1 = 0 ∧ I' 91 25 = tkS tp n 2 i ∧ 0 ≤ tkS tp n 2 i ∧ tkS tp n 2 i < m) ∨ (r = 0 ∧ (chk x (belC (tkS tp n) m i, tkS tp n 1 i)).1 ≠ 0)))) := by
  refine x_enter mfX12_among rfl (Nat.le_of_ble_eq_true rfl) (fun _ => ?_)
  have hE : ∀ (K : Mem) (c : Int), x.1 = 0 → c = belC (tkS tp n) m i → RSt K tp n (c, tkS tp n 1 i) i → Fr [] [18, 19] I K → (c = 0 → K 91 25 = tkS tp n 2 i ∧ 0 ≤ tkS tp n 2 i ∧ tkS tp n 2 i < m) → V G mX12_among (d + 1) 0 0 54 [some (.inr (.inl 91)), none] [] NO K P (qI NO (fun r I' P' => P' = P ∧ Fr [] [18, 19] I I' ∧ RSt I' tp n (chk x (belC (tkS tp n) m i, tkS tp n 1 i)) i ∧ ((r = 1 ∧ (chk x (belC (tkS tp n) m i, tkS tp n 1 i)).1 = 0 ∧ I' 91 25 = tkS tp n 2 i ∧ 0 ≤ tkS tp n 2 i ∧ tkS tp n 2 i < m) ∨ (r = 0 ∧ (chk x (belC (tkS tp n) m i, tkS tp n 1 i)).1 ≠ 0)))) := fun K c hx hc hRK hFr hv => by
    refine y_aln (i := 0) dX12_among_54 at91.ne0 rfl rfl ?_
    refine x_callVI (c_X12_isGood hW hRK) dX12_among_55 lkX12_238 mfX12_isGood cfX12 at91 rfl rfl rfl rfl (Nat.le_of_ble_eq_true rfl) (fun r55 I55 P55 hr55 hf55 => ?_)
    obtain ⟨i55, p55, q55⟩ := hf55
    rw [i55, p55]
    refine x_zret dX12_among_58 (by omega) rfl ?_
    refine ⟨rfl, hFr, by rw [chk_0 hx, ← hc]; exact hRK, ?_⟩
    rw [chk_0 hx, ← hc]
    rcases q55 with ⟨q1, q2⟩ | ⟨q1, q2⟩
    · exact Or.inl ⟨q1, q2, hv q2⟩
    · exact Or.inr ⟨q1, q2⟩
  rcases hR with ⟨h1, h2⟩ | ⟨h1, h2, h3⟩
  · have hRg : RSt I tp n (0, 0) i := RSt.o rfl h2
    have hK := h2.2.2.2.2.2
    obtain ⟨k1, k2, k3, k4, k5, k6⟩ := hK
    refine y_aln (i := 0) dX12_among_0 at91.ne0 rfl rfl ?_
    refine x_callVI (c_X12_isGood hW hRg) dX12_among_1 lkX12_238 mfX12_isGood cfX12 at91 rfl rfl rfl rfl (Nat.le_of_ble_eq_true rfl) (fun r1 I1 P1 hr1 hf1 => ?_)
    obtain ⟨i1, p1, q1⟩ := hf1
    rw [i1, p1]
    refine x_if_ne (tgt := 9) dX12_among_4 rfl (fun h4 => ?_) (fun h4 => ?_)
    · refine y_aln (i := 0) dX12_among_9 at91.ne0 rfl rfl ?_
      refine y_geti (z := 22) dX12_among_10 frX12_214 cfX12 at91 rfl rfl ?_
      refine y_ic dX12_among_13 ⟨by decide, by decide⟩ ?_
      refine x_icmp_eq (tgt := 25) dX12_among_14 rfl (fun h14 => ?_) (fun h14 => ?_)
      · have k5' := k5 (k3.mp (by omega))
        have ek : tkS tp n 0 i = 2 := k3.mp (by omega)
        refine y_aln (i := 0) dX12_among_25 at91.ne0 rfl rfl ?_
        refine y_geti (z := 24) dX12_among_26 frX12_224 cfX12 at91 rfl rfl ?_
        refine y_ic dX12_among_29 ⟨by decide, by decide⟩ ?_
        refine x_icmp_le (tgt := 41) dX12_among_30 rfl (fun h30 => ?_) (fun h30 => ?_)
        · refine y_aln (i := 0) dX12_among_41 at91.ne0 rfl rfl ?_
          refine y_geti (z := 25) dX12_among_42 frX12_211 cfX12 at91 rfl rfl ?_
          refine x_iload_n (i := 1) dX12_among_45 rfl rfl ?_
          refine x_icmp_lt (tgt := 54) dX12_among_46 rfl (fun h46 => ?_) (fun h46 => ?_)
          · refine x_keep [1, 0] ?_
            first | exact hE _ 1 h1 (by unfold belC; rw [if_pos ek]) rs19 fr19 (fun q => absurd q (by decide)) | exact hE _ 2 h1 (by unfold belC; rw [if_neg (fun q => q ek), if_pos (by omega)]) rs35 fr35 (fun q => absurd q (by decide)) | exact hE _ 3 h1 (by unfold belC; rw [if_neg (fun q => q ek), if_neg (by omega), if_neg (by omega)]) rs51 fr51 (fun q => absurd q (by decide)) | exact hE I 0 h1 (by unfold belC; rw [if_neg (fun q => q ek), if_neg (by omega), if_pos (by omega)]) (RSt.o rfl h2) Fr.rf (fun _ => by omega)
          · refine y_aln (i := 0) dX12_among_49 at91.ne0 rfl rfl ?_
            refine y_ic dX12_among_50 ⟨by decide, by decide⟩ ?_
            refine x_callVV (c_X12_wrong hW hRg (by decide)) dX12_among_51 lkX12_245 mfX12_wrong cfX12 at91 rfl rfl rfl rfl (Nat.le_of_ble_eq_true rfl) (fun n51 I51 P51 hf51 => ?_)
            obtain ⟨rfl, rfl, fr51, rs51⟩ := hf51
            rw [chk_0 rfl] at rs51
            refine x_keep [1, 0] ?_
            first | exact hE _ 1 h1 (by unfold belC; rw [if_pos ek]) rs19 fr19 (fun q => absurd q (by decide)) | exact hE _ 2 h1 (by unfold belC; rw [if_neg (fun q => q ek), if_pos (by omega)]) rs35 fr35 (fun q => absurd q (by decide)) | exact hE _ 3 h1 (by unfold belC; rw [if_neg (fun q => q ek), if_neg (by omega), if_neg (by omega)]) rs51 fr51 (fun q => absurd q (by decide)) | exact hE I 0 h1 (by unfold belC; rw [if_neg (fun q => q ek), if_neg (by omega), if_pos (by omega)]) (RSt.o rfl h2) Fr.rf (fun _ => by omega)
        · refine y_aln (i := 0) dX12_among_33 at91.ne0 rfl rfl ?_
          refine y_ic dX12_among_34 ⟨by decide, by decide⟩ ?_
          refine x_callVV (c_X12_wrong hW hRg (by decide)) dX12_among_35 lkX12_245 mfX12_wrong cfX12 at91 rfl rfl rfl rfl (Nat.le_of_ble_eq_true rfl) (fun n35 I35 P35 hf35 => ?_)
          obtain ⟨rfl, rfl, fr35, rs35⟩ := hf35
          rw [chk_0 rfl] at rs35
          refine x_goto (tgt := 54) dX12_among_38 rfl ?_
          refine x_keep [1, 0] ?_
          first | exact hE _ 1 h1 (by unfold belC; rw [if_pos ek]) rs19 fr19 (fun q => absurd q (by decide)) | exact hE _ 2 h1 (by unfold belC; rw [if_neg (fun q => q ek), if_pos (by omega)]) rs35 fr35 (fun q => absurd q (by decide)) | exact hE _ 3 h1 (by unfold belC; rw [if_neg (fun q => q ek), if_neg (by omega), if_neg (by omega)]) rs51 fr51 (fun q => absurd q (by decide)) | exact hE I 0 h1 (by unfold belC; rw [if_neg (fun q => q ek), if_neg (by omega), if_pos (by omega)]) (RSt.o rfl h2) Fr.rf (fun _ => by omega)
      · have ek : tkS tp n 0 i ≠ 2 := fun q => h14 (k3.mpr q)
        refine y_aln (i := 0) dX12_among_17 at91.ne0 rfl rfl ?_
        refine y_ic dX12_among_18 ⟨by decide, by decide⟩ ?_
        refine x_callVV (c_X12_wrong hW hRg (by decide)) dX12_among_19 lkX12_245 mfX12_wrong cfX12 at91 rfl rfl rfl rfl (Nat.le_of_ble_eq_true rfl) (fun n19 I19 P19 hf19 => ?_)
        obtain ⟨rfl, rfl, fr19, rs19⟩ := hf19
        rw [chk_0 rfl] at rs19
        refine x_goto (tgt := 54) dX12_among_22 rfl ?_
        refine x_keep [1, 0] ?_
        first | exact hE _ 1 h1 (by unfold belC; rw [if_pos ek]) rs19 fr19 (fun q => absurd q (by decide)) | exact hE _ 2 h1 (by unfold belC; rw [if_neg (fun q => q ek), if_pos (by omega)]) rs35 fr35 (fun q => absurd q (by decide)) | exact hE _ 3 h1 (by unfold belC; rw [if_neg (fun q => q ek), if_neg (by omega), if_neg (by omega)]) rs51 fr51 (fun q => absurd q (by decide)) | exact hE I 0 h1 (by unfold belC; rw [if_neg (fun q => q ek), if_neg (by omega), if_pos (by omega)]) (RSt.o rfl h2) Fr.rf (fun _ => by omega)
    · exact absurd (q1.resolve_left (fun q => by have := q.1; omega)).2 (fun q => q rfl)
  · have hRb : RSt I tp n x i := Or.inr ⟨h1, h2, h3⟩
    refine y_aln (i := 0) dX12_among_0 at91.ne0 rfl rfl ?_
    refine x_callVI (c_X12_isGood hW hRb) dX12_among_1 lkX12_238 mfX12_isGood cfX12 at91 rfl rfl rfl rfl (Nat.le_of_ble_eq_true rfl) (fun r1 I1 P1 hr1 hf1 => ?_)
    obtain ⟨i1, p1, q1⟩ := hf1
    rw [i1, p1]
    refine x_if_ne (tgt := 9) dX12_among_4 rfl (fun h4 => ?_) (fun h4 => ?_)
    · exact absurd (q1.resolve_right (fun q => by have := q.1; omega)).2 h1
    · refine y_ic dX12_among_7 ⟨by decide, by decide⟩ ?_
      refine x_zret dX12_among_8 (by omega) rfl ?_
      exact ⟨rfl, Fr.rf, hRb.b h1, Or.inr ⟨rfl, fun q => absurd (chk_z.mp q).1 h1⟩⟩
theorem c_X12_taken {tp : Rw} {n i m : Int} {x : Int × Int} (hW : WP P) (hi0 : 0 ≤ i) (hR : RSt I tp n x i) : Cv G mX12_taken (d + 2) 0 0 [.inr (.inl 91), .inl m] NO I P (qI NO (fun r I' P' => P' = P ∧ Fr [] pF I I' ∧ RSt I' tp n (chk x (belC (tkS tp n) m i, tkS tp n 1 i)) (i + 1) ∧ ((chk x (belC (tkS tp n) m i, tkS tp n 1 i)).1 = 0 → r = tkS tp n 2 i ∧ 0 ≤ r ∧ r < m))) := by
  refine x_enter mfX12_taken rfl (Nat.le_of_ble_eq_true rfl) (fun _ => ?_)
  obtain ⟨y, hy⟩ : ∃ y, y = chk x (belC (tkS tp n) m i, tkS tp n 1 i) := ⟨_, rfl⟩
  have hE : ∀ (K : Mem) (v : Int), RSt K tp n y i → Fr [] [18, 19] I K → (y.1 = 0 → v = tkS tp n 2 i ∧ 0 ≤ v ∧ v < m) → V G mX12_taken (d + 2) 0 0 17 [some (.inr (.inl 91)), none, some (.inl (v))] [] NO K P (qI NO (fun r I' P' => P' = P ∧ Fr [] pF I I' ∧ RSt I' tp n (chk x (belC (tkS tp n) m i, tkS tp n 1 i)) (i + 1) ∧ ((chk x (belC (tkS tp n) m i, tkS tp n 1 i)).1 = 0 → r = tkS tp n 2 i ∧ 0 ≤ r ∧ r < m))) := fun K v hRK hFr hv => by
    refine y_aln (i := 0) dX12_taken_17 at91.ne0 rfl rfl ?_
    refine x_callVI (c_X12_isGood hW hRK) dX12_taken_18 lkX12_238 mfX12_isGood cfX12 at91 rfl rfl rfl rfl (Nat.le_of_ble_eq_true rfl) (fun r18 I18 P18 hr18 hf18 => ?_)
    obtain ⟨i18, p18, q18⟩ := hf18
    rw [i18, p18]
    refine x_if_eq (tgt := 28) dX12_taken_21 rfl (fun h21 => ?_) (fun h21 => ?_)
    · have hc1 : y.1 ≠ 0 := (q18.resolve_left (fun q => by have := q.1; omega)).2
      refine x_iload_n (i := 2) dX12_taken_28 rfl rfl ?_
      refine x_iret dX12_taken_29 rfl ?_
      rw [← hy]
      first | exact ⟨rfl, (hFr.mo (by decide) (by decide)).tr (fr25.mo (by decide) (by decide)), RSt.o hc0 (hg.go fr25 tk25), hv⟩ | exact ⟨rfl, hFr.mo (by decide) (by decide), Or.inr ⟨hc1, (hRK.resolve_left (fun q => hc1 q.1)).2⟩, hv⟩
    · have hc0 : y.1 = 0 := (q18.resolve_right (fun q => by have := q.1; omega)).2
      have hg := hRK.g hc0
      refine y_aln (i := 0) dX12_taken_24 at91.ne0 rfl rfl ?_
      refine x_callVV (c_X12_goes hW hg.2.2.1 (by omega) hg.2.2.2.1) dX12_taken_25 lkX12_242 mfX12_goes cfX12 at91 rfl rfl rfl rfl (Nat.le_of_ble_eq_true rfl) (fun n25 I25 P25 hf25 => ?_)
      obtain ⟨rfl, rfl, fr25, tk25⟩ := hf25
      refine x_iload_n (i := 2) dX12_taken_28 rfl rfl ?_
      refine x_iret dX12_taken_29 rfl ?_
      rw [← hy]
      first | exact ⟨rfl, (hFr.mo (by decide) (by decide)).tr (fr25.mo (by decide) (by decide)), RSt.o hc0 (hg.go fr25 tk25), hv⟩ | exact ⟨rfl, hFr.mo (by decide) (by decide), Or.inr ⟨hc1, (hRK.resolve_left (fun q => hc1 q.1)).2⟩, hv⟩
  refine y_aln (i := 0) dX12_taken_0 at91.ne0 rfl rfl ?_
  refine x_iload_n (i := 1) dX12_taken_1 rfl rfl ?_
  refine x_callVI (c_X12_among hW hR) dX12_taken_2 lkX12_248 mfX12_among cfX12 at91 rfl rfl rfl rfl (Nat.le_of_ble_eq_true rfl) (fun r2 I2 P2 hr2 hf2 => ?_)
  rw [← hy] at hf2
  obtain ⟨rfl, fr2, rs2, h2⟩ := hf2
  refine x_if_eq (tgt := 15) dX12_taken_5 rfl (fun h5 => ?_) (fun h5 => ?_)
  · refine y_ic dX12_taken_15 ⟨by decide, by decide⟩ ?_
    refine x_istore_n (i := 2) dX12_taken_16 rfl rfl (Nat.le_of_ble_eq_true rfl) ?_
    refine x_keep [1, 0, 1] ?_
    first | exact hE _ (I2 91 25) rs2 fr2 (fun q => by obtain ⟨-, -, a1, a2, a3⟩ := h2.resolve_right (fun z => z.2 q); rw [a1]; exact ⟨rfl, a2, a3⟩) | exact hE _ 0 rs2 fr2 (fun q => absurd q (h2.resolve_left (fun z => by have := z.1; omega)).2)
  · refine y_aln (i := 0) dX12_taken_8 at91.ne0 rfl rfl ?_
    refine y_geti (z := 25) dX12_taken_9 frX12_211 cfX12 at91 rfl rfl ?_
    refine x_goto (tgt := 16) dX12_taken_12 rfl ?_
    refine x_istore_n (i := 2) dX12_taken_16 rfl rfl (Nat.le_of_ble_eq_true rfl) ?_
    refine x_keep [1, 0, 1] ?_
    first | exact hE _ (I2 91 25) rs2 fr2 (fun q => by obtain ⟨-, -, a1, a2, a3⟩ := h2.resolve_right (fun z => z.2 q); rw [a1]; exact ⟨rfl, a2, a3⟩) | exact hE _ 0 rs2 fr2 (fun q => absurd q (h2.resolve_left (fun z => by have := z.1; omega)).2)
theorem c_X12_need {tp : Rw} {n i b : Int} {x : Int × Int} (hW : WP P) (hi0 : 0 ≤ i) (hR : RSt I tp n x i) (hb : x.1 = 0 → (b ≠ 0 ↔ tkS tp n 0 i = 1)) : Cv G mX12_need (d + 2) 0 0 [.inr (.inl 91), .inl b] NO I P (qV (fun n' I' P' => n' = NO ∧ P' = P ∧ Fr [] pF I I' ∧ RSt I' tp n (chk x (if tkS tp n 0 i = 1 then 0 else 1, tkS tp n 1 i)) (i + 1))) := by
  refine x_enter mfX12_need rfl (Nat.le_of_ble_eq_true rfl) (fun _ => ?_)
  rcases id hR with ⟨h1, h2⟩ | ⟨h1, h2, h3⟩
  · have hb' := hb h1
    refine y_aln (i := 0) dX12_need_0 at91.ne0 rfl rfl ?_
    refine x_callVI (c_X12_isGood hW hR) dX12_need_1 lkX12_238 mfX12_isGood cfX12 at91 rfl rfl rfl rfl (Nat.le_of_ble_eq_true rfl) (fun r1 I1 P1 hr1 hf1 => ?_)
    obtain ⟨i1, p1, q1⟩ := hf1
    rw [i1, p1]
    refine x_if_ne (tgt := 8) dX12_need_4 rfl (fun h4 => ?_) (fun h4 => ?_)
    · refine x_iload_n (i := 1) dX12_need_8 rfl rfl ?_
      refine x_if_eq (tgt := 19) dX12_need_9 rfl (fun h9 => ?_) (fun h9 => ?_)
      · refine y_aln (i := 0) dX12_need_19 at91.ne0 rfl rfl ?_
        refine y_ic dX12_need_20 ⟨by decide, by decide⟩ ?_
        refine x_callVV (c_X12_wrong hW hR (by decide)) dX12_need_21 lkX12_245 mfX12_wrong cfX12 at91 rfl rfl rfl rfl (Nat.le_of_ble_eq_true rfl) (fun n21 I21 P21 hf21 => ?_)
        obtain ⟨rfl, rfl, fr21, rs21⟩ := hf21
        refine x_vret dX12_need_24 rfl ?_
        first | exact ⟨rfl, rfl, fr13.mo (by decide) (by decide), by rw [chk_0 h1, if_pos (hb'.mp (by omega))]; exact RSt.o rfl (h2.go fr13 tk13)⟩ | (rw [chk_0 h1] at rs21; exact ⟨rfl, rfl, fr21.mo (by decide) (by decide), by rw [chk_0 h1, if_neg (fun q => absurd (hb'.mpr q) (by omega))]; exact Or.inr ⟨(show (1 : Int) ≠ 0 by decide), (rs21.resolve_left (fun q => absurd (show (1 : Int) = 0 from q.1) (by decide))).2⟩⟩)
      · refine y_aln (i := 0) dX12_need_12 at91.ne0 rfl rfl ?_
        refine x_callVV (c_X12_goes hW h2.2.2.1 (by omega) h2.2.2.2.1) dX12_need_13 lkX12_242 mfX12_goes cfX12 at91 rfl rfl rfl rfl (Nat.le_of_ble_eq_true rfl) (fun n13 I13 P13 hf13 => ?_)
        obtain ⟨rfl, rfl, fr13, tk13⟩ := hf13
        refine x_goto (tgt := 24) dX12_need_16 rfl ?_
        refine x_vret dX12_need_24 rfl ?_
        first | exact ⟨rfl, rfl, fr13.mo (by decide) (by decide), by rw [chk_0 h1, if_pos (hb'.mp (by omega))]; exact RSt.o rfl (h2.go fr13 tk13)⟩ | (rw [chk_0 h1] at rs21; exact ⟨rfl, rfl, fr21.mo (by decide) (by decide), by rw [chk_0 h1, if_neg (fun q => absurd (hb'.mpr q) (by omega))]; exact Or.inr ⟨(show (1 : Int) ≠ 0 by decide), (rs21.resolve_left (fun q => absurd (show (1 : Int) = 0 from q.1) (by decide))).2⟩⟩)
    · exact absurd h1 (q1.resolve_left (fun q => by have := q.1; omega)).2
  · skip
    refine y_aln (i := 0) dX12_need_0 at91.ne0 rfl rfl ?_
    refine x_callVI (c_X12_isGood hW hR) dX12_need_1 lkX12_238 mfX12_isGood cfX12 at91 rfl rfl rfl rfl (Nat.le_of_ble_eq_true rfl) (fun r1 I1 P1 hr1 hf1 => ?_)
    obtain ⟨i1, p1, q1⟩ := hf1
    rw [i1, p1]
    refine x_if_ne (tgt := 8) dX12_need_4 rfl (fun h4 => ?_) (fun h4 => ?_)
    · exact absurd (q1.resolve_right (fun q => by have := q.1; omega)).2 h1
    · refine x_vret dX12_need_7 rfl ?_
      exact ⟨rfl, rfl, Fr.rf, hR.b h1⟩
end

