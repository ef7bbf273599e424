/-! ===== the reference: what a text says ===== -/
/-- what was told so far, of q people -/
def RM (K : Mem) (S : Tn) (q : Int) : Prop := (K 91 27 = S 0 1 ∧ K 91 28 = S 0 2 ∧ K 91 29 = S 0 3 ∧ K 91 30 = S 0 4 ∧ K 91 31 = S 0 5 ∧ K 91 32 = S 0 6 ∧ K 91 33 = S 0 7 ∧ K 91 34 = S 11 0) ∧ (∀ c, 0 ≤ c → c < 8 * q → K 101 c = S 1 c ∧ K 107 c = S 7 c) ∧ (∀ p, 0 ≤ p → p < q → K 102 p = S 2 p ∧ K 103 p = S 3 p) ∧ (∀ p k j, 0 ≤ p → p < q → 0 ≤ k → k < S 3 p → 0 ≤ j → j < 3 → K 104 (18 * p + 3 * k + j) = S 4 (18 * p + 3 * k + j)) ∧ (∀ t j, 0 ≤ t → t < S 0 5 → 0 ≤ j → j < 3 → K 105 (3 * t + j) = S 5 (3 * t + j)) ∧ ∀ m j, 0 ≤ m → m < S 0 6 → 0 ≤ j → j < 2 → K 106 (2 * m + j) = S 6 (2 * m + j)
def SB (S : Tn) : Prop := (0 ≤ S 0 1 ∧ S 0 1 ≤ 6) ∧ (1 ≤ S 0 2 ∧ S 0 2 ≤ 8) ∧ (0 ≤ S 0 5 ∧ S 0 5 ≤ 4) ∧ (0 ≤ S 0 6 ∧ S 0 6 ≤ 8) ∧ (∀ p, 0 ≤ S 3 p ∧ S 3 p ≤ 6) ∧ (∀ s, (S 8 s = 0 ∨ S 8 s = 1) ∧ (S 9 s = 0 ∨ S 9 s = 1)) ∧ (S 10 0 = 0 ∨ S 10 0 = 1) ∧ (S 11 0 = 0 ∨ S 11 0 = 1) ∧ (S 0 7 = 0 ∨ S 0 7 = 1)
def RLn (K : Mem) (S : Tn) : Prop := RM K S (S 0 1) ∧ SB S
def RP (K : Mem) (S : Tn) : Prop := RM K S (S 0 1 + 1) ∧ SB S ∧ S 0 1 < 6 ∧ (∀ s, 0 ≤ s → s < 8 → K 108 (8 * S 0 1 + s) = S 8 s ∧ K 109 (8 * S 0 1 + s) = S 9 s) ∧ K 110 (S 0 1) = S 10 0
def RES (Rel : Mem → Tn → Prop) (K : Mem) (tp : Rw) (n : Int) (R : Rs) : Prop := (R.1 = 0 ∧ GD K tp n R.2.2.1 ∧ Rel K R.2.2.2) ∨ (R.1 ≠ 0 ∧ K 91 18 = R.1 ∧ K 91 19 = R.2.1)
theorem RM.fr {K J : Mem} {S : Tn} {q : Int} {L : List Nat} {F : List Int} (h : RM K S q) (hf : Fr L F K J) (hL : L.all (fun a => decide (a < 101 ∨ 107 < a)) = true := by decide) (hF : F.all (fun k => decide (k < 27 ∨ 34 < k)) = true := by decide) : RM J S q := by
  have hk : ∀ k : Int, 27 ≤ k → k ≤ 34 → J 91 k = K 91 k := fun k k0 k1 => hf.2 k (fun q => by have := of_decide_eq_true (List.all_eq_true.mp hF k q); omega)
  have ha : ∀ a, 101 ≤ a → a ≤ 107 → J a = K a := fun a a0 a1 => hf.1 a (by omega) (fun q => by have := of_decide_eq_true (List.all_eq_true.mp hL a q); omega)
  unfold RM
  rw [hk 27 (by decide) (by decide), hk 28 (by decide) (by decide), hk 29 (by decide) (by decide), hk 30 (by decide) (by decide), hk 31 (by decide) (by decide), hk 32 (by decide) (by decide), hk 33 (by decide) (by decide), hk 34 (by decide) (by decide), ha 101 (by decide) (by decide), ha 102 (by decide) (by decide), ha 103 (by decide) (by decide), ha 104 (by decide) (by decide), ha 105 (by decide) (by decide), ha 106 (by decide) (by decide), ha 107 (by decide) (by decide)]
  exact h
theorem RLn.fr {K J : Mem} {S : Tn} {L : List Nat} {F : List Int} (h : RLn K S) (hf : Fr L F K J) (hL : L.all (fun a => decide (a < 101 ∨ 107 < a)) = true := by decide) (hF : F.all (fun k => decide (k < 27 ∨ 34 < k)) = true := by decide) : RLn J S := ⟨h.1.fr hf hL hF, h.2⟩
theorem RP.fr {K J : Mem} {S : Tn} {L : List Nat} {F : List Int} (h : RP K S) (hf : Fr L F K J) (hL : L.all (fun a => decide (a < 101 ∨ 110 < a)) = true := by decide) (hF : F.all (fun k => decide (k < 27 ∨ 34 < k)) = true := by decide) : RP J S := by
  have ha : ∀ a, 101 ≤ a → a ≤ 110 → J a = K a := fun a a0 a1 => hf.1 a (by omega) (fun q => by have := of_decide_eq_true (List.all_eq_true.mp hL a q); omega)
  have hL2 : L.all (fun a => decide (a < 101 ∨ 107 < a)) = true := List.all_eq_true.mpr (fun a q => by have := of_decide_eq_true (List.all_eq_true.mp hL a q); exact decide_eq_true (by omega))
  refine ⟨h.1.fr hf hL2 hF, h.2.1, h.2.2.1, ?_, ?_⟩
  · rw [ha 108 (by decide) (by decide), ha 109 (by decide) (by decide)]; exact h.2.2.2.1
  · rw [ha 110 (by decide) (by decide)]; exact h.2.2.2.2
theorem cp_1 {R : Rs} {x : Int × Int} (h : cpR R = x) : R.1 = x.1 ∧ R.2.1 = x.2 := by rw [← h]; exact ⟨rfl, rfl⟩
/-- a fault stays, whatever else changes -/
theorem RES.bad {Rel : Mem → Tn → Prop} {K : Mem} {tp : Rw} {n i : Int} {R : Rs} {x : Int × Int} (h : RSt K tp n x i) (hx : x.1 ≠ 0) (hR : cpR R = x) : RES Rel K tp n R := by
  have h1 := cp_1 hR
  have h2 := (h.resolve_left (fun q => hx q.1)).2
  exact Or.inr ⟨by rw [h1.1]; exact hx, by rw [h1.1]; exact h2.1, by rw [h1.2]; exact h2.2⟩
theorem tolS_RP {K J : Mem} {S : Tn} {A B a b : Nat} {s v : Int} (hAB : (A = 107 ∧ a = 7 ∧ B = 108 ∧ b = 8) ∨ (A = 101 ∧ a = 1 ∧ B = 109 ∧ b = 9)) (h : RP K S) (hs : 0 ≤ s ∧ s < 8) (hf : Fr [A, B] pF K J) (h1 : J A = u1 (K A) (8 * S 0 1 + s) v) (h2 : J B = u1 (K B) (8 * S 0 1 + s) 1) : RP J (uI (uI S b s 1) a (8 * S 0 1 + s) v) := by
  obtain ⟨⟨m0, m1, m2, m3, m4, m5⟩, sb, l6, t8, t10⟩ := h
  have kf : ∀ k : Int, 27 ≤ k → J 91 k = K 91 k := fun k k0 => hf.2 k (fun q => by
    have : ∀ x ∈ pF, x < 27 := by decide
    have := this k q
    omega)
  have ka : ∀ x, x ≠ 91 → x ≠ A → x ≠ B → J x = K x := fun x h0 h1 h2 => hf.1 x h0 (fun q => by simp [h1, h2] at q)
  have s0 : ∀ x, x ≠ a → x ≠ b → uI (uI S b s 1) a (8 * S 0 1 + s) v x = S x := fun x h1 h2 => by rw [uI_ne h1, uI_ne h2]
  obtain ⟨sb1, sb2, sb3, sb4, sb5, sb6, sb7, sb8, sb9⟩ := sb
  rcases hAB with ⟨rfl, rfl, rfl, rfl⟩ | ⟨rfl, rfl, rfl, rfl⟩
  · refine ⟨⟨?_, ?_, ?_, ?_, ?_, ?_⟩, ?_, ?_, ?_, ?_⟩
    · rw [kf 27 (by decide), kf 28 (by decide), kf 29 (by decide), kf 30 (by decide), kf 31 (by decide), kf 32 (by decide), kf 33 (by decide), kf 34 (by decide), s0 0 (by decide) (by decide), s0 11 (by decide) (by decide)]; exact m0
    · intro c c0 c1
      rw [s0 0 (by decide) (by decide)] at c1
      rw [ka 101 (by decide) (by decide) (by decide), s0 1 (by decide) (by decide), h1, uI_eq, uI_ne (by decide)]
      refine ⟨(m1 c c0 c1).1, ?_⟩
      unfold u1
      split
      · rfl
      · exact (m1 c c0 c1).2
    · rw [ka 102 (by decide) (by decide) (by decide), ka 103 (by decide) (by decide) (by decide), s0 0 (by decide) (by decide), s0 2 (by decide) (by decide), s0 3 (by decide) (by decide)]; exact m2
    · rw [ka 104 (by decide) (by decide) (by decide), s0 0 (by decide) (by decide), s0 4 (by decide) (by decide), s0 3 (by decide) (by decide)]; exact m3
    · rw [ka 105 (by decide) (by decide) (by decide), s0 0 (by decide) (by decide), s0 5 (by decide) (by decide)]; exact m4
    · rw [ka 106 (by decide) (by decide) (by decide), s0 0 (by decide) (by decide), s0 6 (by decide) (by decide)]; exact m5
    · unfold SB
      rw [s0 0 (by decide) (by decide), s0 3 (by decide) (by decide), s0 10 (by decide) (by decide), s0 11 (by decide) (by decide), s0 9 (by decide) (by decide), uI_ne (by decide), uI_eq]
      refine ⟨sb1, sb2, sb3, sb4, sb5, fun x => ⟨?_, (sb6 x).2⟩, sb7, sb8, sb9⟩
      unfold u1
      split
      · exact Or.inr rfl
      · exact (sb6 x).1
    · rw [s0 0 (by decide) (by decide)]; exact l6
    · intro x x0 x1
      rw [s0 0 (by decide) (by decide), h2, ka 109 (by decide) (by decide) (by decide), s0 9 (by decide) (by decide), uI_ne (by decide), uI_eq]
      refine ⟨?_, (t8 x x0 x1).2⟩
      by_cases e : x = s
      · rw [e, u1_eq, u1_eq]
      · rw [u1_ne (by omega), u1_ne e]; exact (t8 x x0 x1).1
    · rw [ka 110 (by decide) (by decide) (by decide), s0 0 (by decide) (by decide), s0 10 (by decide) (by decide)]; exact t10
  · refine ⟨⟨?_, ?_, ?_, ?_, ?_, ?_⟩, ?_, ?_, ?_, ?_⟩
    · rw [kf 27 (by decide), kf 28 (by decide), kf 29 (by decide), kf 30 (by decide), kf 31 (by decide), kf 32 (by decide), kf 33 (by decide), kf 34 (by decide), s0 0 (by decide) (by decide), s0 11 (by decide) (by decide)]; exact m0
    · intro c c0 c1
      rw [s0 0 (by decide) (by decide)] at c1
      rw [ka 107 (by decide) (by decide) (by decide), s0 7 (by decide) (by decide), h1, uI_eq, uI_ne (by decide)]
      refine ⟨?_, (m1 c c0 c1).2⟩
      unfold u1
      split
      · rfl
      · exact (m1 c c0 c1).1
    · rw [ka 102 (by decide) (by decide) (by decide), ka 103 (by decide) (by decide) (by decide), s0 0 (by decide) (by decide), s0 2 (by decide) (by decide), s0 3 (by decide) (by decide)]; exact m2
    · rw [ka 104 (by decide) (by decide) (by decide), s0 0 (by decide) (by decide), s0 4 (by decide) (by decide), s0 3 (by decide) (by decide)]; exact m3
    · rw [ka 105 (by decide) (by decide) (by decide), s0 0 (by decide) (by decide), s0 5 (by decide) (by decide)]; exact m4
    · rw [ka 106 (by decide) (by decide) (by decide), s0 0 (by decide) (by decide), s0 6 (by decide) (by decide)]; exact m5
    · unfold SB
      rw [s0 0 (by decide) (by decide), s0 3 (by decide) (by decide), s0 10 (by decide) (by decide), s0 11 (by decide) (by decide), s0 8 (by decide) (by decide), uI_ne (by decide), uI_eq]
      refine ⟨sb1, sb2, sb3, sb4, sb5, fun x => ⟨(sb6 x).1, ?_⟩, sb7, sb8, sb9⟩
      unfold u1
      split
      · exact Or.inr rfl
      · exact (sb6 x).2
    · rw [s0 0 (by decide) (by decide)]; exact l6
    · intro x x0 x1
      rw [s0 0 (by decide) (by decide), h2, ka 108 (by decide) (by decide) (by decide), s0 8 (by decide) (by decide), uI_ne (by decide), uI_eq]
      refine ⟨(t8 x x0 x1).1, ?_⟩
      by_cases e : x = s
      · rw [e, u1_eq, u1_eq]
      · rw [u1_ne (by omega), u1_ne e]; exact (t8 x x0 x1).2
    · rw [ka 110 (by decide) (by decide) (by decide), s0 0 (by decide) (by decide), s0 10 (by decide) (by decide)]; exact t10
section
variable {G : HX} {d : Nat} {I : Mem} {P : Ptr} {T : Tn}
theorem c_X12_told {tp : Rw} {n i m : Int} {S : Tn} {A B a b : Nat} (hW : WP P) (hi0 : 0 ≤ i) (hA : AR NO A 20 48) (hB : AR NO B 23 48) (hAB : (A = 107 ∧ a = 7 ∧ B = 108 ∧ b = 8) ∨ (A = 101 ∧ a = 1 ∧ B = 109 ∧ b = 9)) (hG : GD I tp n i) (hS : RP I S) : Cv G mX12_told (d + 3) 0 0 [.inr (.inl 91), .inr (.inl B), .inr (.inl A), .inl m] NO I P (qV (fun n' I' P' => n' = NO ∧ P' = P ∧ Fr [A, B] pF I I' ∧ RES RP I' tp n (toldR (tkS tp n) a b m i S))) := by
  have e28 : I 91 28 = S 0 2 := hS.1.1.2.1
  have e27 : I 91 27 = S 0 1 := hS.1.1.1
  have f1 := hS.2.1.1
  have f2 := hS.2.1.2.1
  have l6 := hS.2.2.1
  have hR0 : RSt I tp n (0, 0) i := RSt.o rfl hG
  have n91 : A ≠ 91 ∧ B ≠ 91 ∧ A ≠ B := by omega
  have htB : ∀ s, 0 ≤ s → s < 8 → I B (8 * S 0 1 + s) = S b s := fun s s0 s1 => by
    have := hS.2.2.2.1 s s0 s1
    rcases hAB with ⟨_, _, h3, h4⟩ | ⟨_, _, h3, h4⟩
    · rw [h3, h4]; exact this.1
    · rw [h3, h4]; exact this.2
  have hs1 : (100 : Nat) ∉ [A] := by
    intro q
    have := List.mem_singleton.mp q
    omega
  have hs2 : (100 : Nat) ∉ [B] := by
    intro q
    have := List.mem_singleton.mp q
    omega
  refine x_enter mfX12_told rfl (Nat.le_of_ble_eq_true rfl) (fun _ => ?_)
  have hM : belC (tkS tp n) (S 0 2) i = 0 → (0 ≤ tkS tp n 2 i ∧ tkS tp n 2 i < S 0 2) → ∀ (K : Mem) (c : Int), c = (if S b (tkS tp n 2 i) = 0 then 0 else 5) → RSt K tp n (c, tkS tp n 1 i) i → Fr [] [18, 19] I K → V G mX12_told (d + 3) 0 0 38 [some (.inr (.inl 91)), some (.inr (.inl B)), some (.inr (.inl A)), some (.inl (m)), some (.inl (8 * S 0 1 + tkS tp n 2 i))] [] NO K P (qV (fun n' I' P' => n' = NO ∧ P' = P ∧ Fr [A, B] pF I I' ∧ RES RP I' tp n (toldR (tkS tp n) a b m i S))) := fun hb hv K c hc hRK hFr => by
    have kB : K B = I B := hFr.1 B n91.2.1 (by simp)
    have kA : K A = I A := hFr.1 A n91.1 (by simp)
    refine y_aln (i := 0) dX12_told_38 at91.ne0 rfl rfl ?_
    refine x_callVI (c_X12_isGood hW hRK) dX12_told_39 lkX12_238 mfX12_isGood cfX12 at91 rfl rfl rfl rfl (Nat.le_of_ble_eq_true rfl) (fun r39 I39 P39 hr39 hf39 => ?_)
    obtain ⟨i39, p39, q39⟩ := hf39
    rw [i39, p39]
    refine x_if_ne (tgt := 46) dX12_told_42 rfl (fun h42 => ?_) (fun h42 => ?_)
    · have hc0 : c = 0 := (q39.resolve_right (fun q => by have := q.1; omega)).2
      have hg := hRK.g hc0
      refine y_aln (i := 0) dX12_told_46 at91.ne0 rfl rfl ?_
      refine x_callVV (c_X12_goes hW hg.2.2.1 (by omega) hg.2.2.2.1) dX12_told_47 lkX12_242 mfX12_goes cfX12 at91 rfl rfl rfl rfl (Nat.le_of_ble_eq_true rfl) (fun n47 I47 P47 hf47 => ?_)
      obtain ⟨rfl, rfl, fr47, tk47⟩ := hf47
      have hg2 := hg.go fr47 tk47
      have kB2 : I47 B = I B := (fr47.1 B n91.2.1 (by simp)).trans kB
      have kA2 : I47 A = I A := (fr47.1 A n91.1 (by simp)).trans kA
      have hg3 : GD (uI I47 B (8 * S 0 1 + tkS tp n 2 i) 1) tp n (i + 1) := hg2.fr (S := [B]) (F := []) (Fr.rf.ui n91.2.1 (by simp)) (by decide) hs2
      refine y_aln (i := 1) dX12_told_50 hB.ne0 rfl rfl ?_
      refine x_iload (i := 4) dX12_told_51 rfl ?_
      refine y_ic dX12_told_53 ⟨by decide, by decide⟩ ?_
      refine x_zast dX12_told_54 hB ⟨by omega, by omega⟩ (by omega) ?_
      refine y_aln (i := 2) dX12_told_55 hA.ne0 rfl rfl ?_
      refine x_iload (i := 4) dX12_told_56 rfl ?_
      refine y_aln (i := 0) dX12_told_58 at91.ne0 rfl rfl ?_
      refine y_ic dX12_told_59 ⟨by decide, by decide⟩ ?_
      refine x_iload_n (i := 3) dX12_told_60 rfl rfl ?_
      refine x_callVI (c_X12_number (x := ((0 : Int), (0 : Int))) hW (by omega) (RSt.o rfl hg3) (by decide)) dX12_told_61 lkX12_257 mfX12_number cfX12 at91 rfl rfl rfl rfl (Nat.le_of_ble_eq_true rfl) (fun r61 I61 P61 hr61 hf61 => ?_)
      rw [chk_0 rfl] at hf61
      obtain ⟨rfl, fr61, rs61, hr61, hv61⟩ := hf61
      refine x_iast dX12_told_64 hA ⟨by omega, by omega⟩ ?_
      refine x_vret dX12_told_65 rfl ?_
      have hFJ : Fr [A, B] pF I (uI I61 A (8 * S 0 1 + tkS tp n 2 i) r61) := (((((hFr.mo (S' := [A, B]) (F' := pF) (by simp) (by decide)).tr (fr47.mo (by simp) (by decide))).ui n91.2.1 (by simp)).tr (fr61.mo (by simp) (by decide)))).ui n91.1 (by simp)
      have jA : uI I61 A (8 * S 0 1 + tkS tp n 2 i) r61 A = u1 (I A) (8 * S 0 1 + tkS tp n 2 i) r61 := by rw [uI_eq, fr61.1 A n91.1 (by simp), uI_ne n91.2.2, kA2]
      have jB : uI I61 A (8 * S 0 1 + tkS tp n 2 i) r61 B = u1 (I B) (8 * S 0 1 + tkS tp n 2 i) 1 := by rw [uI_ne (Ne.symm n91.2.2), fr61.1 B n91.2.1 (by simp), uI_eq, kB2]
      have rsJ : RSt (uI I61 A (8 * S 0 1 + tkS tp n 2 i) r61) tp n (numC (tkS tp n) 0 m (i + 1), tkS tp n 1 (i + 1)) (i + 1 + 1) := rs61.fr (S := [A]) (F := []) (Fr.rf.ui n91.1 (by simp)) (by decide) hs1
      refine ⟨rfl, rfl, hFJ, ?_⟩
      by_cases hz : numC (tkS tp n) 0 m (i + 1) = 0
      · have hR : toldR (tkS tp n) a b m i S = okR (i + 2) (uI (uI S b (tkS tp n 2 i) 1) a (8 * S 0 1 + tkS tp n 2 i) (tkS tp n 2 (i + 1))) := by unfold toldR; rw [ckR_0 hb, ckR_0 (by rw [← hc]; exact hc0), ckR_0 hz]
        rw [hR]
        have hrv : r61 = tkS tp n 2 (i + 1) := hv61 hz
        rw [hrv] at hFJ jA jB rsJ ⊢
        refine Or.inl ⟨rfl, ?_, tolS_RP hAB hS ⟨hv.1, by omega⟩ hFJ jA jB⟩
        have := rsJ.g hz
        rw [show i + 1 + 1 = i + 2 by omega] at this
        exact this
      · exact RES.bad rsJ hz (by unfold toldR; rw [cp_ck, chk_0 hb, cp_ck, chk_0 (by rw [← hc]; exact hc0), cp_ck, chk_1 hz])
    · have hc1 : c ≠ 0 := (q39.resolve_left (fun q => by have := q.1; omega)).2
      refine x_vret dX12_told_45 rfl ?_
      exact ⟨rfl, rfl, hFr.mo (by simp) (by decide), RES.bad hRK hc1 (by unfold toldR; rw [cp_ck, chk_0 hb, cp_ck, ← hc, chk_1 hc1])⟩
  refine y_aln (i := 0) dX12_told_0 at91.ne0 rfl rfl ?_
  refine y_aln (i := 0) dX12_told_1 at91.ne0 rfl rfl ?_
  refine y_geti (z := 28) dX12_told_2 frX12_251 cfX12 at91 rfl rfl ?_
  refine x_callVI (c_X12_among hW hR0) dX12_told_5 lkX12_248 mfX12_among cfX12 at91 rfl rfl rfl rfl (Nat.le_of_ble_eq_true rfl) (fun r5 I5 P5 hr5 hf5 => ?_)
  rw [chk_0 rfl, e28] at hf5
  obtain ⟨rfl, fr5, rs5, h5⟩ := hf5
  have k27 : I5 91 27 = S 0 1 := (fr5.2 27 (by decide)).trans e27
  have kB : I5 B = I B := fr5.1 B n91.2.1 (by simp)
  refine x_if_ne (tgt := 12) dX12_told_8 rfl (fun h8 => ?_) (fun h8 => ?_)
  · obtain ⟨-, hbz, hv25, hv0, hv1⟩ := h5.resolve_right (fun q => by have := q.1; omega)
    have hbz' : belC (tkS tp n) (S 0 2) i = 0 := hbz
    have htb := htB (tkS tp n 2 i) hv0 (by omega)
    have rs5' : RSt I5 tp n ((0 : Int), tkS tp n 1 i) i := by rw [hbz'] at rs5; exact rs5
    refine y_bi dX12_told_12 ⟨by decide, by decide⟩ ?_
    refine y_aln (i := 0) dX12_told_14 at91.ne0 rfl rfl ?_
    refine y_geti (z := 27) dX12_told_15 frX12_254 cfX12 at91 rfl rfl ?_
    refine x_imul dX12_told_18 (by rw [k27]; exact ⟨by omega, by omega⟩) ?_
    refine y_aln (i := 0) dX12_told_19 at91.ne0 rfl rfl ?_
    refine y_geti (z := 25) dX12_told_20 frX12_211 cfX12 at91 rfl rfl ?_
    refine x_iadd dX12_told_23 (by rw [k27, hv25]; exact ⟨by omega, by omega⟩) ?_
    rw [k27, hv25]
    refine x_istore (i := 4) dX12_told_24 rfl (Nat.le_of_ble_eq_true rfl) ?_
    refine y_aln (i := 1) dX12_told_26 hB.ne0 rfl rfl ?_
    refine x_iload (i := 4) dX12_told_27 rfl ?_
    refine x_zald dX12_told_29 hB ⟨by omega, by omega⟩ ?_
    rw [kB, htb]
    refine x_if_eq (tgt := 38) dX12_told_30 rfl (fun h30 => ?_) (fun h30 => ?_)
    · refine x_keep [1, 1, 1, 1, 1] ?_
      first | exact hM hbz' ⟨hv0, hv1⟩ I5 0 (by rw [if_pos (by omega)]) rs5' fr5 | exact hM hbz' ⟨hv0, hv1⟩ I35 5 (by rw [if_neg (by omega)]) rs35 (fr5.tr fr35)
    · refine y_aln (i := 0) dX12_told_33 at91.ne0 rfl rfl ?_
      refine y_ic dX12_told_34 ⟨by decide, by decide⟩ ?_
      refine x_callVV (c_X12_wrong hW rs5' (by decide)) dX12_told_35 lkX12_245 mfX12_wrong cfX12 at91 rfl rfl rfl rfl (Nat.le_of_ble_eq_true rfl) (fun n35 I35 P35 hf35 => ?_)
      rw [chk_0 rfl] at hf35
      obtain ⟨rfl, rfl, fr35, rs35⟩ := hf35
      refine x_keep [1, 1, 1, 1, 1] ?_
      first | exact hM hbz' ⟨hv0, hv1⟩ I5 0 (by rw [if_pos (by omega)]) rs5' fr5 | exact hM hbz' ⟨hv0, hv1⟩ I35 5 (by rw [if_neg (by omega)]) rs35 (fr5.tr fr35)
  · have hbad := (h5.resolve_left (fun q => by have := q.1; omega)).2
    refine x_vret dX12_told_11 rfl ?_
    exact ⟨rfl, rfl, fr5.mo (by simp) (by decide), RES.bad rs5 hbad (by unfold toldR; rw [cp_ck, chk_1 hbad])⟩
end

