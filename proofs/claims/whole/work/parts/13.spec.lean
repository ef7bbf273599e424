/-! ===== sums, rows, towns: the mathematical side ===== -/
def sumNat (f : Int → Int) : Nat → Int
  | 0 => 0
  | k + 1 => sumNat f k + f (k : Int)
def sumN (f : Int → Int) (n : Int) : Int := sumNat f n.toNat
theorem sumN_0 (f : Int → Int) : sumN f 0 = 0 := rfl
theorem sumN_s (f : Int → Int) {n : Int} (h : 0 ≤ n) : sumN f (n + 1) = sumN f n + f n := by
  obtain ⟨k, rfl⟩ := Int.eq_ofNat_of_zero_le h
  rfl
theorem sumN_neg (f : Int → Int) {n : Int} (h : n ≤ 0) : sumN f n = 0 := by
  unfold sumN
  rw [Int.toNat_of_nonpos h]
  rfl
theorem int_ind {p : Int → Prop} (h0 : p 0) (hs : ∀ n, 0 ≤ n → p n → p (n + 1)) : ∀ n, 0 ≤ n → p n := by
  intro n hn
  obtain ⟨k, rfl⟩ := Int.eq_ofNat_of_zero_le hn
  induction k with
  | zero => exact h0
  | succ k ih => exact hs (k : Int) (by omega) (ih (by omega))
theorem sumN_congr {f g : Int → Int} {n : Int} (h : ∀ i, 0 ≤ i → i < n → f i = g i) : sumN f n = sumN g n := by
  by_cases hn : n ≤ 0
  · rw [sumN_neg f hn, sumN_neg g hn]
  · have key : ∀ m, 0 ≤ m → m ≤ n → sumN f m = sumN g m := fun m hm => int_ind (p := fun m => m ≤ n → sumN f m = sumN g m) (fun _ => rfl) (fun k hk ih hkn => by
      rw [sumN_s f hk, sumN_s g hk, ih (by omega), h k hk (by omega)]) m hm
    exact key n (by omega) (Int.le_refl _)
theorem sumN_bd {f : Int → Int} {n lo hi : Int} (hn : 0 ≤ n) (h : ∀ i, 0 ≤ i → i < n → lo ≤ f i ∧ f i ≤ hi) : lo * n ≤ sumN f n ∧ sumN f n ≤ hi * n := by
  have key : ∀ m, 0 ≤ m → m ≤ n → lo * m ≤ sumN f m ∧ sumN f m ≤ hi * m := fun m hm => int_ind (p := fun m => m ≤ n → lo * m ≤ sumN f m ∧ sumN f m ≤ hi * m) (fun _ => by simp [sumN_0]) (fun k hk ih hkn => by
    have h1 := ih (by omega)
    have h2 := h k hk (by omega)
    rw [sumN_s f hk, Int.mul_add, Int.mul_add]
    omega) m hm
  exact key n hn (Int.le_refl _)
theorem sumN_nn {f : Int → Int} {n : Int} (h : ∀ i, 0 ≤ i → i < n → 0 ≤ f i) : 0 ≤ sumN f n := by
  by_cases hn : n ≤ 0
  · rw [sumN_neg f hn]; exact Int.le_refl _
  · have key : ∀ m, 0 ≤ m → m ≤ n → 0 ≤ sumN f m := fun m hm => int_ind (p := fun m => m ≤ n → 0 ≤ sumN f m) (fun _ => Int.le_refl _) (fun k hk ih hkn => by
      have h1 := ih (by omega)
      have h2 := h k hk (by omega)
      rw [sumN_s f hk]
      omega) m hm
    exact key n (by omega) (Int.le_refl _)
theorem sumN_add (f g : Int → Int) (n : Int) : sumN (fun i => f i + g i) n = sumN f n + sumN g n := by
  by_cases hn : n ≤ 0
  · rw [sumN_neg _ hn, sumN_neg _ hn, sumN_neg _ hn]; rfl
  · exact int_ind (p := fun m => sumN (fun i => f i + g i) m = sumN f m + sumN g m) rfl (fun k hk ih => by rw [sumN_s _ hk, sumN_s _ hk, sumN_s _ hk, ih]; omega) n (by omega)
theorem sumN_mono {f : Int → Int} {m n : Int} (hm : 0 ≤ m) (hmn : m ≤ n) (h : ∀ i, 0 ≤ i → i < n → 0 ≤ f i) : sumN f m ≤ sumN f n := by
  have key : ∀ k, 0 ≤ k → m + k ≤ n → sumN f m ≤ sumN f (m + k) := fun k hk => int_ind (p := fun k => m + k ≤ n → sumN f m ≤ sumN f (m + k)) (fun _ => by rw [Int.add_zero]; exact Int.le_refl _) (fun j hj ih hjn => by
    have h1 := ih (by omega)
    have h2 := h (m + j) (by omega) (by omega)
    rw [← Int.add_assoc, sumN_s f (by omega)]
    omega) k hk
  have := key (n - m) (by omega) (by omega)
  rwa [show m + (n - m) = n by omega] at this
/-- one term of a sum of terms that aren't negative -/
theorem sumN_term {f : Int → Int} {n i : Int} (h : ∀ i, 0 ≤ i → i < n → 0 ≤ f i) (h0 : 0 ≤ i) (hi : i < n) : f i ≤ sumN f n := by
  have h1 := sumN_mono (f := f) (m := i + 1) (n := n) (by omega) (by omega) h
  rw [sumN_s f h0] at h1
  have h2 := sumN_nn (f := f) (n := i) (fun j hj hji => h j hj (by omega))
  omega
/-- a loop's state behind n rounds -/
def itNat {α : Type} (f : Int → α → α) : Nat → α → α
  | 0, s => s
  | k + 1, s => f (k : Int) (itNat f k s)
def itN {α : Type} (f : Int → α → α) (n : Int) (s : α) : α := itNat f n.toNat s
theorem itN_0 {α : Type} (f : Int → α → α) (s : α) : itN f 0 s = s := rfl
theorem itN_s {α : Type} (f : Int → α → α) {n : Int} (s : α) (h : 0 ≤ n) : itN f (n + 1) s = f n (itN f n s) := by
  obtain ⟨k, rfl⟩ := Int.eq_ofNat_of_zero_le h
  rfl
theorem itN_congr {α : Type} {f g : Int → α → α} {n : Int} {s : α} (h : ∀ i a, 0 ≤ i → i < n → f i a = g i a) : itN f n s = itN g n s := by
  by_cases hn : n ≤ 0
  · unfold itN; rw [Int.toNat_of_nonpos hn]; rfl
  · have key : ∀ m, 0 ≤ m → m ≤ n → itN f m s = itN g m s := fun m hm => int_ind (p := fun m => m ≤ n → itN f m s = itN g m s) (fun _ => rfl) (fun k hk ih hkn => by
      rw [itN_s f s hk, itN_s g s hk, ih (by omega), h k _ hk (by omega)]) m hm
    exact key n (by omega) (Int.le_refl _)
theorem itN_inv {α : Type} {f : Int → α → α} {p : α → Prop} {n : Int} {s : α} (h0 : p s) (h : ∀ i a, 0 ≤ i → i < n → p a → p (f i a)) : p (itN f n s) := by
  by_cases hn : n ≤ 0
  · unfold itN; rw [Int.toNat_of_nonpos hn]; exact h0
  · have key : ∀ m, 0 ≤ m → m ≤ n → p (itN f m s) := fun m hm => int_ind (p := fun m => m ≤ n → p (itN f m s)) (fun _ => h0) (fun k hk ih hkn => by
      rw [itN_s f s hk]; exact h k _ hk (by omega) (ih (by omega))) m hm
    exact key n (by omega) (Int.le_refl _)
-- memory's forms
theorem uI_uA {I : Mem} {a : Nat} {f : Int → Int} {i v : Int} : uI (uA I a f) a i v = uA I a (u1 f i v) := by
  funext b
  by_cases e : b = a
  · subst e; rw [uI_eq, uA_eq, uA_eq]
  · rw [uI_ne e, uA_ne e, uA_ne e]
theorem uA_uA {I : Mem} {a : Nat} {f g : Int → Int} : uA (uA I a f) a g = uA I a g := by
  funext b
  by_cases e : b = a
  · subst e; rw [uA_eq, uA_eq]
  · rw [uA_ne e, uA_ne e, uA_ne e]
theorem uA_id {I : Mem} {a : Nat} : uA I a (I a) = I := by
  funext b
  by_cases e : b = a
  · subst e; rw [uA_eq]
  · rw [uA_ne e]
theorem uI_as {I : Mem} {a : Nat} {i v : Int} : uI I a i v = uA I a (u1 (I a) i v) := by
  funext b
  by_cases e : b = a
  · subst e; rw [uI_eq, uA_eq]
  · rw [uI_ne e, uA_ne e]
/-- what changed of the reference's memory: cells of S, fields of F -/
def Fr (S : List Nat) (F : List Int) (I J : Mem) : Prop := (∀ a, a ≠ 91 → a ∉ S → J a = I a) ∧ ∀ k, k ∉ F → J 91 k = I 91 k
theorem Fr.rf {S : List Nat} {F : List Int} {I : Mem} : Fr S F I I := ⟨fun _ _ _ => rfl, fun _ _ => rfl⟩
theorem Fr.tr {S : List Nat} {F : List Int} {I J K : Mem} (h : Fr S F I J) (h2 : Fr S F J K) : Fr S F I K := ⟨fun a ha hs => (h2.1 a ha hs).trans (h.1 a ha hs), fun k hk => (h2.2 k hk).trans (h.2 k hk)⟩
theorem Fr.mo {S S' : List Nat} {F F' : List Int} {I J : Mem} (h : Fr S F I J) (hs : ∀ a ∈ S, a ∈ S') (hf : ∀ k ∈ F, k ∈ F') : Fr S' F' I J := ⟨fun a ha q => h.1 a ha (fun z => q (hs a z)), fun k q => h.2 k (fun z => q (hf k z))⟩
theorem Fr.ui {S : List Nat} {F : List Int} {I J : Mem} {a : Nat} {i v : Int} (h : Fr S F I J) (ha : a ≠ 91) (hs : a ∈ S) : Fr S F I (uI J a i v) := ⟨fun b hb q => by rw [uI_ne (fun e : b = a => q (by rw [e]; exact hs))]; exact h.1 b hb q, fun k q => by rw [uI_ne (Ne.symm ha)]; exact h.2 k q⟩
theorem Fr.uf {S : List Nat} {F : List Int} {I J : Mem} {i v : Int} (h : Fr S F I J) (hs : i ∈ F) : Fr S F I (uI J 91 i v) := ⟨fun b hb q => by rw [uI_ne hb]; exact h.1 b hb q, fun k q => by rw [uI_eq, u1_ne (fun e : k = i => q (by rw [e]; exact hs))]; exact h.2 k q⟩
theorem Fr.ua {S : List Nat} {F : List Int} {I J : Mem} {a : Nat} {f : Int → Int} (h : Fr S F I J) (ha : a ≠ 91) (hs : a ∈ S) : Fr S F I (uA J a f) := ⟨fun b hb q => by rw [uA_ne (fun e : b = a => q (by rw [e]; exact hs))]; exact h.1 b hb q, fun k q => by rw [uA_ne (Ne.symm ha)]; exact h.2 k q⟩
/-- a town: numbers at 0 (1 people, 2 sorts, 3 g, 4 spoon, 5 ties, 6 meetings, 7 burns), worths, falls, how many pairs, pairs, ties, meetings -/
abbrev Tn : Type := Nat → Int → Int
def MT (I : Mem) (T : Tn) : Prop := (∀ k, 1 ≤ k → k ≤ 7 → I 91 k = T 0 k) ∧ I 92 = T 1 ∧ I 93 = T 2 ∧ I 94 = T 3 ∧ I 95 = T 4 ∧ I 96 = T 5 ∧ I 97 = T 6
theorem MT.fr {S : List Nat} {F : List Int} {I J : Mem} {T : Tn} (h : MT I T) (hf : Fr S F I J) (hs : S.all (fun a => decide (a < 92 ∨ 97 < a)) = true := by decide) (hk : F.all (fun k => decide (k < 1 ∨ 7 < k)) = true := by decide) : MT J T := by
  have hs' : ∀ a, 92 ≤ a → a ≤ 97 → a ∉ S := fun a h1 h2 q => by
    have := of_decide_eq_true (List.all_eq_true.mp hs a q)
    omega
  have hk' : ∀ k : Int, 1 ≤ k → k ≤ 7 → k ∉ F := fun k h1 h2 q => by
    have := of_decide_eq_true (List.all_eq_true.mp hk k q)
    omega
  obtain ⟨h0, h1, h2, h3, h4, h5, h6⟩ := h
  exact ⟨fun k q1 q2 => (hf.2 k (hk' k q1 q2)).trans (h0 k q1 q2), (hf.1 92 (by decide) (hs' _ (by decide) (by decide))).trans h1, (hf.1 93 (by decide) (hs' _ (by decide) (by decide))).trans h2, (hf.1 94 (by decide) (hs' _ (by decide) (by decide))).trans h3, (hf.1 95 (by decide) (hs' _ (by decide) (by decide))).trans h4, (hf.1 96 (by decide) (hs' _ (by decide) (by decide))).trans h5, (hf.1 97 (by decide) (hs' _ (by decide) (by decide))).trans h6⟩
def WF (T : Tn) : Prop := (0 ≤ T 0 1 ∧ T 0 1 ≤ 6) ∧ (1 ≤ T 0 2 ∧ T 0 2 ≤ 8) ∧ (1 ≤ T 0 3 ∧ T 0 3 ≤ 3) ∧ (T 0 4 = -1 ∨ (0 ≤ T 0 4 ∧ T 0 4 < T 0 2)) ∧ (0 ≤ T 0 5 ∧ T 0 5 ≤ 4) ∧ (0 ≤ T 0 6 ∧ T 0 6 ≤ 8) ∧ (T 0 7 = 0 ∨ T 0 7 = 1) ∧
  (∀ p s, 0 ≤ p → p < T 0 1 → 0 ≤ s → s < 8 → 0 ≤ T 1 (8 * p + s) ∧ T 1 (8 * p + s) ≤ 99) ∧ (∀ p, 0 ≤ p → p < T 0 1 → 0 ≤ T 2 p ∧ T 2 p ≤ 100) ∧ (∀ p, 0 ≤ p → p < T 0 1 → 0 ≤ T 3 p ∧ T 3 p ≤ 6) ∧
  (∀ p k, 0 ≤ p → p < T 0 1 → 0 ≤ k → k < T 3 p → (0 ≤ T 4 (18 * p + 3 * k) ∧ T 4 (18 * p + 3 * k) < T 0 2) ∧ (0 ≤ T 4 (18 * p + 3 * k + 1) ∧ T 4 (18 * p + 3 * k + 1) < T 0 2) ∧ (0 ≤ T 4 (18 * p + 3 * k + 2) ∧ T 4 (18 * p + 3 * k + 2) ≤ 99)) ∧
  (∀ t j, 0 ≤ t → t < T 0 5 → 0 ≤ j → j < 3 → 0 ≤ T 5 (3 * t + j) ∧ T 5 (3 * t + j) < T 0 2) ∧ (∀ t, 0 ≤ t → t < T 0 5 → T 5 (3 * t) ≠ T 5 (3 * t + 2) ∧ T 5 (3 * t + 1) ≠ T 5 (3 * t + 2)) ∧
  (∀ m j, 0 ≤ m → m < T 0 6 → 0 ≤ j → j < 2 → 0 ≤ T 6 (2 * m + j) ∧ T 6 (2 * m + j) < T 0 1) ∧ (∀ m, 0 ≤ m → m < T 0 6 → T 6 (2 * m) ≠ T 6 (2 * m + 1))
abbrev Rw : Type := Int → Int
/-- a row's cells in their bounds -/
def RC (r : Rw) : Prop := ∀ c, 0 ≤ c → c < 48 → 0 ≤ r c ∧ r c ≤ 960
/-- a row: cells where there are people and sorts, all together at most 960 -/
def RW (T : Tn) (r : Rw) : Prop := (∀ c, 0 ≤ c → c < 48 → 0 ≤ r c) ∧ (∀ p s, 0 ≤ p → p < 6 → 0 ≤ s → s < 8 → (T 0 1 ≤ p ∨ T 0 2 ≤ s) → r (8 * p + s) = 0) ∧ sumN r 48 ≤ 960
theorem RW.rc {T : Tn} {r : Rw} (h : RW T r) : RC r := fun c h0 h1 => ⟨h.1 c h0 h1, Int.le_trans (sumN_term h.1 h0 h1) h.2.2⟩
-- worth
def wcell (w f c : Int) : Int := sumN (fun i => if 0 < 100 - f * i then w * (100 - f * i) else 0) c
def leftS (T : Tn) (r : Rw) (s : Int) : Int := sumN (fun p => r (8 * p + s)) (T 0 1)
def allS (T : Tn) (r : Rw) : Int := sumN (fun s => leftS T r s) (T 0 2)
def pairS (T : Tn) (r : Rw) (p k : Int) : Int := if 0 < r (8 * p + T 4 (18 * p + 3 * k)) ∧ 0 < r (8 * p + T 4 (18 * p + 3 * k + 1)) then 100 * T 4 (18 * p + 3 * k + 2) else 0
def bagS (T : Tn) (r : Rw) (p : Int) : Int := sumN (fun s => wcell (T 1 (8 * p + s)) (T 2 p) (r (8 * p + s))) (T 0 2) + sumN (fun k => pairS T r p k) (T 3 p)
def worthS (T : Tn) (r : Rw) : Int := sumN (fun p => bagS T r p) (T 0 1)
theorem wcell_bd {w f c : Int} (hw : 0 ≤ w ∧ w ≤ 99) (hf : 0 ≤ f) (hc : 0 ≤ c) : 0 ≤ wcell w f c ∧ wcell w f c ≤ 9900 * c := by
  have h := sumN_bd (f := fun i => if 0 < 100 - f * i then w * (100 - f * i) else 0) (n := c) (lo := 0) (hi := 9900) hc (fun i hi _ => by
    show 0 ≤ (if 0 < 100 - f * i then w * (100 - f * i) else 0) ∧ (if 0 < 100 - f * i then w * (100 - f * i) else 0) ≤ 9900
    have hfi : 0 ≤ f * i := Int.mul_nonneg hf hi
    split
    · next h1 =>
      refine ⟨Int.mul_nonneg hw.1 (by omega), ?_⟩
      calc w * (100 - f * i) ≤ 99 * (100 - f * i) := Int.mul_le_mul_of_nonneg_right hw.2 (by omega)
        _ ≤ 9900 := by omega
    · exact ⟨Int.le_refl _, by decide⟩)
  rw [Int.zero_mul] at h
  exact h
theorem bagS_bd {T : Tn} {r : Rw} {p : Int} (hT : WF T) (hr : RC r) (hp : 0 ≤ p ∧ p < T 0 1) : 0 ≤ bagS T r p ∧ bagS T r p ≤ 76100000 := by
  obtain ⟨a1, a2, a3, a4, a5, a6, a7, a8, a9, a10, a11, -⟩ := hT
  have h1 := sumN_bd (f := fun s => wcell (T 1 (8 * p + s)) (T 2 p) (r (8 * p + s))) (n := T 0 2) (lo := 0) (hi := 9504000) (by omega) (fun s h0 hs => by
    have hc := hr (8 * p + s) (by omega) (by omega)
    have hw := a8 p s hp.1 hp.2 h0 (by omega)
    have hb := wcell_bd (c := r (8 * p + s)) hw (a9 p hp.1 hp.2).1 hc.1
    exact ⟨hb.1, by omega⟩)
  have h2 := sumN_bd (f := fun k => pairS T r p k) (n := T 3 p) (lo := 0) (hi := 9900) (a10 p hp.1 hp.2).1 (fun k h0 hk => by
    have := (a11 p k hp.1 hp.2 h0 hk).2.2
    show 0 ≤ pairS T r p k ∧ pairS T r p k ≤ 9900
    unfold pairS
    split <;> omega)
  have h3 := a10 p hp.1 hp.2
  unfold bagS
  omega
theorem bagS_congr {T : Tn} {r r' : Rw} {p : Int} (hT : WF T) (hp : 0 ≤ p ∧ p < T 0 1) (h : ∀ s, 0 ≤ s → s < 8 → r (8 * p + s) = r' (8 * p + s)) : bagS T r p = bagS T r' p := by
  obtain ⟨a1, a2, a3, a4, a5, a6, a7, a8, a9, a10, a11, -⟩ := hT
  unfold bagS
  congr 1
  · exact sumN_congr (fun s h0 hs => by rw [h s h0 (by omega)])
  · refine sumN_congr (fun k h0 hk => ?_)
    have hb := a11 p k hp.1 hp.2 h0 hk
    unfold pairS
    rw [h _ hb.1.1 (by omega), h _ hb.2.1.1 (by omega)]
theorem worthS_bd {T : Tn} {r : Rw} (hT : WF T) (hr : RC r) : 0 ≤ worthS T r ∧ worthS T r ≤ 456600000 := by
  have h1 := sumN_bd (f := fun p => bagS T r p) (n := T 0 1) (lo := 0) (hi := 76100000) hT.1.1 (fun p h0 hp => bagS_bd hT hr ⟨h0, hp⟩)
  have h2 := hT.1
  unfold worthS
  omega
theorem leftS_bd {T : Tn} {r : Rw} {s : Int} (hT : WF T) (hr : RC r) (hs : 0 ≤ s ∧ s < 8) : 0 ≤ leftS T r s ∧ leftS T r s ≤ 5760 := by
  have h1 := sumN_bd (f := fun p => r (8 * p + s)) (n := T 0 1) (lo := 0) (hi := 960) hT.1.1 (fun p h0 hp => by
    have h2 := hT.1
    exact hr _ (by omega) (by omega))
  have h2 := hT.1
  unfold leftS
  omega
