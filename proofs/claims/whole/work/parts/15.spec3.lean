/-! ===== offers; rows behind trades and ties; meetings, days ===== -/
noncomputable def cif {α : Type} (p : Prop) (a b : α) : α := @ite α p (Classical.propDecidable p) a b
theorem cif_pos {α : Type} {p : Prop} {a b : α} (h : p) : cif p a b = a := by unfold cif; exact if_pos h
theorem cif_neg {α : Type} {p : Prop} {a b : α} (h : ¬ p) : cif p a b = b := by unfold cif; exact if_neg h
theorem cif_congr {α : Type} {p q : Prop} {a b : α} (h : p ↔ q) : cif p a b = cif q a b := by rw [propext h]
-- the offers, in order
def OFL (g so : Nat) : List (List Nat) := (List.range so).flatMap fun x => (if 1 < g then (List.range so).filter (fun y => x ≤ y) else [x]).flatMap fun y => (if 2 < g then (List.range so).filter (fun z => y ≤ z) else [y]).map fun z => [x, y, z]
def OFe (g so o j : Nat) : Nat := ((OFL g so).getD o []).getD j 0
def OFN (T : Tn) : Int := ((OFL (T 0 3).toNat (T 0 2).toNat).length : Int)
def OF (T : Tn) (o : Int) : Rw := fun j => (OFe (T 0 3).toNat (T 0 2).toNat o.toNat j.toNat : Int)
theorem ofl_len : ∀ g, g < 3 → ∀ so, so < 8 → 0 < (OFL (g + 1) (so + 1)).length ∧ (OFL (g + 1) (so + 1)).length ≤ 120 ∧ ∀ j, j < 3 → OFe (g + 1) (so + 1) 0 j = 0 := by decide +kernel
theorem ofl_lt : ∀ g, g < 3 → ∀ so, so < 8 → ∀ o, o < (OFL (g + 1) (so + 1)).length → ∀ j, j < 3 → OFe (g + 1) (so + 1) o j < so + 1 := by decide +kernel
theorem ofl_none : ∀ g, g < 3 → ∀ so, so < 8 → ∀ o, o < (OFL (g + 1) (so + 1)).length → (∀ j, j < g + 1 → OFe (g + 1) (so + 1) o j = so) → o + 1 = (OFL (g + 1) (so + 1)).length := by decide +kernel
def ofl_at (g so o k : Nat) : Prop := (∀ j, j < g + 1 → k < j → OFe (g + 1) (so + 1) o j = so) ∧ OFe (g + 1) (so + 1) o k ≠ so
def ofl_nx (g so o k : Nat) : Prop := o + 1 < (OFL (g + 1) (so + 1)).length ∧ ∀ j, j < g + 1 → OFe (g + 1) (so + 1) (o + 1) j = if j < k then OFe (g + 1) (so + 1) o j else OFe (g + 1) (so + 1) o k + 1
def ofl_atB (g so o k : Nat) : Bool := (List.range (g + 1)).all (fun j => !(decide (k < j)) || OFe (g + 1) (so + 1) o j == so) && !(OFe (g + 1) (so + 1) o k == so)
def ofl_nxB (g so o k : Nat) : Bool := decide (o + 1 < (OFL (g + 1) (so + 1)).length) && (List.range (g + 1)).all (fun j => OFe (g + 1) (so + 1) (o + 1) j == if j < k then OFe (g + 1) (so + 1) o j else OFe (g + 1) (so + 1) o k + 1)
theorem ofl_allB : (List.range 3).all (fun g => (List.range 8).all (fun so => (List.range (OFL (g + 1) (so + 1)).length).all (fun o => (List.range (g + 1)).all (fun k => !(ofl_atB g so o k) || ofl_nxB g so o k)))) = true := by decide +kernel
theorem ofl_some {g so o k : Nat} (hg : g < 3) (hs : so < 8) (ho : o < (OFL (g + 1) (so + 1)).length) (hk : k < g + 1) (h1 : ∀ j, j < g + 1 → k < j → OFe (g + 1) (so + 1) o j = so) (h2 : OFe (g + 1) (so + 1) o k ≠ so) : o + 1 < (OFL (g + 1) (so + 1)).length ∧ ∀ j, j < g + 1 → OFe (g + 1) (so + 1) (o + 1) j = if j < k then OFe (g + 1) (so + 1) o j else OFe (g + 1) (so + 1) o k + 1 := by
  have a1 := List.all_eq_true.mp ofl_allB g (List.mem_range.mpr hg)
  have a2 := List.all_eq_true.mp a1 so (List.mem_range.mpr hs)
  have a3 := List.all_eq_true.mp a2 o (List.mem_range.mpr ho)
  have a4 := List.all_eq_true.mp a3 k (List.mem_range.mpr hk)
  have b1 : ofl_atB g so o k = true := by
    unfold ofl_atB
    rw [Bool.and_eq_true]
    refine ⟨List.all_eq_true.mpr (fun j hj => ?_), by simp [h2]⟩
    have := List.mem_range.mp hj
    by_cases q : k < j
    · simp [h1 j this q]
    · simp [q]
  rw [b1] at a4
  have a5 : ofl_nxB g so o k = true := by simpa using a4
  unfold ofl_nxB at a5
  rw [Bool.and_eq_true] at a5
  refine ⟨of_decide_eq_true a5.1, fun j hj => ?_⟩
  have := List.all_eq_true.mp a5.2 j (List.mem_range.mpr hj)
  exact eq_of_beq this
theorem WF.g {T : Tn} (h : WF T) : ∃ g so : Nat, g < 3 ∧ so < 8 ∧ T 0 3 = ((g + 1 : Nat) : Int) ∧ T 0 2 = ((so + 1 : Nat) : Int) ∧ (T 0 3).toNat = g + 1 ∧ (T 0 2).toNat = so + 1 := by
  have h2 := h.2.1
  have h3 := h.2.2.1
  exact ⟨(T 0 3).toNat - 1, (T 0 2).toNat - 1, by omega, by omega, by omega, by omega, by omega, by omega⟩
theorem OFN_bd {T : Tn} (h : WF T) : 0 < OFN T ∧ OFN T ≤ 120 := by
  obtain ⟨g, so, hg, hs, -, -, e3, e4⟩ := h.g
  unfold OFN
  rw [e3, e4]
  have := ofl_len g hg so hs
  omega
theorem OF_0 {T : Tn} (h : WF T) {j : Int} (h0 : 0 ≤ j) (hj : j < T 0 3) : OF T 0 j = 0 := by
  obtain ⟨g, so, hg, hs, e1, -, e3, e4⟩ := h.g
  unfold OF
  rw [e3, e4]
  have := (ofl_len g hg so hs).2.2 j.toNat (by omega)
  exact congrArg (fun x : Nat => (x : Int)) this
theorem OF_bd {T : Tn} (h : WF T) {o j : Int} (ho : 0 ≤ o) (ho2 : o < OFN T) (h0 : 0 ≤ j) (hj : j < 3) : 0 ≤ OF T o j ∧ OF T o j < T 0 2 := by
  obtain ⟨g, so, hg, hs, e1, e2, e3, e4⟩ := h.g
  unfold OFN at ho2
  unfold OF
  rw [e3, e4] at ho2 ⊢
  have := ofl_lt g hg so hs o.toNat (by omega) j.toNat (by omega)
  omega
theorem OF_none {T : Tn} (h : WF T) {o : Int} (ho : 0 ≤ o) (ho2 : o < OFN T) (hl : ∀ j, 0 ≤ j → j < T 0 3 → OF T o j = T 0 2 - 1) : o + 1 = OFN T := by
  obtain ⟨g, so, hg, hs, e1, e2, e3, e4⟩ := h.g
  unfold OFN at ho2 ⊢
  unfold OF at hl
  rw [e3, e4] at ho2 ⊢
  have := ofl_none g hg so hs o.toNat (by omega) (fun j hj => by
    have := hl (j : Int) (by omega) (by omega)
    rw [e3, e4, Int.toNat_natCast] at this
    omega)
  omega
theorem OF_some {T : Tn} (h : WF T) {o k : Int} (ho : 0 ≤ o) (ho2 : o < OFN T) (hk : 0 ≤ k) (hk2 : k < T 0 3) (hl : ∀ j, k < j → j < T 0 3 → OF T o j = T 0 2 - 1) (hn : OF T o k ≠ T 0 2 - 1) : o + 1 < OFN T ∧ ∀ j, 0 ≤ j → j < T 0 3 → OF T (o + 1) j = if j < k then OF T o j else OF T o k + 1 := by
  obtain ⟨g, so, hg, hs, e1, e2, e3, e4⟩ := h.g
  unfold OFN at ho2 ⊢
  unfold OF at hl hn ⊢
  simp only [e3, e4] at ho2 hl hn ⊢
  have := ofl_some hg hs (o := o.toNat) (by omega) (k := k.toNat) (by omega) (fun j hj hkj => by
    have := hl (j : Int) (by omega) (by omega)
    rw [Int.toNat_natCast] at this
    omega) (by omega)
  refine ⟨by omega, fun j h0 hj => ?_⟩
  have h2 := this.2 j.toNat (by omega)
  rw [show (o + 1).toNat = o.toNat + 1 by omega, h2]
  by_cases q : j < k
  · rw [if_pos q, if_pos (by omega)]
  · rw [if_neg q, if_neg (by omega)]; rfl
-- sums over a row of one cell's change
theorem sumN_ite {i x n : Int} (h0 : 0 ≤ i) (h : i < n) : sumN (fun c => if c = i then x else 0) n = x := by
  have hz : ∀ m, 0 ≤ m → m ≤ i → sumN (fun c => if c = i then x else 0) m = 0 := fun m hm => int_ind (p := fun m => m ≤ i → sumN (fun c => if c = i then x else 0) m = 0) (fun _ => rfl) (fun k hk ih hki => by
    rw [sumN_s _ hk, ih (by omega), if_neg (by omega)]; rfl) m hm
  have key : ∀ m, 0 ≤ m → sumN (fun c => if c = i then x else 0) (i + 1 + m) = x := fun m hm => int_ind (p := fun m => sumN (fun c => if c = i then x else 0) (i + 1 + m) = x) (by
    rw [Int.add_zero, sumN_s _ h0, hz i h0 (Int.le_refl _), if_pos rfl]; omega) (fun k hk ih => by
    rw [← Int.add_assoc, sumN_s _ (by omega), ih, if_neg (by omega)]; omega) m hm
  have := key (n - (i + 1)) (by omega)
  rwa [show i + 1 + (n - (i + 1)) = n by omega] at this
theorem sumN_comm (f : Int → Int → Int) (m n : Int) : sumN (fun c => sumN (fun k => f c k) n) m = sumN (fun k => sumN (fun c => f c k) m) n := by
  by_cases hn : n ≤ 0
  · rw [sumN_neg _ hn]
    have : sumN (fun c => sumN (fun k => f c k) n) m = sumN (fun _ => 0) m := sumN_congr (fun c _ _ => sumN_neg _ hn)
    rw [this]
    by_cases hm : m ≤ 0
    · exact sumN_neg _ hm
    · exact int_ind (p := fun m => sumN (fun _ => 0) m = 0) rfl (fun k hk ih => by rw [sumN_s _ hk, ih]; rfl) m (by omega)
  · refine int_ind (p := fun n => sumN (fun c => sumN (fun k => f c k) n) m = sumN (fun k => sumN (fun c => f c k) m) n) ?_ (fun k hk ih => ?_) n (by omega)
    · have : sumN (fun c => sumN (fun k => f c k) 0) m = sumN (fun _ => 0) m := sumN_congr (fun c _ _ => rfl)
      rw [this, sumN_0]
      by_cases hm : m ≤ 0
      · exact sumN_neg _ hm
      · exact int_ind (p := fun m => sumN (fun _ => 0) m = 0) rfl (fun k hk ih => by rw [sumN_s _ hk, ih]; rfl) m (by omega)
    · rw [sumN_s _ hk, ← ih, ← sumN_add]
      exact sumN_congr (fun c _ _ => sumN_s _ hk)
/-- all that a trade changes of one's own cell -/
theorem dl_a {T : Tn} {a b s : Int} {γ : Rw} (hab : a ≠ b) (hs : 0 ≤ s ∧ s < 8) (hγ : ∀ k, 0 ≤ k → k < T 0 3 → 0 ≤ γ k ∧ γ k < 8) : sumN (dlS T a b γ (8 * a + s)) (T 0 3) = -askS T γ s := by
  have h1 : sumN (dlS T a b γ (8 * a + s)) (T 0 3) = sumN (fun k => -(if γ k = s then 1 else 0)) (T 0 3) := sumN_congr (fun k h0 hk => by
    have := hγ k h0 hk
    unfold dlS
    rw [if_neg (show ¬ 8 * a + s = 8 * b + γ k by omega)]
    by_cases e : γ k = s
    · rw [if_pos (by omega), if_pos e]; rfl
    · rw [if_neg (by omega), if_neg e]; rfl)
  rw [h1]
  have h2 := sumN_add (fun k => -(if γ k = s then (1 : Int) else 0)) (fun k => if γ k = s then 1 else 0) (T 0 3)
  have h3 : sumN (fun k => -(if γ k = s then (1 : Int) else 0) + (if γ k = s then 1 else 0)) (T 0 3) = 0 := by
    have : sumN (fun k => -(if γ k = s then (1 : Int) else 0) + (if γ k = s then 1 else 0)) (T 0 3) = sumN (fun _ => 0) (T 0 3) := sumN_congr (fun k _ _ => by omega)
    rw [this]
    by_cases hm : T 0 3 ≤ 0
    · exact sumN_neg _ hm
    · exact int_ind (p := fun m => sumN (fun _ => 0) m = 0) rfl (fun k hk ih => by rw [sumN_s _ hk, ih]; rfl) _ (by omega)
  unfold askS
  omega
theorem dl_o {T : Tn} {a b c : Int} {γ : Rw} (h : ∀ k, 0 ≤ k → k < T 0 3 → c ≠ 8 * a + γ k) : 0 ≤ sumN (dlS T a b γ c) (T 0 3) := sumN_nn (fun k h0 hk => by
  unfold dlS
  rw [if_neg (h k h0 hk)]
  split <;> (try split) <;> omega)
theorem dl_z {T : Tn} {a b c : Int} {γ : Rw} (h : ∀ k, 0 ≤ k → k < T 0 3 → c ≠ 8 * a + γ k ∧ c ≠ 8 * b + γ k) : sumN (dlS T a b γ c) (T 0 3) = 0 := by
  have : sumN (dlS T a b γ c) (T 0 3) = sumN (fun _ => 0) (T 0 3) := sumN_congr (fun k h0 hk => by
    unfold dlS
    rw [if_neg (h k h0 hk).1, if_neg (h k h0 hk).2]
    rfl)
  rw [this]
  by_cases hm : T 0 3 ≤ 0
  · exact sumN_neg _ hm
  · exact int_ind (p := fun m => sumN (fun _ => 0) m = 0) rfl (fun k hk ih => by rw [sumN_s _ hk, ih]; rfl) _ (by omega)
theorem sumN_sub (f g : Int → Int) (n : Int) : sumN (fun i => f i - g i) n = sumN f n - sumN g n := by
  by_cases hn : n ≤ 0
  · rw [sumN_neg _ hn, sumN_neg _ hn, sumN_neg _ hn]; rfl
  · exact int_ind (p := fun m => sumN (fun i => f i - g i) m = sumN f m - sumN g m) rfl (fun k hk ih => by rw [sumN_s _ hk, sumN_s _ hk, sumN_s _ hk, ih]; omega) n (by omega)
theorem deal_RW {T : Tn} {r : Rw} {a b z : Int} {γ : Rw} (hT : WF T) (hr : RW T r) (ha : 0 ≤ a ∧ a < T 0 1) (hb : 0 ≤ b ∧ b < T 0 1) (hab : a ≠ b) (hz : 0 ≤ z ∧ z < T 0 2) (hγ : ∀ k, 0 ≤ k → k < T 0 3 → 0 ≤ γ k ∧ γ k < T 0 2) (hl : lawP T r a b γ z) : RW T (dealS T r a b γ z) := by
  have f1 := hT.1
  have f2 := hT.2.1
  have hγ8 : ∀ k, 0 ≤ k → k < T 0 3 → 0 ≤ γ k ∧ γ k < 8 := fun k h0 hk => by have := hγ k h0 hk; omega
  refine ⟨fun c h0 hc => ?_, fun p s hp0 hp hs0 hs ho => ?_, ?_⟩
  · have hrc := hr.1 c h0 hc
    unfold dealS
    by_cases ca : 8 * a ≤ c ∧ c < 8 * a + 8
    · have e := dl_a (T := T) (γ := γ) (s := c - 8 * a) hab (by omega) hγ8
      rw [show 8 * a + (c - 8 * a) = c by omega] at e
      rw [e, if_neg (show ¬ c = 8 * b + z by omega)]
      have hk : askS T γ (c - 8 * a) ≤ r c := by
        by_cases he : ∃ k, 0 ≤ k ∧ k < T 0 3 ∧ γ k = c - 8 * a
        · obtain ⟨k, k0, k1, k2⟩ := he
          have := hl.2.2.2 k k0 k1
          rw [k2, show 8 * a + (c - 8 * a) = c by omega] at this
          exact this
        · have : askS T γ (c - 8 * a) = 0 := by
            have : askS T γ (c - 8 * a) = sumN (fun _ => 0) (T 0 3) := sumN_congr (fun k k0 k1 => if_neg (fun q => he ⟨k, k0, k1, q⟩))
            rw [this]
            exact int_ind (p := fun m => sumN (fun _ => 0) m = 0) rfl (fun k hk ih => by rw [sumN_s _ hk, ih]; rfl) _ (by have := hT.2.2.1; omega)
          omega
      split <;> omega
    · have e := dl_o (T := T) (a := a) (b := b) (c := c) (γ := γ) (fun k k0 k1 => by have := hγ8 k k0 k1; omega)
      rw [if_neg (show ¬ c = 8 * a + z by omega)]
      split
      · next q => have := hl.1; rw [← q] at this; omega
      · omega
  · unfold dealS
    have e := dl_z (T := T) (a := a) (b := b) (c := 8 * p + s) (γ := γ) (fun k k0 k1 => by have := hγ k k0 k1; have := hγ8 k k0 k1; omega)
    rw [e, hr.2.1 p s hp0 hp hs0 hs ho, if_neg (by omega), if_neg (by omega)]
    rfl
  · have e : sumN (dealS T r a b γ z) 48 = sumN r 48 + sumN (fun c => sumN (dlS T a b γ c) (T 0 3)) 48 + 1 - 1 := by
      have h1 : sumN (dealS T r a b γ z) 48 = sumN (fun c => (r c + sumN (dlS T a b γ c) (T 0 3) + (if c = 8 * a + z then 1 else 0)) - (if c = 8 * b + z then 1 else 0)) 48 := rfl
      rw [h1, sumN_sub, sumN_add (fun c => r c + sumN (dlS T a b γ c) (T 0 3)), sumN_add r, sumN_ite (by omega) (by omega), sumN_ite (by omega) (by omega)]
    have h2 := sumN_comm (fun c k => dlS T a b γ c k) 48 (T 0 3)
    have h3 := sumN_bd (f := fun k => sumN (fun c => dlS T a b γ c k) 48) (n := T 0 3) (lo := -1) (hi := 0) (by have := hT.2.2.1; omega) (fun k k0 k1 => by
      have hk := hγ8 k k0 k1
      show -1 ≤ sumN (fun c => dlS T a b γ c k) 48 ∧ sumN (fun c => dlS T a b γ c k) 48 ≤ 0
      unfold dlS
      rw [sumN_add, sumN_ite (by omega) (by omega), sumN_ite (by omega) (by omega)]
      split <;> omega)
    have h4 := hr.2.2
    rw [e]
    have h5 : sumN (fun c => sumN (dlS T a b γ c) (T 0 3)) 48 = sumN (fun k => sumN (fun c => dlS T a b γ c k) 48) (T 0 3) := h2
    omega
theorem knot_RW {T : Tn} {r : Rw} {p t : Int} (hT : WF T) (hr : RW T r) (hp : 0 ≤ p ∧ p < T 0 1) (ht : 0 ≤ t ∧ t < T 0 5) (hl : tieP T r p t) : RW T (knotS T r p t) := by
  have f1 := hT.1
  have f2 := hT.2.1
  have f5 := hT.2.2.2.2.2.2.2.2.2.2.2.1 t
  have q0 := f5 0 ht.1 ht.2 (by decide) (by decide)
  have q1 := f5 1 ht.1 ht.2 (by decide) (by decide)
  have q2 := f5 2 ht.1 ht.2 (by decide) (by decide)
  rw [Int.add_zero] at q0
  refine ⟨fun c h0 hc => ?_, fun p' s hp0 hp1 hs0 hs ho => ?_, ?_⟩
  · have hrc := hr.1 c h0 hc
    unfold knotS
    unfold tieP at hl
    split at hl
    · next e =>
      rw [← e]
      by_cases c1 : c = 8 * p + T 5 (3 * t)
      · rw [← c1] at hl; rw [if_pos c1]; split <;> omega
      · rw [if_neg c1]; split <;> omega
    · next e =>
      by_cases c1 : c = 8 * p + T 5 (3 * t)
      · have := hl.1; rw [← c1] at this; rw [if_pos c1, if_neg (by omega)]; split <;> omega
      · by_cases c2 : c = 8 * p + T 5 (3 * t + 1)
        · have := hl.2; rw [← c2] at this; rw [if_neg c1, if_pos c2]; split <;> omega
        · rw [if_neg c1, if_neg c2]; split <;> omega
  · unfold knotS
    rw [hr.2.1 p' s hp0 hp1 hs0 hs ho, if_neg (by omega), if_neg (by omega), if_neg (by omega)]
    rfl
  · have h1 : sumN (knotS T r p t) 48 = sumN r 48 - 1 - 1 + 1 := by
      have h1 : sumN (knotS T r p t) 48 = sumN (fun c => (r c - (if c = 8 * p + T 5 (3 * t) then 1 else 0) - (if c = 8 * p + T 5 (3 * t + 1) then 1 else 0)) + (if c = 8 * p + T 5 (3 * t + 2) then 1 else 0)) 48 := rfl
      rw [h1, sumN_add, sumN_sub, sumN_sub, sumN_ite (by omega) (by omega), sumN_ite (by omega) (by omega), sumN_ite (by omega) (by omega)]
    have h4 := hr.2.2
    omega
-- meetings
/-- gain, a, b, offer, z -/
abbrev Bst : Type := Int × Int × Int × Int × Int
noncomputable def lookB (T : Tn) (r : Rw) (a b o z : Int) (m : Bst) : Bst :=
  cif (lawP T r a b (OF T o) z ∧ 0 < bagS T (dealS T r a b (OF T o) z) a - bagS T r a ∧ 0 < bagS T (dealS T r a b (OF T o) z) b - bagS T r b ∧ m.1 < (bagS T (dealS T r a b (OF T o) z) a - bagS T r a) + (bagS T (dealS T r a b (OF T o) z) b - bagS T r b))
    ((bagS T (dealS T r a b (OF T o) z) a - bagS T r a) + (bagS T (dealS T r a b (OF T o) z) b - bagS T r b), a, b, o, z) m
noncomputable def looksS (T : Tn) (r : Rw) (a b : Int) (m : Bst) : Bst := itN (fun o m => itN (fun z m => lookB T r a b o z m) (T 0 2) m) (OFN T) m
noncomputable def meetB (T : Tn) (r : Rw) (a b : Int) : Bst := looksS T r (max a b) (min a b) (looksS T r (min a b) (max a b) (0, 0, 0, 0, 0))
noncomputable def meetS (T : Tn) (r : Rw) (a b : Int) : Int × Rw := if 0 < (meetB T r a b).1 then ((meetB T r a b).1, dealS T r (meetB T r a b).2.1 (meetB T r a b).2.2.1 (OF T (meetB T r a b).2.2.2.1) (meetB T r a b).2.2.2.2) else (0, r)
/-- what a best trade is, if there is one: lawful, of these two -/
def bstOK (T : Tn) (r : Rw) (a b : Int) (m : Bst) : Prop := 0 ≤ m.1 ∧ m.1 ≤ 152200000 ∧ (0 < m.1 → ((m.2.1 = a ∧ m.2.2.1 = b) ∨ (m.2.1 = b ∧ m.2.2.1 = a)) ∧ (0 ≤ m.2.2.2.1 ∧ m.2.2.2.1 < OFN T) ∧ (0 ≤ m.2.2.2.2 ∧ m.2.2.2.2 < T 0 2) ∧ lawP T r m.2.1 m.2.2.1 (OF T m.2.2.2.1) m.2.2.2.2)
theorem bstOK_sym {T : Tn} {r : Rw} {a b : Int} {m : Bst} (h : bstOK T r a b m) : bstOK T r b a m := ⟨h.1, h.2.1, fun q => ⟨(h.2.2 q).1.symm, (h.2.2 q).2⟩⟩
theorem lookB_ok {T : Tn} {r : Rw} {a b o z : Int} {m : Bst} (hT : WF T) (hr : RW T r) (ha : 0 ≤ a ∧ a < T 0 1) (hb : 0 ≤ b ∧ b < T 0 1) (hab : a ≠ b) (ho : 0 ≤ o ∧ o < OFN T) (hz : 0 ≤ z ∧ z < T 0 2) (h : bstOK T r a b m) : bstOK T r a b (lookB T r a b o z m) := by
  unfold lookB
  by_cases q : lawP T r a b (OF T o) z ∧ 0 < bagS T (dealS T r a b (OF T o) z) a - bagS T r a ∧ 0 < bagS T (dealS T r a b (OF T o) z) b - bagS T r b ∧ m.1 < (bagS T (dealS T r a b (OF T o) z) a - bagS T r a) + (bagS T (dealS T r a b (OF T o) z) b - bagS T r b)
  · rw [cif_pos q]
    have hd := (deal_RW (γ := OF T o) hT hr ha hb hab hz (fun k h0 hk => OF_bd hT ho.1 ho.2 h0 (by have := hT.2.2.1; omega)) q.1).rc
    have b1 := bagS_bd hT hd ha
    have b2 := bagS_bd hT hd hb
    have b3 := bagS_bd hT hr.rc ha
    have b4 := bagS_bd hT hr.rc hb
    obtain ⟨q1, q2, q3, q4⟩ := q
    exact ⟨Int.add_nonneg (by omega) (by omega), (by omega : (bagS T (dealS T r a b (OF T o) z) a - bagS T r a) + (bagS T (dealS T r a b (OF T o) z) b - bagS T r b) ≤ 152200000), fun _ => ⟨Or.inl ⟨rfl, rfl⟩, ho, hz, q1⟩⟩
  · rw [cif_neg q]; exact h
theorem looksS_ok {T : Tn} {r : Rw} {a b : Int} {m : Bst} (hT : WF T) (hr : RW T r) (ha : 0 ≤ a ∧ a < T 0 1) (hb : 0 ≤ b ∧ b < T 0 1) (hab : a ≠ b) (h : bstOK T r a b m) : bstOK T r a b (looksS T r a b m) :=
  itN_inv (p := bstOK T r a b) h (fun o m ho ho2 hm => itN_inv (p := bstOK T r a b) hm (fun z m hz hz2 hm => lookB_ok hT hr ha hb hab ⟨ho, ho2⟩ ⟨hz, hz2⟩ hm))
theorem meetB_ok {T : Tn} {r : Rw} {a b : Int} (hT : WF T) (hr : RW T r) (ha : 0 ≤ a ∧ a < T 0 1) (hb : 0 ≤ b ∧ b < T 0 1) (hab : a ≠ b) : bstOK T r a b (meetB T r a b) := by
  have h0 : ∀ x y, bstOK T r x y (0, 0, 0, 0, 0) := fun x y => ⟨by show (0 : Int) ≤ 0; omega, by show (0 : Int) ≤ 152200000; omega, fun q => absurd q (by show ¬ (0 : Int) < 0; omega)⟩
  unfold meetB
  rcases Int.lt_or_gt_of_ne hab with q | q
  · rw [show max a b = b by omega, show min a b = a by omega]
    exact bstOK_sym (looksS_ok hT hr hb ha (Ne.symm hab) (bstOK_sym (looksS_ok hT hr ha hb hab (h0 _ _))))
  · rw [show max a b = a by omega, show min a b = b by omega]
    exact looksS_ok hT hr ha hb hab (bstOK_sym (looksS_ok hT hr hb ha (Ne.symm hab) (h0 _ _)))
theorem meetS_RW {T : Tn} {r : Rw} {a b : Int} (hT : WF T) (hr : RW T r) (ha : 0 ≤ a ∧ a < T 0 1) (hb : 0 ≤ b ∧ b < T 0 1) (hab : a ≠ b) : RW T (meetS T r a b).2 ∧ 0 ≤ (meetS T r a b).1 ∧ (meetS T r a b).1 ≤ 152200000 := by
  have h := meetB_ok hT hr ha hb hab
  unfold meetS
  split
  · next q =>
    have h2 := h.2.2 q
    have hO : ∀ k, 0 ≤ k → k < T 0 3 → 0 ≤ OF T (meetB T r a b).2.2.2.1 k ∧ OF T (meetB T r a b).2.2.2.1 k < T 0 2 := fun k h0 hk => OF_bd hT h2.2.1.1 h2.2.1.2 h0 (by have := hT.2.2.1; omega)
    rcases h2.1 with ⟨e1, e2⟩ | ⟨e1, e2⟩
    · exact ⟨deal_RW hT hr (by rw [e1]; exact ha) (by rw [e2]; exact hb) (by rw [e1, e2]; exact hab) h2.2.2.1 hO h2.2.2.2, h.1, h.2.1⟩
    · exact ⟨deal_RW hT hr (by rw [e1]; exact hb) (by rw [e2]; exact ha) (by rw [e1, e2]; exact Ne.symm hab) h2.2.2.1 hO h2.2.2.2, h.1, h.2.1⟩
  · exact ⟨hr, by show (0 : Int) ≤ 0; omega, by show (0 : Int) ≤ 152200000; omega⟩
-- days: trades made, the row then
noncomputable def dayB (T : Tn) (w m : Int) (x : Int × Rw) : Int × Rw := if T 6 (2 * m) ≠ w ∧ T 6 (2 * m + 1) ≠ w then (x.1 + (if 0 < (meetS T x.2 (T 6 (2 * m)) (T 6 (2 * m + 1))).1 then 1 else 0), (meetS T x.2 (T 6 (2 * m)) (T 6 (2 * m + 1))).2) else x
noncomputable def dayS (T : Tn) (w : Int) (r : Rw) : Int × Rw := itN (fun m x => dayB T w m x) (T 0 6) (0, r)
theorem dayB_ok {T : Tn} {w m : Int} {x : Int × Rw} (hT : WF T) (hr : RW T x.2) (h0 : 0 ≤ m) (hm : m < T 0 6) : RW T (dayB T w m x).2 ∧ x.1 ≤ (dayB T w m x).1 ∧ (dayB T w m x).1 ≤ x.1 + 1 := by
  have hm0 := hT.2.2.2.2.2.2.2.2.2.2.2.2.2.1 m 0 h0 hm (by decide) (by decide)
  have hm1 := hT.2.2.2.2.2.2.2.2.2.2.2.2.2.1 m 1 h0 hm (by decide) (by decide)
  have hne := hT.2.2.2.2.2.2.2.2.2.2.2.2.2.2 m h0 hm
  rw [Int.add_zero] at hm0
  unfold dayB
  split
  · have h2 := meetS_RW (a := T 6 (2 * m)) (b := T 6 (2 * m + 1)) hT hr hm0 hm1 hne
    refine ⟨h2.1, ?_, ?_⟩
    · show _ ≤ _ + _
      split <;> omega
    · show _ + _ ≤ _
      split <;> omega
  · exact ⟨hr, Int.le_refl _, by omega⟩
theorem dayN_ok {T : Tn} {w : Int} {r : Rw} (hT : WF T) (hr : RW T r) {m : Int} (h0 : 0 ≤ m) (hm : m ≤ T 0 6) : RW T (itN (fun m x => dayB T w m x) m (0, r)).2 ∧ 0 ≤ (itN (fun m x => dayB T w m x) m (0, r)).1 ∧ (itN (fun m x => dayB T w m x) m (0, r)).1 ≤ m := by
  refine int_ind (p := fun m => m ≤ T 0 6 → RW T (itN (fun m x => dayB T w m x) m (0, r)).2 ∧ 0 ≤ (itN (fun m x => dayB T w m x) m (0, r)).1 ∧ (itN (fun m x => dayB T w m x) m (0, r)).1 ≤ m) (fun _ => ⟨hr, Int.le_refl _, Int.le_refl _⟩) (fun k hk ih hkm => ?_) m h0 hm
  have h := ih (by omega)
  rw [itN_s _ _ hk]
  have h2 := dayB_ok (w := w) hT h.1 hk (show k < T 0 6 by omega)
  exact ⟨h2.1, by omega, by omega⟩
theorem dayS_ok {T : Tn} {w : Int} {r : Rw} (hT : WF T) (hr : RW T r) : RW T (dayS T w r).2 ∧ 0 ≤ (dayS T w r).1 ∧ (dayS T w r).1 ≤ 8 := by
  have h := dayN_ok (w := w) hT hr (m := T 0 6) (by have := hT.2.2.2.2.2.1; omega) (Int.le_refl _)
  have h6 := hT.2.2.2.2.2.1
  exact ⟨h.1, h.2.1, by have := h.2.2; unfold dayS; omega⟩
