/-! ===== what is given: how often asked, lawful, dealt ===== -/
def askS (T : Tn) (γ : Rw) (s : Int) : Int := sumN (fun k => if γ k = s then 1 else 0) (T 0 3)
def keepS (T : Tn) (γ : Rw) : Int := if γ 0 ≠ T 0 4 then 0 else if 1 < T 0 3 ∧ γ 1 ≠ T 0 4 then 1 else if 2 < T 0 3 ∧ γ 2 ≠ T 0 4 then 2 else 0
def lawP (T : Tn) (r : Rw) (a b : Int) (γ : Rw) (z : Int) : Prop := 0 < r (8 * b + z) ∧ askS T γ z = 0 ∧ (T 0 4 = -1 ∨ 0 < askS T γ (T 0 4)) ∧ ∀ k, 0 ≤ k → k < T 0 3 → askS T γ (γ k) ≤ r (8 * a + γ k)
/-- what the k-th given thing changes at the cell c -/
def dlS (T : Tn) (a b : Int) (γ : Rw) (c k : Int) : Int := (if c = 8 * a + γ k then -1 else 0) + (if c = 8 * b + γ k then (if k = keepS T γ ∨ T 0 7 = 0 then 1 else 0) else 0)
def dealS (T : Tn) (r : Rw) (a b : Int) (γ : Rw) (z : Int) : Rw := fun c => r c + sumN (dlS T a b γ c) (T 0 3) + (if c = 8 * a + z then 1 else 0) - (if c = 8 * b + z then 1 else 0)
def numS (g : Int) (γ : Rw) : Int := itN (fun k v => 9 * v + γ k + 1) g 0
theorem askS_bd {T : Tn} {γ : Rw} {s : Int} (hT : WF T) : 0 ≤ askS T γ s ∧ askS T γ s ≤ T 0 3 := by
  have h := sumN_bd (f := fun k => if γ k = s then 1 else 0) (n := T 0 3) (lo := 0) (hi := 1) (by have := hT.2.2.1; omega) (fun k _ _ => by
    show 0 ≤ (if γ k = s then (1 : Int) else 0) ∧ (if γ k = s then (1 : Int) else 0) ≤ 1
    split <;> omega)
  unfold askS
  omega
theorem keepS_bd (T : Tn) (γ : Rw) : 0 ≤ keepS T γ ∧ keepS T γ ≤ 2 := by
  unfold keepS
  split
  · omega
  · split
    · omega
    · split <;> omega
theorem askS_congr {T : Tn} {γ γ' : Rw} {s : Int} (h : ∀ k, 0 ≤ k → k < T 0 3 → γ k = γ' k) : askS T γ s = askS T γ' s := sumN_congr (fun k h0 h1 => by rw [h k h0 h1])
theorem keepS_congr {T : Tn} {γ γ' : Rw} (hT : WF T) (h : ∀ k, 0 ≤ k → k < T 0 3 → γ k = γ' k) : keepS T γ = keepS T γ' := by
  have hg := hT.2.2.1
  unfold keepS
  rw [h 0 (by omega) (by omega)]
  by_cases h1 : 1 < T 0 3
  · rw [h 1 (by omega) h1]
    by_cases h2 : 2 < T 0 3
    · rw [h 2 (by omega) h2]
    · simp [h2]
  · have h2 : ¬ 2 < T 0 3 := by omega
    simp [h1, h2]
theorem lawP_congr {T : Tn} {r : Rw} {a b z : Int} {γ γ' : Rw} (h : ∀ k, 0 ≤ k → k < T 0 3 → γ k = γ' k) : lawP T r a b γ z ↔ lawP T r a b γ' z := by
  unfold lawP
  rw [askS_congr (s := z) h, askS_congr (s := T 0 4) h]
  constructor
  · rintro ⟨h1, h2, h3, h4⟩
    exact ⟨h1, h2, h3, fun k h0 hk => by rw [← h k h0 hk, ← askS_congr h]; exact h4 k h0 hk⟩
  · rintro ⟨h1, h2, h3, h4⟩
    exact ⟨h1, h2, h3, fun k h0 hk => by rw [h k h0 hk, askS_congr h]; exact h4 k h0 hk⟩
theorem dealS_congr {T : Tn} {r : Rw} {a b z : Int} {γ γ' : Rw} (hT : WF T) (h : ∀ k, 0 ≤ k → k < T 0 3 → γ k = γ' k) : dealS T r a b γ z = dealS T r a b γ' z := by
  funext c
  unfold dealS
  rw [sumN_congr (g := dlS T a b γ' c) (fun k h0 hk => by unfold dlS; rw [h k h0 hk, keepS_congr hT h])]
