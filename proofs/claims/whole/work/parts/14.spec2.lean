/-! ===== what is given: how often asked, lawful, dealt ===== -/
def askS (T : Tn) (γ : Rw) (s : Int) : Int := sumN (fun k => if γ k = s then 1 else 0) (T 0 3)
def keepS (T : Tn) (γ : Rw) : Int := if γ 0 ≠ T 0 4 then 0 else if 1 < T 0 3 ∧ γ 1 ≠ T 0 4 then 1 else if 2 < T 0 3 ∧ γ 2 ≠ T 0 4 then 2 else 0
def lawP (T : Tn) (r : Rw) (a b : Int) (γ : Rw) (z : Int) : Prop := 0 < r (8 * b + z) ∧ askS T γ z = 0 ∧ (T 0 4 = -1 ∨ 0 < askS T γ (T 0 4)) ∧ ∀ k, 0 ≤ k → k < T 0 3 → askS T γ (γ k) ≤ r (8 * a + γ k)
/-- what the k-th given thing changes at the cell c -/
def dlS (T : Tn) (a b : Int) (γ : Rw) (c k : Int) : Int := (if c = 8 * a + γ k then -1 else 0) + (if c = 8 * b + γ k then (if k = keepS T γ ∨ T 0 7 = 0 then 1 else 0) else 0)
def dealS (T : Tn) (r : Rw) (a b : Int) (γ : Rw) (z : Int) : Rw := fun c => r c + sumN (dlS T a b γ c) (T 0 3) + (if c = 8 * a + z then 1 else 0) - (if c = 8 * b + z then 1 else 0)
def numS (g : Int) (γ : Rw) : Int := itN (fun k v => 9 * v + γ k + 1) g 0
theorem askS_bd {T : Tn} {γ : Rw} {s : Int} (hT : WF T) : 0 ≤ askS T γ s ∧ askS T γ s ≤ T 0 3 := by
  have h := sumN_bd (f := fun k => if γ k = s then 1 else 0) (n := T 0 3) (lo := 0) (hi := 1) (by have := hT.2.2.1; omega) (fun k _ _ => by
    show 0 ≤ (if γ k = s then (1 : Int) else 0) ∧ (if γ k = s then (1 : Int) else 0) ≤ 1
    split <;> omega)
  unfold askS
  omega
theorem keepS_bd (T : Tn) (γ : Rw) : 0 ≤ keepS T γ ∧ keepS T γ ≤ 2 := by
  unfold keepS
  split
  · omega
  · split
    · omega
    · split <;> omega
theorem askS_congr {T : Tn} {γ γ' : Rw} {s : Int} (h : ∀ k, 0 ≤ k → k < T 0 3 → γ k = γ' k) : askS T γ s = askS T γ' s := sumN_congr (fun k h0 h1 => by rw [h k h0 h1])
theorem keepS_congr {T : Tn} {γ γ' : Rw} (hT : WF T) (h : ∀ k, 0 ≤ k → k < T 0 3 → γ k = γ' k) : keepS T γ = keepS T γ' := by
  have hg := hT.2.2.1
  unfold keepS
  rw [h 0 (by omega) (by omega)]
  by_cases h1 : 1 < T 0 3
  · rw [h 1 (by omega) h1]
    by_cases h2 : 2 < T 0 3
    · rw [h 2 (by omega) h2]
    · simp [h2]
  · have h2 : ¬ 2 < T 0 3 := by omega
    simp [h1, h2]
theorem lawP_congr {T : Tn} {r : Rw} {a b z : Int} {γ γ' : Rw} (h : ∀ k, 0 ≤ k → k < T 0 3 → γ k = γ' k) : lawP T r a b γ z ↔ lawP T r a b γ' z := by
  unfold lawP
  rw [askS_congr (s := z) h, askS_congr (s := T 0 4) h]
  constructor
  · rintro ⟨h1, h2, h3, h4⟩
    exact ⟨h1, h2, h3, fun k h0 hk => by rw [← h k h0 hk, ← askS_congr h]; exact h4 k h0 hk⟩
  · rintro ⟨h1, h2, h3, h4⟩
    exact ⟨h1, h2, h3, fun k h0 hk => by rw [h k h0 hk, askS_congr h]; exact h4 k h0 hk⟩
theorem dealS_congr {T : Tn} {r : Rw} {a b z : Int} {γ γ' : Rw} (hT : WF T) (h : ∀ k, 0 ≤ k → k < T 0 3 → γ k = γ' k) : dealS T r a b γ z = dealS T r a b γ' z := by
  funext c
  unfold dealS
  rw [sumN_congr (g := dlS T a b γ' c) (fun k h0 hk => by unfold dlS; rw [h k h0 hk, keepS_congr hT h])]
def pwS (g k : Int) : Int := if k = g - 1 then 1 else if k = g - 2 then 9 else if k = g - 3 then 81 else 729
def dgS (g v k : Int) : Int := v / pwS g k % 9 - 1
def vdS (T : Tn) (v : Int) : Prop := 0 ≤ v ∧ v < 9 * pwS (T 0 3) 0 ∧ ∀ k, 0 ≤ k → k < T 0 3 → (0 ≤ dgS (T 0 3) v k ∧ dgS (T 0 3) v k < T 0 2) ∧ (k + 1 < T 0 3 → dgS (T 0 3) v k ≤ dgS (T 0 3) v (k + 1))
def tieP (T : Tn) (r : Rw) (p t : Int) : Prop := if T 5 (3 * t) = T 5 (3 * t + 1) then 1 < r (8 * p + T 5 (3 * t)) else 0 < r (8 * p + T 5 (3 * t)) ∧ 0 < r (8 * p + T 5 (3 * t + 1))
def knotS (T : Tn) (r : Rw) (p t : Int) : Rw := fun c => r c - (if c = 8 * p + T 5 (3 * t) then 1 else 0) - (if c = 8 * p + T 5 (3 * t + 1) then 1 else 0) + (if c = 8 * p + T 5 (3 * t + 2) then 1 else 0)
theorem AR.ne {n m a b t t' N M : Nat} (h : AR n a t N) (h' : AR m b t' M) (hq : ¬ (t = t' ∧ N = M)) : a ≠ b := fun e => by
  subst e
  have := h.1.symm.trans h'.1
  cases this
  exact hq ⟨rfl, rfl⟩
theorem AR.na {n m a b t N ci : Nat} (h : AR n a t N) (h' : AT m b ci) (hq : t ≠ ci) : a ≠ b := fun e => by
  subst e
  have := h'.1
  rw [h.1] at this
  exact hq this
theorem mem_eq {I J : Mem} {a : Nat} {f : Int → Int} (h : ∀ c, J a c = f c) (h2 : ∀ x, x ≠ a → J x = I x) : J = uA I a f := by
  funext b
  by_cases e : b = a
  · subst e; rw [uA_eq]; funext c; exact h c
  · rw [uA_ne e]; exact h2 b e
theorem uI_uI {I : Mem} {a : Nat} {i v w : Int} : uI (uI I a i v) a i w = uI I a i w := by
  funext b
  by_cases e : b = a
  · subst e
    rw [uI_eq, uI_eq, uI_eq]
    funext j
    unfold u1
    split <;> rfl
  · rw [uI_ne e, uI_ne e, uI_ne e]
theorem dlS_bd (T : Tn) (a b : Int) (γ : Rw) (c k : Int) : -1 ≤ dlS T a b γ c k ∧ dlS T a b γ c k ≤ 1 := by
  unfold dlS
  split <;> split <;> (try split) <;> omega
theorem dl_sum_bd {T : Tn} {a b : Int} {γ : Rw} {c k : Int} (hk : 0 ≤ k) : -k ≤ sumN (dlS T a b γ c) k ∧ sumN (dlS T a b γ c) k ≤ k := by
  have h := sumN_bd (f := dlS T a b γ c) (n := k) (lo := -1) (hi := 1) hk (fun i _ _ => dlS_bd T a b γ c i)
  omega
theorem bump1 {f : Rw} {i v x c : Int} (hv : v = f i + x) : u1 f i v c = f c + (if c = i then x else 0) := by
  unfold u1
  by_cases e : c = i
  · rw [if_pos e, if_pos e, hv, e]
  · rw [if_neg e, if_neg e]; omega
theorem bump2 {f : Rw} {i j v w x y c : Int} (hv : v = f i + x) (hw : w = u1 f i v j + y) : u1 (u1 f i v) j w c = f c + (if c = i then x else 0) + (if c = j then y else 0) := by
  rw [bump1 hw, bump1 hv]
