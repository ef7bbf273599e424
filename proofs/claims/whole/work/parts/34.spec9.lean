/-! ===== sharing out: how many ways there are, and that all are gone through ===== -/
def cw : Nat → Int → Int
  | 0, _ => 1
  | k + 1, n => sumN (fun v => cw k v) (n + 1)
theorem cw_s {k : Nat} {n : Int} (h : 0 ≤ n) : cw (k + 1) (n + 1) = cw (k + 1) n + cw k (n + 1) := sumN_s _ (by omega)
theorem cw_0 : ∀ {k : Nat}, cw k 0 = 1
  | 0 => rfl
  | k + 1 => by
    show sumN (fun v => cw k v) (0 + 1) = 1
    rw [sumN_s _ (Int.le_refl 0), sumN_0, cw_0]
    rfl
theorem cw_pos : ∀ {k : Nat} {n : Int}, 0 ≤ n → 1 ≤ cw k n
  | 0, _, _ => Int.le_refl _
  | k + 1, n, h => by
    have h1 : sumN (fun v => cw k v) (n + 1) = _ := sumN_s _ h
    have h2 : 0 ≤ sumN (fun v => cw k v) n := sumN_nn (fun i h0 _ => by have := cw_pos (k := k) h0; omega)
    have h3 := cw_pos (k := k) h
    show 1 ≤ sumN (fun v => cw k v) (n + 1)
    omega
theorem cw_mono {k : Nat} {n : Int} (h : 0 ≤ n) : cw k n ≤ cw (k + 1) n := by
  have h1 : sumN (fun v => cw k v) (n + 1) = _ := sumN_s _ h
  have h2 : 0 ≤ sumN (fun v => cw k v) n := sumN_nn (fun i h0 _ => by have := cw_pos (k := k) h0; omega)
  show _ ≤ sumN (fun v => cw k v) (n + 1)
  omega
theorem cw_le {n : Int} (h : 0 ≤ n) {k : Nat} : ∀ (j : Nat), cw k n ≤ cw (k + j) n
  | 0 => Int.le_refl _
  | j + 1 => Int.le_trans (cw_le h j) (cw_mono (k := k + j) h)
theorem cw_id : ∀ (k : Nat) {n : Int}, 0 ≤ n → ((k : Int) + 1) * cw (k + 1) n = (n + (k : Int) + 1) * cw k n
  | 0, n, h => by
    refine int_ind (p := fun n => (((0 : Nat) : Int) + 1) * cw (0 + 1) n = (n + ((0 : Nat) : Int) + 1) * cw 0 n) ?_ (fun m hm ih => ?_) n h
    · rw [cw_0, cw_0]; rfl
    · rw [cw_s hm, show cw 0 (m + 1) = 1 from rfl]
      rw [show cw 0 m = 1 from rfl] at ih
      omega
  | k + 1, n, h => by
    refine int_ind (p := fun n => (((k + 1 : Nat) : Int) + 1) * cw (k + 1 + 1) n = (n + ((k + 1 : Nat) : Int) + 1) * cw (k + 1) n) ?_ (fun m hm ih => ?_) n h
    · rw [cw_0, cw_0]; omega
    · have h1 := cw_id k (n := m + 1) (by omega)
      have e1 := cw_s (k := k + 1) hm
      have e2 := cw_s (k := k) hm
      rw [e1]
      have e3 : cw (k + 1) m = cw (k + 1) (m + 1) - cw k (m + 1) := by omega
      rw [e3] at ih
      obtain ⟨A, hA⟩ : ∃ A, A = cw (k + 1) (m + 1) := ⟨_, rfl⟩
      obtain ⟨B, hB⟩ : ∃ B, B = cw k (m + 1) := ⟨_, rfl⟩
      obtain ⟨D, hD⟩ : ∃ D, D = cw (k + 1 + 1) m := ⟨_, rfl⟩
      rw [← hA, ← hB] at h1
      rw [← hA, ← hB, ← hD] at ih
      rw [← hA, ← hD]
      obtain ⟨z, hz⟩ : ∃ z : Int, z = (k : Int) := ⟨_, rfl⟩
      rw [show ((k + 1 : Nat) : Int) = z + 1 by omega] at ih ⊢
      rw [← hz] at h1
      have x1 : (m + (z + 1) + 1) * (A - B) = (m + (z + 1) + 1) * A - (m + (z + 1) + 1) * B := Int.mul_sub ..
      have x2 : (m + (z + 1) + 1) * B = (m + 1 + z + 1) * B := by rw [show m + (z + 1) + 1 = m + 1 + z + 1 by omega]
      have x3 : (z + 1 + 1) * (D + A) = (z + 1 + 1) * D + (z + 1 + 1) * A := Int.mul_add ..
      have x4 : (z + 1 + 1) * A = (z + 1) * A + A := by rw [Int.add_mul (z + 1) 1 A, Int.one_mul]
      have x5 : (m + 1 + (z + 1) + 1) * A = (m + (z + 1) + 1) * A + A := by rw [show m + 1 + (z + 1) + 1 = (m + (z + 1) + 1) + 1 by omega, Int.add_mul (m + (z + 1) + 1) 1 A, Int.one_mul]
      omega
theorem cw_div {k : Nat} {n : Int} (h : 0 ≤ n) : cw k n * (n + ((k : Int) + 1)) / ((k : Int) + 1) = cw (k + 1) n := by
  refine Int.ediv_eq_of_eq_mul_right (by omega) ?_
  rw [cw_id k h, Int.mul_comm, Int.add_assoc]
-- products
def prN (f : Int → Int) (n : Int) : Int := itN (fun x a => a * f x) n 1
theorem prN_s {f : Int → Int} {n : Int} (h : 0 ≤ n) : prN f (n + 1) = prN f n * f n := itN_s _ _ h
theorem prN_congr {f g : Int → Int} {n : Int} (h : ∀ x, 0 ≤ x → x < n → f x = g x) : prN f n = prN g n := itN_congr (fun x a h0 h1 => by rw [h x h0 h1])
theorem sumN_mulr (f : Int → Int) (c n : Int) : sumN (fun i => f i * c) n = sumN f n * c := by
  by_cases hn : n ≤ 0
  · rw [sumN_neg _ hn, sumN_neg _ hn, Int.zero_mul]
  · exact int_ind (p := fun m => sumN (fun i => f i * c) m = sumN f m * c) (by rw [sumN_0, sumN_0, Int.zero_mul]) (fun k hk ih => by rw [sumN_s _ hk, sumN_s _ hk, ih, Int.add_mul]) n (by omega)
theorem sumN_mull (f : Int → Int) (c n : Int) : sumN (fun i => c * f i) n = c * sumN f n := by
  have := sumN_mulr f c n
  rw [Int.mul_comm, ← this]
  exact sumN_congr (fun i _ _ => Int.mul_comm ..)
theorem prN_sum {f : Int → Int} {g : Int → Int → Int} {x n N : Int} (hx : 0 ≤ x ∧ x < n) (h1 : ∀ u y, 0 ≤ u → u < N → 0 ≤ y → y < n → y ≠ x → g u y = f y) (h2 : sumN (fun u => g u x) N = f x) : sumN (fun u => prN (g u) n) N = prN f n := by
  have key : ∀ m, 0 ≤ m → x + 1 + m ≤ n → sumN (fun u => prN (g u) (x + 1 + m)) N = prN f (x + 1 + m) := fun m hm => int_ind (p := fun m => x + 1 + m ≤ n → sumN (fun u => prN (g u) (x + 1 + m)) N = prN f (x + 1 + m)) (fun _ => by
    rw [Int.add_zero, prN_s hx.1, ← h2, ← sumN_mull]
    exact sumN_congr (fun u u0 u1 => by
      rw [prN_s hx.1, prN_congr (f := g u) (g := f) (fun y y0 y1 => h1 u y u0 u1 y0 (by omega) (by omega))])) (fun k hk ih hkn => by
    rw [← Int.add_assoc, prN_s (by omega), ← ih (by omega), ← sumN_mulr]
    exact sumN_congr (fun u u0 u1 => by
      rw [prN_s (by omega), h1 u (x + 1 + k) u0 u1 (by omega) (by omega) (by omega)])) m hm
  have := key (n - (x + 1)) (by omega) (by omega)
  rwa [show x + 1 + (n - (x + 1)) = n by omega] at this
-- a row's columns: who has how many of a sort
def colS (m : Rw) (x p : Int) : Int := sumN (fun q => m (8 * q + x)) p
theorem colS_s {m : Rw} {x p : Int} (h : 0 ≤ p) : colS m x (p + 1) = colS m x p + m (8 * p + x) := sumN_s _ h
theorem colS_congr {m m' : Rw} {x p : Int} (h : ∀ q, 0 ≤ q → q < p → m (8 * q + x) = m' (8 * q + x)) : colS m x p = colS m' x p := sumN_congr h
/-- the first of the rows that begin as m does, up to cell j -/
def fsS (K : Int) (L : Rw) (j : Int) (m : Rw) : Rw := fun c => if c < 0 then 0 else if c < j then m c else if c < j + 8 ∧ c < 8 * K then L (c % 8) - colS m (c % 8) (c / 8) else 0
theorem fsS_congr {K : Int} {L : Rw} {j : Int} {m m' : Rw} (h : ∀ c, 0 ≤ c → c < j → m c = m' c) : fsS K L j m = fsS K L j m' := by
  funext c
  unfold fsS
  by_cases h0 : c < 0
  · rw [if_pos h0, if_pos h0]
  · rw [if_neg h0, if_neg h0]
    by_cases h1 : c < j
    · rw [if_pos h1, if_pos h1]; exact h c (by omega) h1
    · rw [if_neg h1, if_neg h1]
      by_cases h2 : c < j + 8 ∧ c < 8 * K
      · rw [if_pos h2, if_pos h2, colS_congr (fun q q0 q1 => h _ (by omega) (by omega))]
      · rw [if_neg h2, if_neg h2]
def shI (K : Int) (m : Rw) : Int := lastS (fun c => 0 < m c) (8 * (K - 1))
def nxT (K : Int) (L m : Rw) : Rw := fsS K L (shI K m + 1) (u1 m (shI K m) (m (shI K m) - 1))
def itr (K : Int) (L : Rw) (t : Int) (m : Rw) : Rw := itN (fun _ m => nxT K L m) t m
theorem itr_0 {K : Int} {L m : Rw} : itr K L 0 m = m := rfl
theorem itr_s {K : Int} {L m : Rw} {t : Int} (h : 0 ≤ t) : itr K L (t + 1) m = nxT K L (itr K L t m) := itN_s _ _ h
theorem itr_add {K : Int} {L m : Rw} {a b : Int} (ha : 0 ≤ a) (hb : 0 ≤ b) : itr K L (a + b) m = itr K L b (itr K L a m) :=
  int_ind (p := fun b => itr K L (a + b) m = itr K L b (itr K L a m)) (by rw [Int.add_zero, itr_0]) (fun k hk ih => by rw [← Int.add_assoc, itr_s (by omega), itr_s hk, ih]) b hb
def owS (j x : Int) : Int := (j - x + 7) / 8
def rsS (L m : Rw) (j x : Int) : Int := L x - colS m x (owS j x)
def wyW (K : Int) (L m : Rw) (j : Int) : Int := prN (fun x => cw (K - 1 - owS j x).toNat (rsS L m j x)) 8
/-- what stands up to cell j leaves something for the others -/
def PVl (L m : Rw) (j : Int) : Prop := (∀ c, 0 ≤ c → c < j → 0 ≤ m c) ∧ ∀ x, 0 ≤ x → x < 8 → 0 ≤ rsS L m j x
theorem prN_one {f : Int → Int} {n : Int} (h : ∀ x, 0 ≤ x → x < n → f x = 1) : prN f n = 1 := itN_inv (p := fun a : Int => a = 1) rfl (fun x a h0 h1 ha => by rw [ha, h x h0 h1]; rfl)
theorem prN_pos {f : Int → Int} {n : Int} (h : ∀ x, 0 ≤ x → x < n → 1 ≤ f x) : 1 ≤ prN f n := itN_inv (p := fun a : Int => 1 ≤ a) (Int.le_refl _) (fun x a h0 h1 ha => by
  have := h x h0 h1
  calc (1 : Int) = 1 * 1 := rfl
    _ ≤ a * f x := Int.mul_le_mul ha this (by omega) (by omega))
theorem u1_col {m : Rw} {j v x p : Int} (h : ∀ q, 0 ≤ q → q < p → 8 * q + x ≠ j) : colS (u1 m j v) x p = colS m x p := colS_congr (fun q q0 q1 => u1_ne (h q q0 q1))
theorem fsS_step {K : Int} {L m : Rw} {j : Int} (hj : 0 ≤ j ∧ j < 8 * (K - 1)) : fsS K L j m = fsS K L (j + 1) (u1 m j (L (j % 8) - colS m (j % 8) (j / 8))) := by
  funext c
  unfold fsS
  by_cases h0 : c < 0
  · rw [if_pos h0, if_pos h0]
  rw [if_neg h0, if_neg h0]
  by_cases h1 : c < j
  · rw [if_pos h1, if_pos (by omega), u1_ne (by omega)]
  rw [if_neg h1]
  by_cases h2 : c = j
  · rw [if_pos (by omega), if_pos (by omega), h2, u1_eq]
  rw [if_neg (show ¬ c < j + 1 by omega)]
  by_cases h3 : c < j + 8
  · by_cases h4 : c < 8 * K
    · rw [if_pos ⟨h3, h4⟩, if_pos ⟨by omega, h4⟩, u1_col (fun q q0 q1 => by omega)]
    · rw [if_neg (by omega), if_neg (by omega)]
  · rw [if_neg (by omega)]
    by_cases h5 : c = j + 8
    · by_cases h4 : c < 8 * K
      · rw [if_pos ⟨by omega, h4⟩, show c % 8 = j % 8 by omega, show c / 8 = j / 8 + 1 by omega, colS_s (by omega), show 8 * (j / 8) + j % 8 = j by omega, u1_eq, u1_col (fun q q0 q1 => by omega)]
        omega
      · rw [if_neg (by omega)]
    · rw [if_neg (by omega)]
theorem wyW_step {K : Int} {L m : Rw} {j : Int} (hj : 0 ≤ j ∧ j < 8 * (K - 1)) (hR : 0 ≤ L (j % 8) - colS m (j % 8) (j / 8)) : sumN (fun u => wyW K L (u1 m j u) (j + 1)) (L (j % 8) - colS m (j % 8) (j / 8) + 1) = wyW K L m j := by
  unfold wyW
  refine prN_sum (x := j % 8) ⟨by omega, by omega⟩ (fun u y u0 u1' y0 y1 hy => ?_) ?_
  · have e1 : owS (j + 1) y = owS j y := by unfold owS; omega
    show cw (K - 1 - owS (j + 1) y).toNat (rsS L (u1 m j u) (j + 1) y) = cw (K - 1 - owS j y).toNat (rsS L m j y)
    unfold rsS
    rw [e1, u1_col (fun q q0 q1 => by omega)]
  · have e1 : owS (j + 1) (j % 8) = j / 8 + 1 := by unfold owS; omega
    have e2 : owS j (j % 8) = j / 8 := by unfold owS; omega
    obtain ⟨R, hR0⟩ : ∃ R, R = L (j % 8) - colS m (j % 8) (j / 8) := ⟨_, rfl⟩
    rw [← hR0] at hR ⊢
    have h3 : rsS L m j (j % 8) = R := by unfold rsS; rw [e2, hR0]
    have h4 : ∀ u, rsS L (u1 m j u) (j + 1) (j % 8) = R - u := fun u => by
      unfold rsS
      rw [e1, colS_s (by omega), show 8 * (j / 8) + j % 8 = j by omega, u1_eq, u1_col (fun q q0 q1 => by omega), hR0]
      omega
    show sumN (fun u => cw (K - 1 - owS (j + 1) (j % 8)).toNat (rsS L (u1 m j u) (j + 1) (j % 8))) (R + 1) = cw (K - 1 - owS j (j % 8)).toNat (rsS L m j (j % 8))
    rw [e1, e2, h3, show (K - 1 - j / 8).toNat = (K - 1 - (j / 8 + 1)).toNat + 1 by omega]
    show _ = sumN (fun v => cw (K - 1 - (j / 8 + 1)).toNat v) (R + 1)
    rw [← sumN_rev (f := fun v => cw (K - 1 - (j / 8 + 1)).toNat v) (n := R + 1) (by omega)]
    exact sumN_congr (fun u u0 u1' => by rw [h4, show R + 1 - 1 - u = R - u by omega])
theorem sh_run {K : Int} {L : Rw} (hK : 1 ≤ K) : ∀ (d : Nat) (j : Int) (m : Rw), (d : Int) = 8 * (K - 1) - j → 0 ≤ j → PVl L m j → 1 ≤ wyW K L m j ∧ (∀ t, 0 ≤ t → t < wyW K L m j - 1 → j ≤ shI K (itr K L t (fsS K L j m))) ∧ (∀ c, 0 ≤ c → c < j → itr K L (wyW K L m j - 1) (fsS K L j m) c = m c) ∧ (∀ c, j ≤ c → c < 8 * (K - 1) → itr K L (wyW K L m j - 1) (fsS K L j m) c = 0) := by
  intro d
  induction d with
  | zero =>
    intro j m hd hj hP
    have hW : wyW K L m j = 1 := prN_one (fun x x0 x1 => by
      rw [show (K - 1 - owS j x).toNat = 0 by unfold owS; omega]
      rfl)
    rw [hW]
    refine ⟨Int.le_refl _, fun t t0 t1 => by omega, fun c c0 c1 => ?_, fun c c0 c1 => by omega⟩
    show fsS K L j m c = m c
    unfold fsS
    rw [if_neg (by omega), if_pos c1]
  | succ d ih =>
    intro j m hd hj hP
    have hj2 : 0 ≤ j ∧ j < 8 * (K - 1) := by omega
    have eow : owS j (j % 8) = j / 8 := by unfold owS; omega
    have hR := hP.2 (j % 8) (by omega) (by omega)
    unfold rsS at hR
    rw [eow] at hR
    rw [fsS_step hj2]
    have hWs := wyW_step hj2 hR
    obtain ⟨R, hR0⟩ : ∃ R, R = L (j % 8) - colS m (j % 8) (j / 8) := ⟨_, rfl⟩
    rw [← hR0] at hR hWs ⊢
    have hPv : ∀ v, 0 ≤ v → v ≤ R → PVl L (u1 m j v) (j + 1) := fun v v0 v1 => by
      refine ⟨fun c c0 c1 => ?_, fun x x0 x1 => ?_⟩
      · unfold u1
        split
        · exact v0
        · exact hP.1 c c0 (by omega)
      · unfold rsS
        by_cases e : x = j % 8
        · have e1 : owS (j + 1) x = j / 8 + 1 := by unfold owS; omega
          rw [e1, colS_s (by omega), e, show 8 * (j / 8) + j % 8 = j by omega, u1_eq, u1_col (fun q q0 q1 => by omega)]
          omega
        · have e1 : owS (j + 1) x = owS j x := by unfold owS; omega
          rw [e1, u1_col (fun q q0 q1 => by omega)]
          exact hP.2 x x0 x1
    have hA : ∀ v, 0 ≤ v → v ≤ R → 1 ≤ sumN (fun u => wyW K L (u1 m j u) (j + 1)) (v + 1) ∧ (∀ t, 0 ≤ t → t < sumN (fun u => wyW K L (u1 m j u) (j + 1)) (v + 1) - 1 → j ≤ shI K (itr K L t (fsS K L (j + 1) (u1 m j v)))) ∧ (∀ c, 0 ≤ c → c < j → itr K L (sumN (fun u => wyW K L (u1 m j u) (j + 1)) (v + 1) - 1) (fsS K L (j + 1) (u1 m j v)) c = m c) ∧ (∀ c, j ≤ c → c < 8 * (K - 1) → itr K L (sumN (fun u => wyW K L (u1 m j u) (j + 1)) (v + 1) - 1) (fsS K L (j + 1) (u1 m j v)) c = 0) := fun v hv => by
      refine int_ind (p := fun v => v ≤ R → 1 ≤ sumN (fun u => wyW K L (u1 m j u) (j + 1)) (v + 1) ∧ (∀ t, 0 ≤ t → t < sumN (fun u => wyW K L (u1 m j u) (j + 1)) (v + 1) - 1 → j ≤ shI K (itr K L t (fsS K L (j + 1) (u1 m j v)))) ∧ (∀ c, 0 ≤ c → c < j → itr K L (sumN (fun u => wyW K L (u1 m j u) (j + 1)) (v + 1) - 1) (fsS K L (j + 1) (u1 m j v)) c = m c) ∧ (∀ c, j ≤ c → c < 8 * (K - 1) → itr K L (sumN (fun u => wyW K L (u1 m j u) (j + 1)) (v + 1) - 1) (fsS K L (j + 1) (u1 m j v)) c = 0)) (fun h0 => ?_) (fun k hk ihk hkR => ?_) v hv
      · have h := ih (j + 1) (u1 m j 0) (by omega) (by omega) (hPv 0 (Int.le_refl _) h0)
        rw [sumN_s _ (Int.le_refl 0), sumN_0, Int.zero_add]
        refine ⟨h.1, fun t t0 t1 => by have := h.2.1 t t0 t1; omega, fun c c0 c1 => by rw [h.2.2.1 c c0 (by omega), u1_ne (by omega)], fun c c0 c1 => ?_⟩
        by_cases e : c = j
        · rw [h.2.2.1 c (by omega) (by omega), e, u1_eq]
        · exact h.2.2.2 c (by omega) c1
      · have h1 := ihk (by omega)
        have h := ih (j + 1) (u1 m j (k + 1)) (by omega) (by omega) (hPv (k + 1) (by omega) hkR)
        rw [sumN_s _ (show (0 : Int) ≤ k + 1 by omega)]
        obtain ⟨S, hS⟩ : ∃ S, S = sumN (fun u => wyW K L (u1 m j u) (j + 1)) (k + 1) := ⟨_, rfl⟩
        obtain ⟨W, hW⟩ : ∃ W, W = wyW K L (u1 m j (k + 1)) (j + 1) := ⟨_, rfl⟩
        rw [← hS] at h1 ⊢
        rw [← hW] at h ⊢
        have hW1 := h.1
        have hS1 := h1.1
        obtain ⟨e, he⟩ : ∃ e, e = itr K L (W - 1) (fsS K L (j + 1) (u1 m j (k + 1))) := ⟨_, rfl⟩
        rw [← he] at h
        have ej : e j = k + 1 := by rw [h.2.2.1 j hj (by omega), u1_eq]
        have ei : shI K e = j := lastS_is hj2 (by rw [ej]; omega) (fun x x0 x1 => by rw [h.2.2.2 x (by omega) x1]; omega)
        have en : nxT K L e = fsS K L (j + 1) (u1 m j k) := by
          unfold nxT
          rw [ei]
          refine fsS_congr (fun c c0 c1 => ?_)
          by_cases ec : c = j
          · rw [ec, u1_eq, u1_eq, ej]; omega
          · rw [u1_ne ec, u1_ne ec, h.2.2.1 c c0 c1, u1_ne ec]
        have eW : itr K L W (fsS K L (j + 1) (u1 m j (k + 1))) = fsS K L (j + 1) (u1 m j k) := by
          have := itr_s (K := K) (L := L) (m := fsS K L (j + 1) (u1 m j (k + 1))) (t := W - 1) (by omega)
          rw [show W - 1 + 1 = W by omega, ← he, en] at this
          exact this
        have eA : ∀ t, 0 ≤ t → itr K L (W + t) (fsS K L (j + 1) (u1 m j (k + 1))) = itr K L t (fsS K L (j + 1) (u1 m j k)) := fun t t0 => by rw [itr_add (by omega) t0, eW]
        refine ⟨by show 1 ≤ S + W; omega, fun t t0 t1 => ?_, fun c c0 c1 => ?_, fun c c0 c1 => ?_⟩
        · change t < S + W - 1 at t1
          by_cases q : t < W - 1
          · have := h.2.1 t t0 q; omega
          · by_cases q2 : t = W - 1
            · rw [q2, ← he, ei]; exact Int.le_refl _
            · have := h1.2.1 (t - W) (by omega) (by omega)
              rw [← eA (t - W) (by omega), show W + (t - W) = t by omega] at this
              exact this
        · change itr K L (S + W - 1) _ c = _
          rw [show S + W - 1 = W + (S - 1) by omega, eA _ (by omega)]
          exact h1.2.2.1 c c0 c1
        · change itr K L (S + W - 1) _ c = _
          rw [show S + W - 1 = W + (S - 1) by omega, eA _ (by omega)]
          exact h1.2.2.2 c c0 c1
    have := hA R hR (Int.le_refl _)
    rw [hWs] at this
    exact this
/-- how many ways there are to share out -/
def wayW (K : Int) (L : Rw) : Int := prN (fun x => cw (K - 1).toNat (L x)) 8
def m0S (K : Int) (L : Rw) : Rw := fsS K L 0 (fun _ => 0)
theorem sh_all {K : Int} {L : Rw} (hK : 1 ≤ K) (hL : ∀ x, 0 ≤ x → x < 8 → 0 ≤ L x) : 1 ≤ wayW K L ∧ (∀ t, 0 ≤ t → t < wayW K L - 1 → shI K (itr K L t (m0S K L)) ≠ -1) ∧ shI K (itr K L (wayW K L - 1) (m0S K L)) = -1 := by
  have eo : ∀ x, 0 ≤ x → x < 8 → owS 0 x = 0 := fun x x0 x1 => by unfold owS; omega
  have er : ∀ x, 0 ≤ x → x < 8 → rsS L (fun _ => 0) 0 x = L x := fun x x0 x1 => by
    unfold rsS
    rw [eo x x0 x1]
    show L x - 0 = L x
    omega
  have eW : wyW K L (fun _ => 0) 0 = wayW K L := prN_congr (fun x x0 x1 => by
    show cw (K - 1 - owS 0 x).toNat (rsS L (fun _ => 0) 0 x) = cw (K - 1).toNat (L x)
    rw [er x x0 x1, eo x x0 x1, Int.sub_zero])
  have h := sh_run (L := L) hK (8 * (K - 1)).toNat 0 (fun _ => 0) (by omega) (Int.le_refl _) ⟨fun c c0 c1 => by omega, fun x x0 x1 => by rw [er x x0 x1]; exact hL x x0 x1⟩
  rw [eW] at h
  refine ⟨h.1, fun t t0 t1 => ?_, ?_⟩
  · have := h.2.1 t t0 t1
    show shI K (itr K L t (fsS K L 0 (fun _ => 0))) ≠ -1
    omega
  · exact lastS_no (fun x x0 x1 => by
      have := h.2.2.2 x x0 x1
      show ¬ 0 < itr K L (wayW K L - 1) (fsS K L 0 (fun _ => 0)) x
      omega)
/-- a row that shares out all -/
def VSh (K : Int) (L m : Rw) : Prop := (∀ x, 0 ≤ x → x < 8 → colS m x K = L x) ∧ (∀ c, 0 ≤ c → c < 8 * K → 0 ≤ m c) ∧ ∀ c, c < 0 ∨ 8 * K ≤ c → m c = 0
theorem fsS_V {K : Int} {L m : Rw} {j : Int} (hj : 0 ≤ j ∧ j ≤ 8 * (K - 1)) (hP : PVl L m j) : VSh K L (fsS K L j m) := by
  have hcol : ∀ x, 0 ≤ x → x < 8 → colS (fsS K L j m) x (owS j x) = colS m x (owS j x) := fun x x0 x1 => colS_congr (fun q q0 q1 => by
    unfold fsS
    rw [if_neg (by omega), if_pos (by unfold owS at q1; omega)])
  refine ⟨fun x x0 x1 => ?_, fun c c0 c1 => ?_, fun c hc => ?_⟩
  · have h0 : 0 ≤ owS j x ∧ owS j x ≤ K - 1 ∧ j ≤ 8 * owS j x + x ∧ 8 * owS j x + x < j + 8 := by unfold owS; omega
    have h1 : fsS K L j m (8 * owS j x + x) = L x - colS m x (owS j x) := by
      unfold fsS
      rw [if_neg (by omega), if_neg (by omega), if_pos (by omega), show (8 * owS j x + x) % 8 = x by omega, show (8 * owS j x + x) / 8 = owS j x by omega]
    have h2 : ∀ n, 0 ≤ n → colS (fsS K L j m) x (owS j x + 1 + n) = L x := fun n hn => int_ind (p := fun n => colS (fsS K L j m) x (owS j x + 1 + n) = L x) (by
      rw [Int.add_zero, colS_s h0.1, hcol x x0 x1, h1]; omega) (fun k hk ih => by
      rw [← Int.add_assoc, colS_s (by omega), ih]
      unfold fsS
      rw [if_neg (by omega), if_neg (by omega), if_neg (by omega)]
      omega) n hn
    have := h2 (K - (owS j x + 1)) (by omega)
    rwa [show owS j x + 1 + (K - (owS j x + 1)) = K by omega] at this
  · unfold fsS
    rw [if_neg (by omega)]
    by_cases h1 : c < j
    · rw [if_pos h1]; exact hP.1 c c0 h1
    · rw [if_neg h1]
      by_cases h2 : c < j + 8 ∧ c < 8 * K
      · rw [if_pos h2]
        have := hP.2 (c % 8) (by omega) (by omega)
        unfold rsS at this
        rw [show owS j (c % 8) = c / 8 by unfold owS; omega] at this
        exact this
      · rw [if_neg h2]; exact Int.le_refl _
  · unfold fsS
    by_cases h0 : c < 0
    · rw [if_pos h0]
    · rw [if_neg h0, if_neg (by omega), if_neg (by omega)]
theorem colS_nn {m : Rw} {x p : Int} (h : ∀ q, 0 ≤ q → q < p → 0 ≤ m (8 * q + x)) : 0 ≤ colS m x p := sumN_nn h
theorem colS_mo {m : Rw} {x p p' : Int} (hp : 0 ≤ p ∧ p ≤ p') (h : ∀ q, 0 ≤ q → q < p' → 0 ≤ m (8 * q + x)) : colS m x p ≤ colS m x p' := by
  have key : ∀ n, 0 ≤ n → p + n ≤ p' → colS m x p ≤ colS m x (p + n) := fun n hn => int_ind (p := fun n => p + n ≤ p' → colS m x p ≤ colS m x (p + n)) (fun _ => by rw [Int.add_zero]; exact Int.le_refl _) (fun k hk ih hh => by
    have h1 := ih (by omega)
    have h2 := h (p + k) (by omega) (by omega)
    rw [← Int.add_assoc, colS_s (by omega)]
    omega) n hn
  have := key (p' - p) (by omega) (by omega)
  rwa [show p + (p' - p) = p' by omega] at this
theorem nxT_P {K : Int} {L m : Rw} (h : VSh K L m) (hi : shI K m ≠ -1) : (0 ≤ shI K m ∧ shI K m < 8 * (K - 1)) ∧ 0 < m (shI K m) ∧ PVl L (u1 m (shI K m) (m (shI K m) - 1)) (shI K m + 1) := by
  have h1 : 0 ≤ shI K m ∧ shI K m < 8 * (K - 1) := (lastS_in (p := fun c => 0 < m c) (n := 8 * (K - 1))).resolve_left hi
  have h2 : 0 < m (shI K m) := by
    have : lastS (fun c => 0 < m c) (8 * (K - 1)) = -1 ∨ 0 < m (lastS (fun c => 0 < m c) (8 * (K - 1))) := itN_inv (p := fun a : Int => a = -1 ∨ 0 < m a) (Or.inl rfl) (fun x a x0 x1 ha => by
      split
      · next q => exact Or.inr q
      · exact ha)
    exact this.resolve_left hi
  refine ⟨h1, h2, fun c c0 c1 => ?_, fun x x0 x1 => ?_⟩
  · unfold u1
    split
    · omega
    · exact h.2.1 c c0 (by omega)
  · unfold rsS
    obtain ⟨i, hi0⟩ : ∃ i, i = shI K m := ⟨_, rfl⟩
    rw [← hi0] at h1 h2 ⊢
    have h0 : 0 ≤ owS (i + 1) x ∧ owS (i + 1) x ≤ K := by unfold owS; omega
    have h3 := colS_mo (m := m) (x := x) h0 (fun q q0 q1 => h.2.1 _ (by omega) (by omega))
    have h4 : colS (u1 m i (m i - 1)) x (owS (i + 1) x) ≤ colS m x (owS (i + 1) x) := sumN_mo (fun q q0 q1 => by
      unfold u1
      split
      · next e => rw [e]; omega
      · exact Int.le_refl _)
    have h5 := h.1 x x0 x1
    omega
theorem nxT_V {K : Int} {L m : Rw} (h : VSh K L m) (hi : shI K m ≠ -1) : VSh K L (nxT K L m) := by
  have h1 := nxT_P h hi
  exact fsS_V ⟨by omega, by omega⟩ h1.2.2
theorem m0S_V {K : Int} {L : Rw} (hK : 1 ≤ K) (hL : ∀ x, 0 ≤ x → x < 8 → 0 ≤ L x) : VSh K L (m0S K L) := fsS_V ⟨Int.le_refl _, by omega⟩ ⟨fun c c0 c1 => by omega, fun x x0 x1 => by
  unfold rsS
  rw [show owS 0 x = 0 by unfold owS; omega]
  have := hL x x0 x1
  show 0 ≤ L x - 0
  omega⟩
theorem itr_V {K : Int} {L : Rw} (hK : 1 ≤ K) (hL : ∀ x, 0 ≤ x → x < 8 → 0 ≤ L x) {t : Int} (ht : 0 ≤ t ∧ t < wayW K L) : VSh K L (itr K L t (m0S K L)) := by
  have h := sh_all hK hL
  refine int_ind (p := fun t => t < wayW K L → VSh K L (itr K L t (m0S K L))) (fun _ => m0S_V hK hL) (fun k hk ih hh => ?_) t ht.1 ht.2
  rw [itr_s hk]
  exact nxT_V (ih (by omega)) (h.2.1 k hk (by omega))
theorem sum8 (f : Int → Int) {n : Int} (h : 0 ≤ n) : sumN f (8 * n) = sumN (fun p => sumN (fun x => f (8 * p + x)) 8) n := by
  refine int_ind (p := fun n => sumN f (8 * n) = sumN (fun p => sumN (fun x => f (8 * p + x)) 8) n) rfl (fun k hk ih => ?_) n h
  rw [sumN_s _ hk, ← ih, show 8 * (k + 1) = 8 * k + 7 + 1 by omega]
  have e : ∀ i, 0 ≤ i → sumN f (8 * k + i) = sumN f (8 * k) + sumN (fun x => f (8 * k + x)) i := fun i hi => int_ind (p := fun i => sumN f (8 * k + i) = sumN f (8 * k) + sumN (fun x => f (8 * k + x)) i) (by rw [Int.add_zero, sumN_0]; omega) (fun j hj ihj => by
    rw [← Int.add_assoc, sumN_s _ (by omega), sumN_s _ hj, ihj]; omega) i hi
  rw [show 8 * k + 7 + 1 = 8 * k + 8 by omega]
  exact e 8 (by decide)
theorem VSh_RW {T : Tn} {r m : Rw} (hT : WF T) (hr : RW T r) (h : VSh (T 0 1) (fun x => leftS T r x) m) : RW T m := by
  have f1 := hT.1
  have f2 := hT.2.1
  have hr6 : ∀ x, 0 ≤ x → x < 8 → colS r x 6 = leftS T r x := fun x x0 x1 => by
    have key : ∀ n, 0 ≤ n → T 0 1 + n ≤ 6 → colS r x (T 0 1 + n) = leftS T r x := fun n hn => int_ind (p := fun n => T 0 1 + n ≤ 6 → colS r x (T 0 1 + n) = leftS T r x) (fun _ => by rw [Int.add_zero]; rfl) (fun k hk ih hh => by
      rw [← Int.add_assoc, colS_s (by omega), ih (by omega), hr.2.1 (T 0 1 + k) x (by omega) (by omega) x0 x1 (by omega)]
      omega) n hn
    have := key (6 - T 0 1) (by omega) (by omega)
    rwa [show T 0 1 + (6 - T 0 1) = 6 by omega] at this
  have hm6 : ∀ x, 0 ≤ x → x < 8 → colS m x 6 = leftS T r x := fun x x0 x1 => by
    have key : ∀ n, 0 ≤ n → T 0 1 + n ≤ 6 → colS m x (T 0 1 + n) = leftS T r x := fun n hn => int_ind (p := fun n => T 0 1 + n ≤ 6 → colS m x (T 0 1 + n) = leftS T r x) (fun _ => by rw [Int.add_zero]; exact h.1 x x0 x1) (fun k hk ih hh => by
      rw [← Int.add_assoc, colS_s (by omega), ih (by omega), h.2.2 (8 * (T 0 1 + k) + x) (by omega)]
      omega) n hn
    have := key (6 - T 0 1) (by omega) (by omega)
    rwa [show T 0 1 + (6 - T 0 1) = 6 by omega] at this
  have hnn : ∀ c, 0 ≤ c → c < 48 → 0 ≤ m c := fun c c0 c1 => by
    by_cases q : c < 8 * T 0 1
    · exact h.2.1 c c0 q
    · rw [h.2.2 c (by omega)]; exact Int.le_refl _
  have hsw : ∀ f : Rw, sumN f 48 = sumN (fun x => colS f x 6) 8 := fun f => by
    have := sum8 f (n := 6) (by decide)
    rw [show (8 : Int) * 6 = 48 from rfl] at this
    rw [this, sumN_comm (fun p x => f (8 * p + x)) 6 8]
    rfl
  refine ⟨hnn, fun p s p0 p1 s0 s1 ho => ?_, ?_⟩
  · rcases ho with ho | ho
    · exact h.2.2 _ (by omega)
    · have hz : leftS T r s = 0 := sumN_z (fun q q0 q1 => hr.2.1 q s q0 (by omega) s0 s1 (Or.inr ho))
      have hc := hm6 s s0 s1
      rw [hz] at hc
      have ht := sumN_term (f := fun q => m (8 * q + s)) (n := 6) (i := p) (fun q q0 q1 => hnn _ (by omega) (by omega)) p0 p1
      have h0 := hnn (8 * p + s) (by omega) (by omega)
      unfold colS at hc
      rw [hc] at ht
      omega
  · rw [hsw m, sumN_congr (fun x x0 x1 => (hm6 x x0 x1).trans (hr6 x x0 x1).symm), ← hsw r]
    exact hr.2.2
