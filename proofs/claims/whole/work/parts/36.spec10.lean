/-! ===== a text's tokens ===== -/
def scN (p : Int → Prop) [DecidablePred p] : Nat → Int → Int
  | 0, q => q
  | f + 1, q => if p q then scN p f (q + 1) else q
/-- the first place from q on, ahead of n, where p isn't -/
def scS (p : Int → Prop) [DecidablePred p] (n q : Int) : Int := scN p (n - q).toNat q
theorem scN_is {p : Int → Prop} [DecidablePred p] {n e : Int} : ∀ (f : Nat) {q : Int}, f = (n - q).toNat → q ≤ e → (e ≤ n ∨ e = q) → (∀ i, q ≤ i → i < e → p i) → (e < n → ¬ p e) → scN p f q = e
  | 0, q, hf, h0, h1, _, _ => by
    show q = e
    omega
  | f + 1, q, hf, h0, h1, h2, h3 => by
    unfold scN
    by_cases hp : p q
    · rw [if_pos hp]
      have hq : q ≠ e := fun e2 => h3 (by omega) (by rw [← e2]; exact hp)
      exact scN_is f (by omega) (by omega) (by omega) (fun i i0 i1 => h2 i (by omega) i1) h3
    · rw [if_neg hp]
      by_cases hq : q = e
      · exact hq
      · exact absurd (h2 q (Int.le_refl _) (by omega)) hp
theorem scS_is {p : Int → Prop} [DecidablePred p] {n q e : Int} (h0 : q ≤ e) (h1 : e ≤ n ∨ e = q) (h2 : ∀ i, q ≤ i → i < e → p i) (h3 : e < n → ¬ p e) : scS p n q = e := scN_is _ rfl h0 h1 h2 h3
theorem scN_bd {p : Int → Prop} [DecidablePred p] {n : Int} : ∀ (f : Nat) {q : Int}, f = (n - q).toNat → q ≤ scN p f q ∧ (scN p f q ≤ n ∨ scN p f q = q) ∧ (∀ i, q ≤ i → i < scN p f q → p i) ∧ (scN p f q < n → ¬ p (scN p f q))
  | 0, q, hf => ⟨Int.le_refl _, Or.inr rfl, fun i i0 i1 => by change i < q at i1; omega, fun h => by change q < n at h; omega⟩
  | f + 1, q, hf => by
    unfold scN
    by_cases hp : p q
    · rw [if_pos hp]
      have h := scN_bd (p := p) (n := n) f (q := q + 1) (by omega)
      refine ⟨by omega, by omega, fun i i0 i1 => ?_, h.2.2.2⟩
      by_cases e : i = q
      · rw [e]; exact hp
      · exact h.2.2.1 i (by omega) i1
    · rw [if_neg hp]
      exact ⟨Int.le_refl _, Or.inr rfl, fun i i0 i1 => by omega, fun _ => hp⟩
theorem scS_bd {p : Int → Prop} [DecidablePred p] {n q : Int} : q ≤ scS p n q ∧ (scS p n q ≤ n ∨ scS p n q = q) ∧ (∀ i, q ≤ i → i < scS p n q → p i) ∧ (scS p n q < n → ¬ p (scS p n q)) := scN_bd _ rfl
abbrev isBl (tp : Rw) (q : Int) : Prop := tp q = 32 ∨ tp q = 10
abbrev isLt (tp : Rw) (q : Int) : Prop := 97 ≤ tp q ∧ tp q ≤ 122
abbrev isDg (tp : Rw) (q : Int) : Prop := 48 ≤ tp q ∧ tp q ≤ 57
/-- length, letters of the words -/
def wlS (k : Int) : Int := ((WRL.getD k.toNat 0 : Nat) : Int)
def wcS (k i : Int) : Int := ((WRB.getD k.toNat []).getD i.toNat 0).toInt
def isWd (tp : Rw) (p e k : Int) : Prop := e - p = wlS k ∧ ∀ i, 0 ≤ i → i < wlS k → tp (p + i) = wcS k i
theorem wd_allB : (List.range 11).all (fun a => (List.range 11).all (fun b => a == b || !(wlS (a : Int) == wlS (b : Int)) || (List.range 6).any (fun i => decide ((i : Int) < wlS (a : Int)) && !(wcS (a : Int) (i : Int) == wcS (b : Int) (i : Int))))) = true := by decide +kernel
theorem wd_one {tp : Rw} {p e a b : Int} (ha : 0 ≤ a ∧ a < 11) (hb : 0 ≤ b ∧ b < 11) (h1 : isWd tp p e a) (h2 : isWd tp p e b) : a = b := by
  have h3 := List.all_eq_true.mp (List.all_eq_true.mp wd_allB a.toNat (List.mem_range.mpr (by omega))) b.toNat (List.mem_range.mpr (by omega))
  rw [show ((a.toNat : Nat) : Int) = a by omega, show ((b.toNat : Nat) : Int) = b by omega] at h3
  by_cases e1 : a.toNat = b.toNat
  · omega
  · have e2 : wlS a = wlS b := by rw [← h1.1, ← h2.1]
    have e3 : (a.toNat == b.toNat) = false := by simpa using e1
    rw [e2, e3] at h3
    simp only [beq_self_eq_true, Bool.not_true, Bool.or_false, Bool.false_or] at h3
    obtain ⟨i, hi, h4⟩ := List.any_eq_true.mp h3
    rw [Bool.and_eq_true] at h4
    have h5 : (i : Int) < wlS b := of_decide_eq_true h4.1
    have h6 : ¬ wcS a (i : Int) = wcS b (i : Int) := by simpa using h4.2
    exact absurd ((h1.2 i (by omega) (by omega)).symm.trans (h2.2 i (by omega) h5)) h6
noncomputable def wdI (tp : Rw) (p e : Int) : Int := @lastS (fun k => isWd tp p e k) (fun _ => Classical.propDecidable _) 11
theorem wdI_is {tp : Rw} {p e k : Int} (hk : 0 ≤ k ∧ k < 11) (h : isWd tp p e k) : wdI tp p e = k := @lastS_is _ (fun _ => Classical.propDecidable _) _ _ hk h (fun x x0 x1 q => by have := wd_one ⟨by omega, x1⟩ hk q h; omega)
theorem wdI_no {tp : Rw} {p e : Int} (h : ∀ k, 0 ≤ k → k < 11 → ¬ isWd tp p e k) : wdI tp p e = -1 := @lastS_no _ (fun _ => Classical.propDecidable _) _ h
theorem wdI_in {tp : Rw} {p e : Int} : (wdI tp p e = -1 ∧ ∀ k, 0 ≤ k → k < 11 → ¬ isWd tp p e k) ∨ ((0 ≤ wdI tp p e ∧ wdI tp p e < 11) ∧ isWd tp p e (wdI tp p e)) := by
  by_cases h : ∃ k, (0 ≤ k ∧ k < 11) ∧ isWd tp p e k
  · obtain ⟨k, hk, h⟩ := h
    rw [wdI_is hk h]
    exact Or.inr ⟨hk, h⟩
  · have h2 : ∀ k, 0 ≤ k → k < 11 → ¬ isWd tp p e k := fun k k0 k1 q => h ⟨k, ⟨k0, k1⟩, q⟩
    exact Or.inl ⟨wdI_no h2, h2⟩
/-- number of some digits -/
def dgN (tp : Rw) (p k : Int) : Int := itN (fun i v => 10 * v + tp (p + i) - 48) k 0
def plS (tp : Rw) (n q : Int) : Int := scS (isBl tp) n q
def ltE (tp : Rw) (n p : Int) : Int := scS (isLt tp) n p
def dgE (tp : Rw) (n p : Int) : Int := scS (isDg tp) n p
/-- behind the token at p -/
def nxP (tp : Rw) (n p : Int) : Int := if n ≤ p then p else if isLt tp p then ltE tp n p else if isDg tp p then dgE tp n p else p + 1
noncomputable def kdP (tp : Rw) (n p : Int) : Int := if n ≤ p then 0 else if isLt tp p then 4 + wdI tp p (ltE tp n p) else if isDg tp p then 2 else if tp p = 59 then 1 else 3
def vlP (tp : Rw) (n p : Int) : Int := if dgE tp n p - p > 4 then -1 else dgN tp p (dgE tp n p - p)
/-- where the i-th token is sought -/
def psS (tp : Rw) (n i : Int) : Int := itN (fun _ q => nxP tp n (plS tp n q)) i 0
/-- kinds, places, values of the tokens -/
noncomputable def tkS (tp : Rw) (n : Int) : Tn := fun a i => if a = 0 then kdP tp n (plS tp n (psS tp n i)) else if a = 1 then plS tp n (psS tp n i) else vlP tp n (plS tp n (psS tp n i))
theorem tk_0 {tp : Rw} {n i : Int} : tkS tp n 0 i = kdP tp n (plS tp n (psS tp n i)) := if_pos rfl
theorem tk_1 {tp : Rw} {n i : Int} : tkS tp n 1 i = plS tp n (psS tp n i) := by unfold tkS; rw [if_neg (by decide), if_pos rfl]
theorem tk_2 {tp : Rw} {n i : Int} : tkS tp n 2 i = vlP tp n (plS tp n (psS tp n i)) := by unfold tkS; rw [if_neg (by decide), if_neg (by decide)]
theorem ps_0 {tp : Rw} {n : Int} : psS tp n 0 = 0 := rfl
theorem ps_s {tp : Rw} {n i : Int} (h : 0 ≤ i) : psS tp n (i + 1) = nxP tp n (plS tp n (psS tp n i)) := itN_s _ _ h
theorem nxP_bd {tp : Rw} {n p : Int} (h : p ≤ n) : p ≤ nxP tp n p ∧ nxP tp n p ≤ n ∧ (p < n → p < nxP tp n p) := by
  unfold nxP
  by_cases h1 : n ≤ p
  · rw [if_pos h1]; omega
  · rw [if_neg h1]
    by_cases h2 : isLt tp p
    · rw [if_pos h2]
      have h3 := scS_bd (p := isLt tp) (n := n) (q := p)
      have h4 : ltE tp n p ≠ p := fun e => h3.2.2.2 (show scS (isLt tp) n p < n by unfold ltE at e; omega) (by unfold ltE at e; rw [e]; exact h2)
      unfold ltE at *
      omega
    · rw [if_neg h2]
      by_cases h5 : isDg tp p
      · rw [if_pos h5]
        have h3 := scS_bd (p := isDg tp) (n := n) (q := p)
        have h4 : dgE tp n p ≠ p := fun e => h3.2.2.2 (show scS (isDg tp) n p < n by unfold dgE at e; omega) (by unfold dgE at e; rw [e]; exact h5)
        unfold dgE at *
        omega
      · rw [if_neg h5]; omega
theorem plS_bd {tp : Rw} {n q : Int} (h : q ≤ n) : q ≤ plS tp n q ∧ plS tp n q ≤ n := by
  have := scS_bd (p := isBl tp) (n := n) (q := q)
  unfold plS
  omega
theorem ps_bd {tp : Rw} {n i : Int} (hn : 0 ≤ n) (hi : 0 ≤ i) : 0 ≤ psS tp n i ∧ psS tp n i ≤ n := by
  refine int_ind (p := fun i => 0 ≤ psS tp n i ∧ psS tp n i ≤ n) ⟨Int.le_refl _, hn⟩ (fun k hk ih => ?_) i hi
  have h1 := plS_bd (tp := tp) ih.2
  have h2 := nxP_bd (tp := tp) h1.2
  rw [ps_s hk]
  omega
theorem tk_end {tp : Rw} {n i : Int} (hn : 0 ≤ n) (hi : 0 ≤ i) : tkS tp n 0 i = 0 ↔ tkS tp n 1 i = n := by
  have h0 := ps_bd (tp := tp) hn hi
  have h1 := plS_bd (tp := tp) h0.2
  rw [tk_0, tk_1]
  unfold kdP
  by_cases h : n ≤ plS tp n (psS tp n i)
  · rw [if_pos h]; omega
  · rw [if_neg h]
    constructor
    · intro h2
      exfalso
      have := wdI_in (tp := tp) (p := plS tp n (psS tp n i)) (e := ltE tp n (plS tp n (psS tp n i)))
      split at h2
      · omega
      · split at h2
        · omega
        · split at h2 <;> omega
    · intro h2; omega
theorem tk_stay {tp : Rw} {n i : Int} (hn : 0 ≤ n) (hi : 0 ≤ i) (h : tkS tp n 0 i = 0) : tkS tp n 0 (i + 1) = 0 := by
  have h1 := (tk_end hn hi).mp h
  rw [tk_1] at h1
  refine (tk_end hn (by omega)).mpr ?_
  have h3 : psS tp n (i + 1) = n := by
    rw [ps_s hi, h1]
    unfold nxP
    rw [if_pos (Int.le_refl _)]
  rw [tk_1, h3]
  have := plS_bd (tp := tp) (n := n) (q := n) (Int.le_refl _)
  omega
theorem tk_lt {tp : Rw} {n : Int} (hn : 0 ≤ n) {i : Int} (hi : 0 ≤ i) (h : tkS tp n 0 i ≠ 0) : i + 1 ≤ psS tp n (i + 1) ∧ i < n := by
  refine int_ind (p := fun i => tkS tp n 0 i ≠ 0 → i + 1 ≤ psS tp n (i + 1) ∧ i < n) (fun h => ?_) (fun k hk ih h => ?_) i hi h
  · have h0 := plS_bd (tp := tp) (n := n) (q := psS tp n 0) hn
    have h1 : tkS tp n 1 0 ≠ n := fun q => h ((tk_end hn (Int.le_refl 0)).mpr q)
    rw [tk_1] at h1
    have h2 := nxP_bd (tp := tp) h0.2
    rw [ps_s (Int.le_refl 0)]
    rw [ps_0] at *
    omega
  · have h3 := ih (fun q => h (tk_stay hn hk q))
    have hb := ps_bd (tp := tp) (i := k + 1) hn (by omega)
    have h0 := plS_bd (tp := tp) (n := n) (q := psS tp n (k + 1)) hb.2
    have h1 : tkS tp n 1 (k + 1) ≠ n := fun q => h ((tk_end hn (by omega)).mpr q)
    rw [tk_1] at h1
    have h2 := nxP_bd (tp := tp) h0.2
    rw [ps_s (show 0 ≤ k + 1 by omega)]
    omega
-- words as numbers
def pkS (f : Int → Int) (n : Int) : Int := itN (fun i w => 32 * w + f i) n 0
theorem pkS_s {f : Int → Int} {n : Int} (h : 0 ≤ n) : pkS f (n + 1) = 32 * pkS f n + f n := itN_s _ _ h
theorem pk_nn {f : Int → Int} {n : Int} (h : ∀ i, 0 ≤ i → i < n → 1 ≤ f i ∧ f i ≤ 31) : 0 ≤ pkS f n := itN_inv (p := fun w : Int => 0 ≤ w) (Int.le_refl _) (fun i w i0 i1 hw => by have := h i i0 i1; omega)
theorem pk_inj {f g : Int → Int} {m : Int} (hm : 0 ≤ m) : ∀ {n : Int}, 0 ≤ n → (∀ i, 0 ≤ i → i < m → 1 ≤ f i ∧ f i ≤ 31) → (∀ i, 0 ≤ i → i < n → 1 ≤ g i ∧ g i ≤ 31) → pkS f m = pkS g n → m = n ∧ ∀ i, 0 ≤ i → i < m → f i = g i := by
  refine int_ind (p := fun m => ∀ {n : Int}, 0 ≤ n → (∀ i, 0 ≤ i → i < m → 1 ≤ f i ∧ f i ≤ 31) → (∀ i, 0 ≤ i → i < n → 1 ≤ g i ∧ g i ≤ 31) → pkS f m = pkS g n → m = n ∧ ∀ i, 0 ≤ i → i < m → f i = g i) ?_ (fun k hk ih => ?_) m hm
  · intro n hn _ hg h
    by_cases e : n = 0
    · exact ⟨e.symm, fun i i0 i1 => by omega⟩
    · exfalso
      have h1 := pkS_s (f := g) (n := n - 1) (by omega)
      rw [show n - 1 + 1 = n by omega] at h1
      have h2 := pk_nn (f := g) (n := n - 1) (fun i i0 i1 => hg i i0 (by omega))
      have h3 := hg (n - 1) (by omega) (by omega)
      have h4 : pkS f 0 = 0 := rfl
      omega
  · intro n hn hf hg h
    have h0 := pkS_s (f := f) hk
    have h5 := pk_nn (f := f) (n := k) (fun i i0 i1 => hf i i0 (by omega))
    have h6 := hf k hk (by omega)
    have hn1 : n ≠ 0 := fun e => by
      rw [e, show pkS g 0 = 0 from rfl] at h
      omega
    have h1 := pkS_s (f := g) (n := n - 1) (by omega)
    rw [show n - 1 + 1 = n by omega] at h1
    have h3 := hg (n - 1) (by omega) (by omega)
    have h7 := ih (n := n - 1) (by omega) (fun i i0 i1 => hf i i0 (by omega)) (fun i i0 i1 => hg i i0 (by omega)) (by omega)
    refine ⟨by omega, fun i i0 i1 => ?_⟩
    by_cases e : i = k
    · rw [e]
      have h8 : f k = g (n - 1) := by omega
      rw [h8, show n - 1 = k by omega]
    · exact h7.2 i i0 (by omega)
def ltS (k : Int) : Int := pkS (fun i => wcS k i - 96) (wlS k)
theorem wc_allB : (List.range 11).all (fun a => decide (0 < wlS (a : Int) ∧ wlS (a : Int) ≤ 6) && (List.range 6).all (fun i => !(decide ((i : Int) < wlS (a : Int))) || decide (97 ≤ wcS (a : Int) (i : Int) ∧ wcS (a : Int) (i : Int) ≤ 122))) = true := by decide +kernel
theorem wc_bd {k : Int} (hk : 0 ≤ k ∧ k < 11) : (0 < wlS k ∧ wlS k ≤ 6) ∧ ∀ i, 0 ≤ i → i < wlS k → 97 ≤ wcS k i ∧ wcS k i ≤ 122 := by
  have h := List.all_eq_true.mp wc_allB k.toNat (List.mem_range.mpr (by omega))
  rw [show ((k.toNat : Nat) : Int) = k by omega, Bool.and_eq_true] at h
  have h1 := of_decide_eq_true h.1
  refine ⟨h1, fun i i0 i1 => ?_⟩
  have h2 := List.all_eq_true.mp h.2 i.toNat (List.mem_range.mpr (by omega))
  rw [show ((i.toNat : Nat) : Int) = i by omega] at h2
  have h3 : decide (i < wlS k) = true := by simpa using i1
  rw [h3] at h2
  simpa using h2
/-- letters packed are a word's if they are its letters -/
theorem wd_pack {tp : Rw} {p e k : Int} (hk : 0 ≤ k ∧ k < 11) (hp : p ≤ e) (hl : ∀ i, p ≤ i → i < e → isLt tp i) : isWd tp p e k ↔ (e - p < 7 ∧ pkS (fun i => tp (p + i) - 96) (e - p) = ltS k) := by
  have hb := wc_bd hk
  have hf : ∀ i, 0 ≤ i → i < e - p → 1 ≤ tp (p + i) - 96 ∧ tp (p + i) - 96 ≤ 31 := fun i i0 i1 => by have := hl (p + i) (by omega) (by omega); omega
  have hg : ∀ i, 0 ≤ i → i < wlS k → 1 ≤ wcS k i - 96 ∧ wcS k i - 96 ≤ 31 := fun i i0 i1 => by have := hb.2 i i0 i1; omega
  constructor
  · intro h
    refine ⟨by have := h.1; omega, ?_⟩
    unfold ltS
    rw [h.1]
    exact itN_congr (fun i w i0 i1 => by
      show 32 * w + (tp (p + i) - 96) = 32 * w + (wcS k i - 96)
      rw [h.2 i i0 i1])
  · intro h
    have := pk_inj (f := fun i => tp (p + i) - 96) (g := fun i => wcS k i - 96) (m := e - p) (by omega) (n := wlS k) (by omega) hf hg h.2
    exact ⟨this.1, fun i i0 i1 => by
      have h2 : tp (p + i) - 96 = wcS k i - 96 := this.2 i i0 (by have := this.1; omega)
      omega⟩
/-! ===== what a text of tokens says: fault, its place, next token, the town (7 has, 8 to 11 what was told) ===== -/
abbrev Rs : Type := Int × Int × Int × Tn
def okR (i : Int) (S : Tn) : Rs := (0, 0, i, S)
def flR (w p : Int) (S : Tn) : Rs := (w, p, 0, S)
def bnR (r : Rs) (f : Int → Tn → Rs) : Rs := if r.1 = 0 then f r.2.2.1 r.2.2.2 else r
def ckR (c p : Int) (S : Tn) (r : Rs) : Rs := if c = 0 then r else flR c p S
def numC (k : Tn) (lo hi i : Int) : Int := if k 0 i ≠ 2 then 1 else if lo ≤ k 2 i ∧ k 2 i ≤ hi then 0 else 2
def belC (k : Tn) (m i : Int) : Int := if k 0 i ≠ 2 then 1 else if k 2 i < 0 then 2 else if k 2 i < m then 0 else 3
def sgnR (k : Tn) (i : Int) (S : Tn) : Rs := ckR (if k 0 i = 1 then 0 else 1) (k 1 i) S (okR (i + 1) S)
def toldR (k : Tn) (a b : Nat) (hi i : Int) (S : Tn) : Rs := ckR (belC k (S 0 2) i) (k 1 i) S (ckR (if S b (k 2 i) = 0 then 0 else 5) (k 1 i) S (ckR (numC k 0 hi (i + 1)) (k 1 (i + 1)) S (okR (i + 2) (uI (uI S b (k 2 i) 1) a (8 * S 0 1 + k 2 i) (k 2 (i + 1))))))
def pairW (S : Tn) (u v w : Int) : Tn := uI (uI (uI (uI S 4 (18 * S 0 1 + 3 * S 3 (S 0 1)) u) 4 (18 * S 0 1 + 3 * S 3 (S 0 1) + 1) v) 4 (18 * S 0 1 + 3 * S 3 (S 0 1) + 2) w) 3 (S 0 1) (S 3 (S 0 1) + 1)
def pairR (k : Tn) (i : Int) (S : Tn) : Rs := ckR (if S 3 (S 0 1) = 6 then 2 else 0) (k 1 (i - 1)) S (ckR (belC k (S 0 2) i) (k 1 i) S (ckR (belC k (S 0 2) (i + 1)) (k 1 (i + 1)) S (ckR (if k 2 (i + 1) = k 2 i then 4 else 0) (k 1 (i + 1)) S (ckR (numC k 0 99 (i + 2)) (k 1 (i + 2)) S (okR (i + 3) (pairW S (k 2 i) (k 2 (i + 1)) (k 2 (i + 2))))))))
def fallR (k : Tn) (i : Int) (S : Tn) : Rs := ckR (if S 10 0 = 0 then 0 else 5) (k 1 (i - 1)) S (ckR (numC k 0 100 i) (k 1 i) S (okR (i + 1) (uI (uI S 10 0 1) 2 (S 0 1) (k 2 i))))
def perR (k : Tn) : Nat → Int → Tn → Rs
  | 0, _, S => flR 9 0 S
  | f + 1, i, S => if k 0 i = 6 then bnR (toldR k 7 8 20 (i + 1) S) (perR k f) else if k 0 i = 7 then bnR (toldR k 1 9 99 (i + 1) S) (perR k f) else if k 0 i = 8 then bnR (pairR k (i + 1) S) (perR k f) else if k 0 i = 9 then bnR (fallR k (i + 1) S) (perR k f) else sgnR k i (uI S 0 1 (S 0 1 + 1))
def newP (S : Tn) : Tn := fun a c => if (a = 7 ∨ a = 1) ∧ 8 * S 0 1 ≤ c ∧ c < 8 * S 0 1 + 8 then 0 else if a = 8 ∨ a = 9 ∨ a = 10 then 0 else if (a = 2 ∨ a = 3) ∧ c = S 0 1 then 0 else S a c
def persR (k : Tn) (i : Int) (S : Tn) : Rs := ckR (if S 0 1 = 6 then 2 else 0) (k 1 (i - 1)) S (perR k 800 i (newP S))
def burR (k : Tn) (i : Int) (S : Tn) : Rs := if k 0 i = 12 then sgnR k (i + 1) (uI S 0 7 1) else sgnR k i S
def spoR (k : Tn) (i : Int) (S : Tn) : Rs := if k 0 i = 11 then ckR (belC k (S 0 2) (i + 1)) (k 1 (i + 1)) S (burR k (i + 2) (uI S 0 4 (k 2 (i + 1)))) else burR k i S
def lawR (k : Tn) (i : Int) (S : Tn) : Rs := ckR (if S 11 0 = 0 then 0 else 5) (k 1 (i - 1)) S (ckR (numC k 1 3 i) (k 1 i) S (spoR k (i + 1) (uI (uI S 11 0 1) 0 3 (k 2 i))))
def tieW (S : Tn) (u v w : Int) : Tn := uI (uI (uI (uI S 5 (3 * S 0 5) u) 5 (3 * S 0 5 + 1) v) 5 (3 * S 0 5 + 2) w) 0 5 (S 0 5 + 1)
def tieR (k : Tn) (i : Int) (S : Tn) : Rs := ckR (if S 0 5 = 4 then 2 else 0) (k 1 (i - 1)) S (ckR (belC k (S 0 2) i) (k 1 i) S (ckR (belC k (S 0 2) (i + 1)) (k 1 (i + 1)) S (ckR (belC k (S 0 2) (i + 2)) (k 1 (i + 2)) S (ckR (if k 2 (i + 2) = k 2 i ∨ k 2 (i + 2) = k 2 (i + 1) then 4 else 0) (k 1 (i + 2)) S (sgnR k (i + 3) (tieW S (k 2 i) (k 2 (i + 1)) (k 2 (i + 2))))))))
def meetW (S : Tn) (u v : Int) : Tn := uI (uI (uI S 6 (2 * S 0 6) u) 6 (2 * S 0 6 + 1) v) 0 6 (S 0 6 + 1)
def meetR (k : Tn) (i : Int) (S : Tn) : Rs := ckR (if S 0 6 = 8 then 2 else 0) (k 1 (i - 1)) S (ckR (belC k (S 0 1) i) (k 1 i) S (ckR (belC k (S 0 1) (i + 1)) (k 1 (i + 1)) S (ckR (if k 2 (i + 1) = k 2 i then 4 else 0) (k 1 (i + 1)) S (sgnR k (i + 2) (meetW S (k 2 i) (k 2 (i + 1)))))))
def sortR (k : Tn) (l i : Int) (S : Tn) : Rs := ckR (if l = 0 then 0 else 5) (k 1 (i - 1)) S (ckR (numC k 1 8 i) (k 1 i) S (sgnR k (i + 1) (uI S 0 2 (k 2 i))))
def lineR (k : Tn) (l i : Int) (S : Tn) : Rs := if k 0 i = 4 then sortR k l (i + 1) S else if k 0 i = 5 then persR k (i + 1) S else if k 0 i = 10 then lawR k (i + 1) S else if k 0 i = 13 then tieR k (i + 1) S else if k 0 i = 14 then meetR k (i + 1) S else flR 1 (k 1 i) S
def townR (k : Tn) : Nat → Int → Int → Tn → Rs
  | 0, _, _, S => flR 9 0 S
  | f + 1, l, i, S => if k 0 i = 0 then okR i S else bnR (lineR k l i S) (townR k f (l + 1))
def iniR : Tn := fun a c => if a = 0 then (if c = 2 then 1 else if c = 3 then 2 else if c = 4 then -1 else 0) else 0
def parR (k : Tn) : Rs := townR k 800 0 0 iniR
theorem ckR_0 {c p : Int} {S : Tn} {r : Rs} (h : c = 0) : ckR c p S r = r := if_pos h
theorem ckR_1 {c p : Int} {S : Tn} {r : Rs} (h : c ≠ 0) : ckR c p S r = flR c p S := if_neg h
theorem bnR_0 {r : Rs} {f : Int → Tn → Rs} (h : r.1 = 0) : bnR r f = f r.2.2.1 r.2.2.2 := if_pos h
theorem bnR_1 {r : Rs} {f : Int → Tn → Rs} (h : r.1 ≠ 0) : bnR r f = r := if_neg h
