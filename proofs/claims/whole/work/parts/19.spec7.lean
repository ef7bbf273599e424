/-! ===== orders of meetings ===== -/
def lastS (p : Int → Prop) [DecidablePred p] (n : Int) : Int := itN (fun x a => if p x then x else a) n (-1)
theorem lastS_no {p : Int → Prop} [DecidablePred p] {n : Int} (h : ∀ x, 0 ≤ x → x < n → ¬ p x) : lastS p n = -1 :=
  itN_inv (p := fun a : Int => a = -1) rfl (fun x a h0 hx ha => by rw [if_neg (h x h0 hx)]; exact ha)
theorem lastS_is {p : Int → Prop} [DecidablePred p] {n i : Int} (hi : 0 ≤ i ∧ i < n) (hp : p i) (h : ∀ x, i < x → x < n → ¬ p x) : lastS p n = i := by
  refine int_ind (p := fun m => i + 1 + m ≤ n → lastS p (i + 1 + m) = i) (fun _ => ?_) (fun m hm ih hmn => ?_) (n - (i + 1)) (by omega) (by omega) ▸ (by rw [show i + 1 + (n - (i + 1)) = n by omega])
  · rw [Int.add_zero]
    unfold lastS
    rw [itN_s _ _ hi.1, if_pos hp]
  · have := ih (by omega)
    unfold lastS at this ⊢
    rw [← Int.add_assoc, itN_s _ _ (by omega), this, if_neg (h _ (by omega) (by omega))]
def pivS (n : Int) (q : Rw) : Int := lastS (fun x => q x ≤ q (x + 1)) (n - 1)
def sucS (n : Int) (q : Rw) (i : Int) : Int := lastS (fun y => q i ≤ q y) n
def swS (q : Rw) (i j : Int) : Rw := fun k => if k = j then q i else if k = i then q j else q k
def nxS (n : Int) (q : Rw) (i j : Int) : Rw := fun k => if i < k ∧ k < n then swS q i j (n + i - k) else swS q i j k
noncomputable def nextS (n : Int) (q : Rw) : Rw := nxS n q (pivS n q) (sucS n q (pivS n q))
def PM (n : Int) (q : Rw) : Prop := (∀ k, 0 ≤ k → k < n → 0 ≤ q k ∧ q k < n) ∧ ∀ k l, 0 ≤ k → k < n → 0 ≤ l → l < n → q k = q l → k = l
def valS (n : Int) (q : Rw) : Int := itN (fun k v => 8 * v + q k) n 0
theorem valS_s {n : Int} {q : Rw} (h : 0 ≤ n) : valS (n + 1) q = 8 * valS n q + q n := itN_s _ _ h
theorem valS_bd {q : Rw} {n : Int} (hn : 0 ≤ n ∧ n ≤ 5) (h : ∀ k, 0 ≤ k → k < n → 0 ≤ q k ∧ q k < 8) : 0 ≤ valS n q ∧ valS n q < 32768 := by
  have h0 : valS 0 q = 0 := rfl
  have e1 := valS_s (q := q) (n := 0) (by decide)
  have e2 := valS_s (q := q) (n := 1) (by decide)
  have e3 := valS_s (q := q) (n := 2) (by decide)
  have e4 := valS_s (q := q) (n := 3) (by decide)
  have e5 := valS_s (q := q) (n := 4) (by decide)
  have b0 := h 0 (by decide)
  have b1 := h 1 (by decide)
  have b2 := h 2 (by decide)
  have b3 := h 3 (by decide)
  have b4 := h 4 (by decide)
  have : n = 0 ∨ n = 1 ∨ n = 2 ∨ n = 3 ∨ n = 4 ∨ n = 5 := by omega
  simp only [Int.zero_add, show (1 : Int) + 1 = 2 from rfl, show (2 : Int) + 1 = 3 from rfl, show (3 : Int) + 1 = 4 from rfl, show (4 : Int) + 1 = 5 from rfl] at e1 e2 e3 e4 e5
  rcases this with rfl | rfl | rfl | rfl | rfl | rfl
  · omega
  · have := b0 (by decide); omega
  · have := b0 (by decide); have := b1 (by decide); omega
  · have := b0 (by decide); have := b1 (by decide); have := b2 (by decide); omega
  · have := b0 (by decide); have := b1 (by decide); have := b2 (by decide); have := b3 (by decide); omega
  · have := b0 (by decide); have := b1 (by decide); have := b2 (by decide); have := b3 (by decide); have := b4 (by decide); omega
theorem valS_lt {q q' : Rw} {n i : Int} (hi : 0 ≤ i ∧ i < n) (h : ∀ k, 0 ≤ k → k < n → 0 ≤ q k ∧ q k < 8) (h' : ∀ k, 0 ≤ k → k < n → 0 ≤ q' k ∧ q' k < 8) (he : ∀ k, 0 ≤ k → k < i → q' k = q k) (hl : q i < q' i) : valS n q + 1 ≤ valS n q' := by
  have pre : valS i q' = valS i q := itN_congr (fun k a h0 hk => by rw [he k h0 hk])
  have key : ∀ m, 0 ≤ m → i + 1 + m ≤ n → valS (i + 1 + m) q + 1 ≤ valS (i + 1 + m) q' := fun m hm => int_ind (p := fun m => i + 1 + m ≤ n → valS (i + 1 + m) q + 1 ≤ valS (i + 1 + m) q') (fun _ => by
    rw [Int.add_zero, valS_s hi.1, valS_s hi.1, pre]; omega) (fun k hk ih hkn => by
    have := ih (by omega)
    have := h (i + 1 + k) (by omega) (by omega)
    have := h' (i + 1 + k) (by omega) (by omega)
    rw [← Int.add_assoc, valS_s (by omega), valS_s (by omega)]
    omega) m hm
  have := key (n - (i + 1)) (by omega) (by omega)
  rwa [show i + 1 + (n - (i + 1)) = n by omega] at this
theorem swS_PM {n : Int} {q : Rw} {i j : Int} (h : PM n q) (hi : 0 ≤ i ∧ i < n) (hj : 0 ≤ j ∧ j < n) : PM n (swS q i j) := by
  refine ⟨fun k h0 h1 => ?_, fun k l k0 k1 l0 l1 e => ?_⟩
  · unfold swS
    split
    · exact h.1 i hi.1 hi.2
    · split
      · exact h.1 j hj.1 hj.2
      · exact h.1 k h0 h1
  · unfold swS at e
    have a1 := h.2 i l hi.1 hi.2 l0 l1
    have a2 := h.2 k i k0 k1 hi.1 hi.2
    have a3 := h.2 j l hj.1 hj.2 l0 l1
    have a4 := h.2 k j k0 k1 hj.1 hj.2
    have a5 := h.2 k l k0 k1 l0 l1
    have a6 := h.2 i j hi.1 hi.2 hj.1 hj.2
    have a7 := h.2 j i hj.1 hj.2 hi.1 hi.2
    split at e <;> split at e <;> (try split at e) <;> (try split at e) <;> first | omega | (have := a1 e; omega) | (have := a2 e; omega) | (have := a3 e; omega) | (have := a4 e; omega) | (have := a5 e; omega) | (have := a6 e; omega) | (have := a7 e; omega)
theorem nxS_PM {n : Int} {q : Rw} {i j : Int} (h : PM n q) (hi : 0 ≤ i ∧ i < n) (hj : 0 ≤ j ∧ j < n) : PM n (nxS n q i j) := by
  have hs := swS_PM h hi hj
  refine ⟨fun k h0 h1 => ?_, fun k l k0 k1 l0 l1 e => ?_⟩
  · unfold nxS
    split
    · exact hs.1 _ (by omega) (by omega)
    · exact hs.1 _ h0 h1
  · unfold nxS at e
    split at e
    · split at e
      · have := hs.2 _ _ (by omega) (by omega) (by omega) (by omega) e; omega
      · have := hs.2 _ _ (by omega) (by omega) (by omega) (by omega) e; omega
    · split at e
      · have := hs.2 _ _ (by omega) (by omega) (by omega) (by omega) e; omega
      · exact hs.2 _ _ k0 k1 l0 l1 e
/-- best worth yet, its order -/
abbrev Od : Type := Int × Rw
noncomputable def playS (T : Tn) (q : Rw) (k : Int) (r : Rw) : Rw := itN (fun k r => (meetS T r (T 6 (2 * q k)) (T 6 (2 * q k + 1))).2) k r
noncomputable def ordB (T : Tn) (r q : Rw) (x : Od) : Od := if x.1 < worthS T (playS T q (T 0 6) r) then (worthS T (playS T q (T 0 6) r), q) else x
noncomputable def ordF (T : Tn) (r : Rw) : Nat → Rw → Od → Od
  | 0, _, x => x
  | f + 1, q, x => if pivS (T 0 6) q = -1 then ordB T r q x else ordF T r f (nextS (T 0 6) q) (ordB T r q x)
noncomputable def ordS (T : Tn) (r : Rw) : Od := ordF T r 32768 (fun k => k) (-1, fun k => k)
theorem playS_s {T : Tn} {q r : Rw} {k : Int} (h : 0 ≤ k) : playS T q (k + 1) r = (meetS T (playS T q k r) (T 6 (2 * q k)) (T 6 (2 * q k + 1))).2 := itN_s _ _ h
theorem meet6 {T : Tn} (hT : WF T) {m : Int} (h0 : 0 ≤ m) (hm : m < T 0 6) : (0 ≤ T 6 (2 * m) ∧ T 6 (2 * m) < T 0 1) ∧ (0 ≤ T 6 (2 * m + 1) ∧ T 6 (2 * m + 1) < T 0 1) ∧ T 6 (2 * m) ≠ T 6 (2 * m + 1) := by
  have hm0 := hT.2.2.2.2.2.2.2.2.2.2.2.2.2.1 m 0 h0 hm (by decide) (by decide)
  have hm1 := hT.2.2.2.2.2.2.2.2.2.2.2.2.2.1 m 1 h0 hm (by decide) (by decide)
  rw [Int.add_zero] at hm0
  exact ⟨hm0, hm1, hT.2.2.2.2.2.2.2.2.2.2.2.2.2.2 m h0 hm⟩
theorem playS_ok {T : Tn} (hT : WF T) {q r : Rw} (hq : PM (T 0 6) q) (hr : RW T r) {k : Int} (hk : k ≤ T 0 6) : RW T (playS T q k r) :=
  itN_inv (p := fun r => RW T r) hr (fun i r h0 hi hr => by
    have h1 := hq.1 i h0 (by omega)
    have h2 := meet6 hT h1.1 h1.2
    exact (meetS_RW hT hr h2.1 h2.2.1 h2.2.2).1)
theorem RE.play {T : Tn} (hT : WF T) {q r r' : Rw} (hq : PM (T 0 6) q) (h : RE r r') {k : Int} (hk : k ≤ T 0 6) : RE (playS T q k r) (playS T q k r') :=
  itN_rel (R := fun (x y : Rw) => RE x y) h (fun i x y h0 hi q1 => by
    have h1 := hq.1 i h0 (by omega)
    have h2 := meet6 hT h1.1 h1.2
    exact (q1.meet hT h2.1 h2.2.1).2)
/-- where the row turns, and what stands there then -/
theorem next_is {n : Int} {q : Rw} (hq : PM n q) (hn : n ≤ 8) {i j : Int} (hi : 0 ≤ i ∧ i + 1 < n) (h1 : q i ≤ q (i + 1)) (h2 : ∀ x, i < x → x + 1 < n → q (x + 1) < q x) (hj : i ≤ j ∧ j < n) (h3 : q i ≤ q j) (h4 : ∀ y, j < y → y < n → q y < q i) : pivS n q = i ∧ nextS n q = nxS n q i j ∧ PM n (nextS n q) ∧ valS n q + 1 ≤ valS n (nextS n q) := by
  have ep : pivS n q = i := lastS_is ⟨hi.1, by omega⟩ h1 (fun x x0 x1 => by have := h2 x x0 (by omega); omega)
  have es : sucS n q i = j := lastS_is ⟨by omega, hj.2⟩ h3 (fun x x0 x1 => by have := h4 x x0 x1; omega)
  have en : nextS n q = nxS n q i j := by unfold nextS; rw [ep, es]
  have hP : PM n (nxS n q i j) := nxS_PM hq ⟨hi.1, by omega⟩ ⟨by omega, hj.2⟩
  have hji : i < j := by
    rcases Int.lt_or_eq_of_le hj.1 with h | h
    · exact h
    · have := h4 (i + 1) (by omega) hi.2; omega
  have hlt : q i < q j := by
    rcases Int.lt_or_eq_of_le h3 with h | h
    · exact h
    · have := hq.2 i j hi.1 (by omega) (by omega) hj.2 h; omega
  refine ⟨ep, en, by rw [en]; exact hP, ?_⟩
  rw [en]
  refine valS_lt (i := i) ⟨hi.1, by omega⟩ (fun k h0 hk => by have := hq.1 k h0 hk; omega) (fun k h0 hk => by have := hP.1 k h0 hk; omega) (fun k h0 hk => ?_) ?_
  · unfold nxS swS
    rw [if_neg (by omega), if_neg (by omega), if_neg (by omega)]
  · unfold nxS swS
    rw [if_neg (by omega), if_neg (by omega), if_pos rfl]
    exact hlt
theorem next_no {n : Int} {q : Rw} (h : ∀ x, 0 ≤ x → x + 1 < n → q (x + 1) < q x) : pivS n q = -1 := lastS_no (fun x h0 h1 => by have := h x h0 (by omega); omega)
theorem ordB_ok {T : Tn} {r q : Rw} (hT : WF T) (hr : RW T r) (hq : PM (T 0 6) q) {x : Od} (hx : -1 ≤ x.1 ∧ x.1 ≤ 456600000) : 0 ≤ (ordB T r q x).1 ∧ (ordB T r q x).1 ≤ 456600000 := by
  have hb := worthS_bd hT (playS_ok hT hq hr (Int.le_refl _)).rc
  unfold ordB
  split
  · exact hb
  · omega
theorem RE.ordb {T : Tn} {r r' q : Rw} (h : RE r r') (hT : WF T) (hq : PM (T 0 6) q) {x : Od} : ordB T r q x = ordB T r' q x := by
  unfold ordB
  rw [(RE.play hT hq h (Int.le_refl _)).worth hT]
theorem PM_id (n : Int) : PM n (fun k => k) := ⟨fun _ h0 h1 => ⟨h0, h1⟩, fun _ _ _ _ _ _ e => e⟩
/-! orders that are the same on their places -/
def QE (n : Int) (q q' : Rw) : Prop := ∀ k, 0 ≤ k → k < n → q k = q' k
theorem lastS_in {p : Int → Prop} [DecidablePred p] {n : Int} : lastS p n = -1 ∨ (0 ≤ lastS p n ∧ lastS p n < n) := itN_inv (p := fun a : Int => a = -1 ∨ (0 ≤ a ∧ a < n)) (Or.inl rfl) (fun x a h0 hx ha => by
  split
  · exact Or.inr ⟨h0, hx⟩
  · exact ha)
theorem lastS_ge {p : Int → Prop} [DecidablePred p] {n i : Int} (hi : 0 ≤ i ∧ i < n) (hp : p i) : i ≤ lastS p n := by
  have key : ∀ m, 0 ≤ m → i + 1 + m ≤ n → i ≤ lastS p (i + 1 + m) := fun m hm => int_ind (p := fun m => i + 1 + m ≤ n → i ≤ lastS p (i + 1 + m)) (fun _ => by
    rw [Int.add_zero]; unfold lastS; rw [itN_s _ _ hi.1, if_pos hp]; omega) (fun k hk ih hkn => by
    have := ih (by omega)
    unfold lastS at this ⊢
    rw [← Int.add_assoc, itN_s _ _ (by omega)]
    split <;> omega) m hm
  have := key (n - (i + 1)) (by omega) (by omega)
  rwa [show i + 1 + (n - (i + 1)) = n by omega] at this
theorem QE.piv {n : Int} {q q' : Rw} (h : QE n q q') : pivS n q = pivS n q' := itN_congr (fun x a h0 hx => by
  dsimp only
  have e1 := h x h0 (by omega)
  have e2 := h (x + 1) (by omega) (by omega)
  by_cases c : q x ≤ q (x + 1)
  · rw [if_pos c, if_pos (by omega)]
  · rw [if_neg c, if_neg (by omega)])
theorem QE.next {n : Int} {q q' : Rw} (h : QE n q q') (hp : pivS n q ≠ -1) : QE n (nextS n q) (nextS n q') := by
  have hi : 0 ≤ pivS n q ∧ pivS n q < n - 1 := (lastS_in (p := fun x => q x ≤ q (x + 1)) (n := n - 1)).resolve_left hp
  have hj : pivS n q ≤ sucS n q (pivS n q) := lastS_ge (p := fun y => q (pivS n q) ≤ q y) ⟨hi.1, by omega⟩ (Int.le_refl _)
  have hj2 : 0 ≤ sucS n q (pivS n q) ∧ sucS n q (pivS n q) < n := (lastS_in (p := fun y => q (pivS n q) ≤ q y) (n := n)).resolve_left (fun e => by unfold sucS at hj; omega)
  have es : sucS n q (pivS n q) = sucS n q' (pivS n q) := by
    have : ∀ i, 0 ≤ i → i < n → sucS n q i = sucS n q' i := fun i i0 i1 => itN_congr (fun x a h0 hx => by
      dsimp only
      have e1 := h x h0 hx
      have e2 := h i i0 i1
      by_cases c : q i ≤ q x
      · rw [if_pos c, if_pos (by omega)]
      · rw [if_neg c, if_neg (by omega)])
    exact this _ hi.1 (by omega)
  have sw : ∀ k, 0 ≤ k → k < n → swS q (pivS n q) (sucS n q (pivS n q)) k = swS q' (pivS n q) (sucS n q (pivS n q)) k := fun k k0 k1 => by
    unfold swS
    rw [h k k0 k1, h _ hi.1 (by omega), h _ hj2.1 hj2.2]
  intro k k0 k1
  unfold nextS
  rw [← h.piv, ← es]
  unfold nxS
  by_cases q1 : pivS n q < k ∧ k < n
  · rw [if_pos q1, if_pos q1]; exact sw _ (by omega) (by omega)
  · rw [if_neg q1, if_neg q1]; exact sw k k0 k1
theorem QE.play {T : Tn} {q q' r : Rw} (h : QE (T 0 6) q q') : playS T q (T 0 6) r = playS T q' (T 0 6) r := itN_congr (fun k a h0 hk => by rw [h k h0 hk])
theorem QE.ordb {T : Tn} {q q' r : Rw} {x y : Od} (h : QE (T 0 6) q q') (h1 : x.1 = y.1) (h2 : 0 ≤ x.1 → QE (T 0 6) x.2 y.2) : (ordB T r q x).1 = (ordB T r q' y).1 ∧ (0 ≤ (ordB T r q x).1 → QE (T 0 6) (ordB T r q x).2 (ordB T r q' y).2) := by
  unfold ordB
  rw [h.play, h1]
  split
  · exact ⟨rfl, fun _ => h⟩
  · exact ⟨h1, h2⟩
theorem QE.ordf {T : Tn} {r : Rw} : ∀ {f : Nat} {q q' : Rw} {x y : Od}, QE (T 0 6) q q' → x.1 = y.1 → (0 ≤ x.1 → QE (T 0 6) x.2 y.2) → (ordF T r f q x).1 = (ordF T r f q' y).1 ∧ (0 ≤ (ordF T r f q x).1 → QE (T 0 6) (ordF T r f q x).2 (ordF T r f q' y).2)
  | 0, q, q', x, y, h, h1, h2 => ⟨h1, h2⟩
  | f + 1, q, q', x, y, h, h1, h2 => by
    have hb := QE.ordb (r := r) h h1 h2
    unfold ordF
    by_cases e : pivS (T 0 6) q = -1
    · rw [if_pos e, if_pos (by rw [← h.piv]; exact e)]; exact hb
    · rw [if_neg e, if_neg (by rw [← h.piv]; exact e)]; exact QE.ordf (h.next e) hb.1 hb.2
theorem ordF_p {T : Tn} {r q : Rw} {f : Nat} {x : Od} (h : pivS (T 0 6) q = -1) : ordF T r (f + 1) q x = ordB T r q x := if_pos h
theorem ordF_q {T : Tn} {r q : Rw} {f : Nat} {x : Od} (h : pivS (T 0 6) q ≠ -1) : ordF T r (f + 1) q x = ordF T r f (nextS (T 0 6) q) (ordB T r q x) := if_neg h
theorem QE.pm {n : Int} {q q' : Rw} (h : QE n q q') (hq : PM n q) : PM n q' := ⟨fun k h0 h1 => by rw [← h k h0 h1]; exact hq.1 k h0 h1, fun k l k0 k1 l0 l1 e => hq.2 k l k0 k1 l0 l1 (by rw [h k k0 k1, h l l0 l1]; exact e)⟩
/-- the order's result from a row and a start -/
noncomputable def ordW (T : Tn) (r : Rw) (q : Rw) : Od := ordF T r 32768 q (-1, q)
theorem ordW_S {T : Tn} {r q : Rw} (h : QE (T 0 6) q (fun k => k)) : (ordW T r q).1 = (ordS T r).1 ∧ (0 ≤ (ordW T r q).1 → QE (T 0 6) (ordW T r q).2 (ordS T r).2) := QE.ordf h rfl (fun _ => h)
theorem RE.ordf {T : Tn} {r r' : Rw} (h : RE r r') (hT : WF T) (hr : RW T r) : ∀ {f : Nat} {q : Rw} {x : Od}, PM (T 0 6) q → ordF T r f q x = ordF T r' f q x
  | 0, _, _, _ => rfl
  | f + 1, q, x, hq => by
    by_cases e : pivS (T 0 6) q = -1
    · rw [ordF_p e, ordF_p e, h.ordb hT hq]
    · have hi : 0 ≤ pivS (T 0 6) q ∧ pivS (T 0 6) q < T 0 6 - 1 := (lastS_in (p := fun x => q x ≤ q (x + 1)) (n := T 0 6 - 1)).resolve_left e
      have hj : pivS (T 0 6) q ≤ sucS (T 0 6) q (pivS (T 0 6) q) := lastS_ge (p := fun y => q (pivS (T 0 6) q) ≤ q y) ⟨hi.1, by omega⟩ (Int.le_refl _)
      have hj2 : 0 ≤ sucS (T 0 6) q (pivS (T 0 6) q) ∧ sucS (T 0 6) q (pivS (T 0 6) q) < T 0 6 := (lastS_in (p := fun y => q (pivS (T 0 6) q) ≤ q y) (n := T 0 6)).resolve_left (fun e => by unfold sucS at hj; omega)
      rw [ordF_q e, ordF_q e, h.ordb hT hq]
      exact RE.ordf h hT hr (nxS_PM hq ⟨hi.1, by omega⟩ hj2)
