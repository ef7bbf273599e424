/-! ===== states that can be come to ===== -/
/-- how many, their rows, how each was come to (from, a, b, offer or tie, z), the wish's first state, spent -/
abbrev Sx : Type := Int × (Int → Rw) × (Int → Int × Int × Int × Int × Int) × Int × Int
def rowX (x : Sx) : Int → Rw := x.2.1
def howX (x : Sx) : Int → Int × Int × Int × Int × Int := x.2.2.1
def ansX (x : Sx) : Int := x.2.2.2.1
def spX (x : Sx) : Int := x.2.2.2.2
def overX (x : Sx) : Prop := spX x ≠ 0 ∨ ansX x ≠ -1
def knownX (x : Sx) (r : Rw) : Prop := ∃ s, 0 ≤ s ∧ s < x.1 ∧ RE (rowX x s) r
def pushX (w gl : Int) (r : Rw) (h : Int × Int × Int × Int × Int) (x : Sx) : Sx := (x.1 + 1, fun s => if s = x.1 then r else rowX x s, fun s => if s = x.1 then h else howX x s, if w ≠ -1 ∧ 0 < r gl then x.1 else ansX x, spX x)
noncomputable def arrX (w gl m : Int) (r : Rw) (h : Int × Int × Int × Int × Int) (x : Sx) : Sx := cif (knownX x r) x (if x.1 = m then (x.1, rowX x, howX x, ansX x, 1) else pushX w gl r h x)
def otherX (w a b : Int) : Int := if a = w then b else a
noncomputable def trdB (T : Tn) (w gl m : Int) (h : Rw) (s a b o z : Int) (x : Sx) : Sx := cif (¬ overX x ∧ lawP T h a b (OF T o) z ∧ (w = -1 ∨ bagS T h (otherX w a b) < bagS T (dealS T h a b (OF T o) z) (otherX w a b))) (arrX w gl m (dealS T h a b (OF T o) z) (s, a, b, o, z) x) x
noncomputable def trdS (T : Tn) (w gl m : Int) (h : Rw) (s a b : Int) (x : Sx) : Sx := itN (fun o x => itN (fun z x => trdB T w gl m h s a b o z x) (T 0 2) x) (OFN T) x
noncomputable def twoB (T : Tn) (w gl m : Int) (h : Rw) (s a b : Int) (x : Sx) : Sx := cif (¬ overX x ∧ a ≠ b ∧ (w = -1 ∨ a = w ∨ b = w)) (trdS T w gl m h s a b x) x
noncomputable def tieB (T : Tn) (w gl m : Int) (h : Rw) (s p t : Int) (x : Sx) : Sx := cif (¬ overX x ∧ (w = -1 ∨ p = w) ∧ tieP T h p t) (arrX w gl m (knotS T h p t) (s, p, -1, t, -1) x) x
noncomputable def twosS (T : Tn) (w gl m : Int) (h : Rw) (s : Int) (x : Sx) : Sx := itN (fun a x => itN (fun b x => twoB T w gl m h s a b x) (T 0 1) x) (T 0 1) x
noncomputable def tiesS (T : Tn) (w gl m : Int) (h : Rw) (s : Int) (x : Sx) : Sx := itN (fun p x => itN (fun t x => tieB T w gl m h s p t x) (T 0 5) x) (T 0 1) x
noncomputable def goB (T : Tn) (w gl m s : Int) (x : Sx) : Sx := cif (s < x.1 ∧ ¬ overX x) (tiesS T w gl m (rowX x s) s (twosS T w gl m (rowX x s) s x)) x
def iniX (w gl : Int) (r : Rw) : Sx := (1, fun _ => r, fun _ => (-1, -1, -1, -1, -1), if w ≠ -1 ∧ 0 < r gl then 0 else -1, 0)
noncomputable def goX (T : Tn) (w gl m : Int) (r : Rw) : Sx := itN (fun s x => goB T w gl m s x) m (iniX w gl r)
/-- what holds of them all -/
def XOK (T : Tn) (m : Int) (x : Sx) : Prop := (1 ≤ x.1 ∧ x.1 ≤ m) ∧ (∀ s, 0 ≤ s → s < x.1 → RW T (rowX x s)) ∧ (howX x 0).1 = -1 ∧ (∀ s, 0 < s → s < x.1 → 0 ≤ (howX x s).1 ∧ (howX x s).1 < s) ∧ (ansX x = -1 ∨ (0 ≤ ansX x ∧ ansX x < x.1)) ∧ (spX x = 0 ∨ spX x = 1)
/-- later states of a search: nothing that stands there changes -/
def laterX (x y : Sx) : Prop := x.1 ≤ y.1 ∧ ∀ s, 0 ≤ s → s < x.1 → rowX y s = rowX x s ∧ howX y s = howX x s
theorem laterX.rf {x : Sx} : laterX x x := ⟨Int.le_refl _, fun _ _ _ => ⟨rfl, rfl⟩⟩
theorem laterX.tr {x y z : Sx} (h : laterX x y) (h2 : laterX y z) : laterX x z := ⟨Int.le_trans h.1 h2.1, fun s h0 hs => by
  have a := h.2 s h0 hs
  have b := h2.2 s h0 (by have := h.1; omega)
  exact ⟨b.1.trans a.1, b.2.trans a.2⟩⟩
theorem arrX_ok {T : Tn} {w gl m : Int} {r : Rw} {h : Int × Int × Int × Int × Int} {x : Sx} (hx : XOK T m x) (hr : RW T r) (hh : 0 ≤ h.1 ∧ h.1 < x.1) : XOK T m (arrX w gl m r h x) ∧ laterX x (arrX w gl m r h x) := by
  unfold arrX
  by_cases q : knownX x r
  · rw [cif_pos q]; exact ⟨hx, laterX.rf⟩
  · rw [cif_neg q]
    obtain ⟨h1, h2, h3, h4, h5, h6⟩ := hx
    split
    · exact ⟨⟨h1, h2, h3, h4, h5, Or.inr rfl⟩, Int.le_refl _, fun _ _ _ => ⟨rfl, rfl⟩⟩
    · refine ⟨⟨⟨?_, ?_⟩, ?_, ?_, ?_, ?_, h6⟩, ?_, ?_⟩
      · show 1 ≤ x.1 + 1; omega
      · show x.1 + 1 ≤ m; omega
      · intro s s0 s1
        show RW T (if s = x.1 then r else rowX x s)
        by_cases e : s = x.1
        · rw [if_pos e]; exact hr
        · rw [if_neg e]; exact h2 s s0 (by change s < x.1 + 1 at s1; omega)
      · show (if (0 : Int) = x.1 then h else howX x 0).1 = -1
        rw [if_neg (by omega)]; exact h3
      · intro s s0 s1
        show 0 ≤ (if s = x.1 then h else howX x s).1 ∧ (if s = x.1 then h else howX x s).1 < s
        by_cases e : s = x.1
        · rw [if_pos e, e]; exact hh
        · rw [if_neg e]; exact h4 s s0 (by change s < x.1 + 1 at s1; omega)
      · show (if w ≠ -1 ∧ 0 < r gl then x.1 else ansX x) = -1 ∨ (0 ≤ (if w ≠ -1 ∧ 0 < r gl then x.1 else ansX x) ∧ (if w ≠ -1 ∧ 0 < r gl then x.1 else ansX x) < x.1 + 1)
        split
        · exact Or.inr ⟨by omega, by omega⟩
        · rcases h5 with h5 | h5
          · exact Or.inl h5
          · exact Or.inr ⟨h5.1, by omega⟩
      · show x.1 ≤ x.1 + 1; omega
      · intro s s0 s1
        exact ⟨if_neg (by omega), if_neg (by omega)⟩
theorem OFd {T : Tn} (hT : WF T) {o : Int} (h0 : 0 ≤ o) (ho : o < OFN T) : ∀ k, 0 ≤ k → k < T 0 3 → 0 ≤ OF T o k ∧ OF T o k < T 0 2 := fun k k0 k1 => OF_bd hT h0 ho k0 (by have := hT.2.2.1; omega)
theorem trdB_ok {T : Tn} {w gl m : Int} {h : Rw} {s a b o z : Int} {x y : Sx} (hT : WF T) (hh : RW T h) (ha : 0 ≤ a ∧ a < T 0 1) (hb : 0 ≤ b ∧ b < T 0 1) (hab : a ≠ b) (ho : 0 ≤ o ∧ o < OFN T) (hz : 0 ≤ z ∧ z < T 0 2) (hs : 0 ≤ s ∧ s < y.1) (hy : laterX y x) (hx : XOK T m x) : XOK T m (trdB T w gl m h s a b o z x) ∧ laterX y (trdB T w gl m h s a b o z x) := by
  unfold trdB
  by_cases q : ¬ overX x ∧ lawP T h a b (OF T o) z ∧ (w = -1 ∨ bagS T h (otherX w a b) < bagS T (dealS T h a b (OF T o) z) (otherX w a b))
  · rw [cif_pos q]
    have := arrX_ok (w := w) (gl := gl) (h := (s, a, b, o, z)) hx (deal_RW hT hh ha hb hab hz (OFd hT ho.1 ho.2) q.2.1) ⟨hs.1, by show s < x.1; have := hy.1; omega⟩
    exact ⟨this.1, hy.tr this.2⟩
  · rw [cif_neg q]; exact ⟨hx, hy⟩
theorem trdS_ok {T : Tn} {w gl m : Int} {h : Rw} {s a b : Int} {x y : Sx} (hT : WF T) (hh : RW T h) (ha : 0 ≤ a ∧ a < T 0 1) (hb : 0 ≤ b ∧ b < T 0 1) (hab : a ≠ b) (hs : 0 ≤ s ∧ s < y.1) (hy : laterX y x) (hx : XOK T m x) : XOK T m (trdS T w gl m h s a b x) ∧ laterX y (trdS T w gl m h s a b x) :=
  itN_inv (p := fun x : Sx => XOK T m x ∧ laterX y x) ⟨hx, hy⟩ (fun o x o0 o1 hx => itN_inv (p := fun x : Sx => XOK T m x ∧ laterX y x) hx (fun z x z0 z1 hx => trdB_ok hT hh ha hb hab ⟨o0, o1⟩ ⟨z0, z1⟩ hs hx.2 hx.1))
theorem twoB_ok {T : Tn} {w gl m : Int} {h : Rw} {s a b : Int} {x y : Sx} (hT : WF T) (hh : RW T h) (ha : 0 ≤ a ∧ a < T 0 1) (hb : 0 ≤ b ∧ b < T 0 1) (hs : 0 ≤ s ∧ s < y.1) (hy : laterX y x) (hx : XOK T m x) : XOK T m (twoB T w gl m h s a b x) ∧ laterX y (twoB T w gl m h s a b x) := by
  unfold twoB
  by_cases q : ¬ overX x ∧ a ≠ b ∧ (w = -1 ∨ a = w ∨ b = w)
  · rw [cif_pos q]; exact trdS_ok hT hh ha hb q.2.1 hs hy hx
  · rw [cif_neg q]; exact ⟨hx, hy⟩
theorem tieB_ok {T : Tn} {w gl m : Int} {h : Rw} {s p t : Int} {x y : Sx} (hT : WF T) (hh : RW T h) (hp : 0 ≤ p ∧ p < T 0 1) (ht : 0 ≤ t ∧ t < T 0 5) (hs : 0 ≤ s ∧ s < y.1) (hy : laterX y x) (hx : XOK T m x) : XOK T m (tieB T w gl m h s p t x) ∧ laterX y (tieB T w gl m h s p t x) := by
  unfold tieB
  by_cases q : ¬ overX x ∧ (w = -1 ∨ p = w) ∧ tieP T h p t
  · rw [cif_pos q]
    have := arrX_ok (w := w) (gl := gl) (h := (s, p, -1, t, -1)) hx (knot_RW hT hh hp ht q.2.2) ⟨hs.1, by show s < x.1; have := hy.1; omega⟩
    exact ⟨this.1, hy.tr this.2⟩
  · rw [cif_neg q]; exact ⟨hx, hy⟩
theorem twosS_ok {T : Tn} {w gl m : Int} {h : Rw} {s : Int} {x y : Sx} (hT : WF T) (hh : RW T h) (hs : 0 ≤ s ∧ s < y.1) (hy : laterX y x) (hx : XOK T m x) : XOK T m (twosS T w gl m h s x) ∧ laterX y (twosS T w gl m h s x) :=
  itN_inv (p := fun x : Sx => XOK T m x ∧ laterX y x) ⟨hx, hy⟩ (fun a x a0 a1 hx => itN_inv (p := fun x : Sx => XOK T m x ∧ laterX y x) hx (fun b x b0 b1 hx => twoB_ok hT hh ⟨a0, a1⟩ ⟨b0, b1⟩ hs hx.2 hx.1))
theorem tiesS_ok {T : Tn} {w gl m : Int} {h : Rw} {s : Int} {x y : Sx} (hT : WF T) (hh : RW T h) (hs : 0 ≤ s ∧ s < y.1) (hy : laterX y x) (hx : XOK T m x) : XOK T m (tiesS T w gl m h s x) ∧ laterX y (tiesS T w gl m h s x) :=
  itN_inv (p := fun x : Sx => XOK T m x ∧ laterX y x) ⟨hx, hy⟩ (fun a x a0 a1 hx => itN_inv (p := fun x : Sx => XOK T m x ∧ laterX y x) hx (fun b x b0 b1 hx => tieB_ok hT hh ⟨a0, a1⟩ ⟨b0, b1⟩ hs hx.2 hx.1))
theorem goB_ok {T : Tn} {w gl m s : Int} {x : Sx} (hT : WF T) (hs : 0 ≤ s) (hx : XOK T m x) : XOK T m (goB T w gl m s x) ∧ laterX x (goB T w gl m s x) := by
  unfold goB
  by_cases q : s < x.1 ∧ ¬ overX x
  · rw [cif_pos q]
    have hh := hx.2.1 s hs q.1
    have h1 := twosS_ok (w := w) (gl := gl) hT hh ⟨hs, q.1⟩ laterX.rf hx
    exact tiesS_ok hT hh ⟨hs, q.1⟩ h1.2 h1.1
  · rw [cif_neg q]; exact ⟨hx, laterX.rf⟩
theorem iniX_ok {T : Tn} {w gl m : Int} {r : Rw} (hr : RW T r) (hm : 1 ≤ m) : XOK T m (iniX w gl r) := by
  refine ⟨⟨Int.le_refl _, hm⟩, fun _ _ _ => hr, rfl, fun s s0 s1 => ?_, ?_, Or.inl rfl⟩
  · change s < 1 at s1; omega
  · show (if w ≠ -1 ∧ 0 < r gl then (0 : Int) else -1) = -1 ∨ (0 ≤ (if w ≠ -1 ∧ 0 < r gl then (0 : Int) else -1) ∧ (if w ≠ -1 ∧ 0 < r gl then (0 : Int) else -1) < 1)
    split
    · exact Or.inr ⟨by decide, by decide⟩
    · exact Or.inl rfl
theorem goN_ok {T : Tn} {w gl m n : Int} {r : Rw} (hT : WF T) (hr : RW T r) (hm : 1 ≤ m) : XOK T m (itN (fun s x => goB T w gl m s x) n (iniX w gl r)) :=
  itN_inv (p := fun x : Sx => XOK T m x) (iniX_ok hr hm) (fun s x s0 _ hx => (goB_ok hT s0 hx).1)
/-- nothing comes behind a search that is through -/
theorem go_stop {T : Tn} {w gl m s n : Int} {x : Sx} {r : Rw} (h : x.1 ≤ s ∨ overX x) (hs : 0 ≤ s) (hn : 0 ≤ n) (hx : x = itN (fun s x => goB T w gl m s x) s (iniX w gl r)) : itN (fun s x => goB T w gl m s x) (s + n) (iniX w gl r) = x := by
  refine int_ind (p := fun n => itN (fun s x => goB T w gl m s x) (s + n) (iniX w gl r) = x) (by rw [Int.add_zero]; exact hx.symm) (fun k hk ih => ?_) n hn
  rw [← Int.add_assoc, itN_s _ _ (by omega), ih]
  unfold goB
  exact cif_neg (fun q => by rcases h with h | h; omega; exact q.2 h)
theorem itN_stop {α : Type} {f : Int → α → α} {n k : Int} {s x : α} (hk : 0 ≤ k ∧ k ≤ n) (hx : itN f k s = x) (hf : ∀ i, k ≤ i → i < n → f i x = x) : itN f n s = x := by
  have key : ∀ m, 0 ≤ m → k + m ≤ n → itN f (k + m) s = x := fun m hm => int_ind (p := fun m => k + m ≤ n → itN f (k + m) s = x) (fun _ => by rw [Int.add_zero]; exact hx) (fun i hi ih hin => by
    rw [← Int.add_assoc, itN_s _ _ (by omega), ih (by omega)]; exact hf _ (by omega) (by omega)) m hm
  have := key (n - k) (by omega) (by omega)
  rwa [show k + (n - k) = n by omega] at this
theorem trdB_over {T : Tn} {w gl m : Int} {h : Rw} {s a b o z : Int} {x : Sx} (hx : overX x) : trdB T w gl m h s a b o z x = x := cif_neg (fun q => q.1 hx)
theorem trdZ_over {T : Tn} {w gl m : Int} {h : Rw} {s a b o n : Int} {x : Sx} (hx : overX x) : itN (fun z x => trdB T w gl m h s a b o z x) n x = x := itN_inv (p := fun y => y = x) rfl (fun z y _ _ e => by rw [e]; exact trdB_over hx)
theorem twoB_over {T : Tn} {w gl m : Int} {h : Rw} {s a b : Int} {x : Sx} (hx : overX x) : twoB T w gl m h s a b x = x := cif_neg (fun q => q.1 hx)
theorem twoZ_over {T : Tn} {w gl m : Int} {h : Rw} {s a n : Int} {x : Sx} (hx : overX x) : itN (fun b x => twoB T w gl m h s a b x) n x = x := itN_inv (p := fun y => y = x) rfl (fun z y _ _ e => by rw [e]; exact twoB_over hx)
theorem tieB_over {T : Tn} {w gl m : Int} {h : Rw} {s p t : Int} {x : Sx} (hx : overX x) : tieB T w gl m h s p t x = x := cif_neg (fun q => q.1 hx)
theorem tieZ_over {T : Tn} {w gl m : Int} {h : Rw} {s p n : Int} {x : Sx} (hx : overX x) : itN (fun t x => tieB T w gl m h s p t x) n x = x := itN_inv (p := fun y => y = x) rfl (fun z y _ _ e => by rw [e]; exact tieB_over hx)
def mixF (r : Rw) : Int := itN (fun k v => wr (wr (v * 31) + r k)) 48 0
theorem RE.mix {r r' : Rw} (h : RE r r') : mixF r = mixF r' := itN_congr (fun k v h0 hk => by rw [h k h0 hk])
def numX (T : Tn) (h : Int × Int × Int × Int × Int) : Int := if h.2.2.1 = -1 then h.2.2.2.1 else numS (T 0 3) (OF T h.2.2.2.1)
/-- the reference's states -/
def MX (T : Tn) (K : Mem) (x : Sx) : Prop := K 91 47 = x.1 ∧ (∀ s, 0 ≤ s → s < x.1 → (∀ c, 0 ≤ c → c < 48 → K 113 (48 * s + c) = rowX x s c) ∧ K 114 s = mixF (rowX x s) ∧ K 115 s = (howX x s).1 ∧ K 116 s = (howX x s).2.1 ∧ K 117 s = (howX x s).2.2.1 ∧ K 118 s = numX T (howX x s) ∧ K 119 s = (howX x s).2.2.2.2) ∧ K 91 59 = ansX x ∧ K 91 60 = spX x
def WX (K : Mem) (w gl m : Int) : Prop := K 91 56 = w ∧ K 91 58 = m ∧ (1 ≤ m ∧ m ≤ 1000) ∧ (w = -1 ∨ (0 ≤ w ∧ w < 6 ∧ 0 ≤ K 91 57 ∧ K 91 57 < 8 ∧ gl = 8 * w + K 91 57))
theorem WX.fr {S : List Nat} {F : List Int} {I J : Mem} {w gl m : Int} (h : WX I w gl m) (hf : Fr S F I J) (h6 : (56 : Int) ∉ F := by decide) (h7 : (57 : Int) ∉ F := by decide) (h8 : (58 : Int) ∉ F := by decide) : WX J w gl m := by
  unfold WX
  rw [hf.2 _ h6, hf.2 _ h7, hf.2 _ h8]
  exact h
theorem MX.fr {S : List Nat} {F : List Int} {I J : Mem} {T : Tn} {x : Sx} (h : MX T I x) (hf : Fr S F I J) (h1 : (47 : Int) ∉ F := by decide) (h2 : (59 : Int) ∉ F := by decide) (h3 : (60 : Int) ∉ F := by decide) (hs : S.all (fun a => decide (a < 113 ∨ 119 < a)) = true := by decide) : MX T J x := by
  have hn : ∀ a, 113 ≤ a → a ≤ 119 → J a = I a := fun a a0 a1 => hf.1 a (by omega) (fun q => by have := of_decide_eq_true (List.all_eq_true.mp hs a q); omega)
  unfold MX
  rw [hf.2 _ h1, hf.2 _ h2, hf.2 _ h3, hn 113 (by decide) (by decide), hn 114 (by decide) (by decide), hn 115 (by decide) (by decide), hn 116 (by decide) (by decide), hn 117 (by decide) (by decide), hn 118 (by decide) (by decide), hn 119 (by decide) (by decide)]
  exact h
abbrev srS : List Nat := [113, 114, 115, 116, 117, 118, 119]
abbrev srF : List Int := [47, 59, 60]
