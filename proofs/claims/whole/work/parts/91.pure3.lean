/-! ===== rows that are the same on their places lead to the same: searches, days ahead, bags, shares ===== -/
def XE (x y : Sx) : Prop := x.1 = y.1 ∧ (∀ s, RE (rowX x s) (rowX y s)) ∧ howX x = howX y ∧ ansX x = ansX y ∧ spX x = spX y
theorem XE.over {x y : Sx} (h : XE x y) : overX x ↔ overX y := by unfold overX; rw [h.2.2.2.1, h.2.2.2.2]
theorem XE.known {x y : Sx} {r r' : Rw} (h : XE x y) (hr : RE r r') : knownX x r ↔ knownX y r' := by
  unfold knownX
  rw [h.1]
  exact ⟨fun ⟨s, s0, s1, q⟩ => ⟨s, s0, s1, ((h.2.1 s).sy.tr q).tr hr⟩, fun ⟨s, s0, s1, q⟩ => ⟨s, s0, s1, ((h.2.1 s).tr q).tr hr.sy⟩⟩
theorem XE.arr {x y : Sx} {w gl m : Int} {r r' : Rw} {i : Int × Int × Int × Int × Int} (h : XE x y) (hr : RE r r') (hg : w ≠ -1 → 0 ≤ gl ∧ gl < 48) : XE (arrX w gl m r i x) (arrX w gl m r' i y) := by
  unfold arrX
  by_cases q : knownX x r
  · rw [cif_pos q, cif_pos ((h.known hr).mp q)]; exact h
  · rw [cif_neg q, cif_neg (fun z => q ((h.known hr).mpr z)), h.1]
    obtain ⟨h1, h2, h3, h4, h5⟩ := h
    split
    · exact ⟨rfl, h2, h3, h4, rfl⟩
    · refine ⟨by show x.1 + 1 = y.1 + 1; rw [h1], fun s => ?_, ?_, ?_, h5⟩
      · show RE (if s = x.1 then r else rowX x s) (if s = y.1 then r' else rowX y s)
        rw [h1]
        split
        · exact hr
        · exact h2 s
      · funext s
        show (if s = x.1 then i else howX x s) = (if s = y.1 then i else howX y s)
        rw [h1, h3]
      · show (if w ≠ -1 ∧ 0 < r gl then x.1 else ansX x) = (if w ≠ -1 ∧ 0 < r' gl then y.1 else ansX y)
        rw [h1, h4]
        by_cases e : w = -1
        · rw [if_neg (fun z => z.1 e), if_neg (fun z => z.1 e)]
        · rw [hr gl (hg e).1 (hg e).2]
theorem otherX_in {w a b n : Int} (ha : 0 ≤ a ∧ a < n) (hb : 0 ≤ b ∧ b < n) : 0 ≤ otherX w a b ∧ otherX w a b < n := by
  unfold otherX
  split
  · exact hb
  · exact ha
theorem XE.trd {T : Tn} {x y : Sx} {w gl m s a b o z : Int} {h h' : Rw} (hT : WF T) (hh : RE h h') (ha : 0 ≤ a ∧ a < T 0 1) (hb : 0 ≤ b ∧ b < T 0 1) (ho : 0 ≤ o ∧ o < OFN T) (hz : 0 ≤ z ∧ z < T 0 2) (hg : w ≠ -1 → 0 ≤ gl ∧ gl < 48) (hx : XE x y) : XE (trdB T w gl m h s a b o z x) (trdB T w gl m h' s a b o z y) := by
  unfold trdB
  have f2 := hT.2.1
  have hO := otherX_in (w := w) ha hb
  rw [hh.bag hT hO, (RE.deal hh (T := T) (a := a) (b := b) (z := z) (γ := OF T o)).bag hT hO, cif_congr (q := ¬ overX y ∧ lawP T h' a b (OF T o) z ∧ (w = -1 ∨ bagS T h' (otherX w a b) < bagS T (dealS T h' a b (OF T o) z) (otherX w a b))) (by rw [hx.over, hh.law hT ha hb hz (fun k k0 k1 => by have := OFd hT ho.1 ho.2 k k0 k1; omega)])]
  by_cases q : ¬ overX y ∧ lawP T h' a b (OF T o) z ∧ (w = -1 ∨ bagS T h' (otherX w a b) < bagS T (dealS T h' a b (OF T o) z) (otherX w a b))
  · rw [cif_pos q, cif_pos q]; exact hx.arr (RE.deal hh) hg
  · rw [cif_neg q, cif_neg q]; exact hx
theorem XE.tie {T : Tn} {x y : Sx} {w gl m s p t : Int} {h h' : Rw} (hT : WF T) (hh : RE h h') (hp : 0 ≤ p ∧ p < T 0 1) (ht : 0 ≤ t ∧ t < T 0 5) (hg : w ≠ -1 → 0 ≤ gl ∧ gl < 48) (hx : XE x y) : XE (tieB T w gl m h s p t x) (tieB T w gl m h' s p t y) := by
  unfold tieB
  rw [cif_congr (q := ¬ overX y ∧ (w = -1 ∨ p = w) ∧ tieP T h' p t) (by rw [hx.over, hh.tie hT hp ht])]
  by_cases q : ¬ overX y ∧ (w = -1 ∨ p = w) ∧ tieP T h' p t
  · rw [cif_pos q, cif_pos q]; exact hx.arr (RE.knot hh) hg
  · rw [cif_neg q, cif_neg q]; exact hx
theorem XE.two {T : Tn} {x y : Sx} {w gl m s a b : Int} {h h' : Rw} (hT : WF T) (hh : RE h h') (ha : 0 ≤ a ∧ a < T 0 1) (hb : 0 ≤ b ∧ b < T 0 1) (hg : w ≠ -1 → 0 ≤ gl ∧ gl < 48) (hx : XE x y) : XE (twoB T w gl m h s a b x) (twoB T w gl m h' s a b y) := by
  unfold twoB
  rw [cif_congr (q := ¬ overX y ∧ a ≠ b ∧ (w = -1 ∨ a = w ∨ b = w)) (by rw [hx.over])]
  by_cases q : ¬ overX y ∧ a ≠ b ∧ (w = -1 ∨ a = w ∨ b = w)
  · rw [cif_pos q, cif_pos q]
    exact itN_rel (R := fun (x y : Sx) => XE x y) hx (fun o x y o0 o1 hx => itN_rel (R := fun (x y : Sx) => XE x y) hx (fun z x y z0 z1 hx => hx.trd hT hh ha hb ⟨o0, o1⟩ ⟨z0, z1⟩ hg))
  · rw [cif_neg q, cif_neg q]; exact hx
theorem XE.go {T : Tn} {w gl m : Int} {r r' : Rw} (hT : WF T) (h : RE r r') (hg : w ≠ -1 → 0 ≤ gl ∧ gl < 48) : XE (goX T w gl m r) (goX T w gl m r') := by
  refine itN_rel (R := fun (x y : Sx) => XE x y) ⟨rfl, fun _ => h, rfl, ?_, rfl⟩ (fun s x y s0 s1 hx => ?_)
  · show (if w ≠ -1 ∧ 0 < r gl then (0 : Int) else -1) = (if w ≠ -1 ∧ 0 < r' gl then (0 : Int) else -1)
    by_cases e : w = -1
    · rw [if_neg (fun z => z.1 e), if_neg (fun z => z.1 e)]
    · rw [h gl (hg e).1 (hg e).2]
  · unfold goB
    rw [cif_congr (q := s < y.1 ∧ ¬ overX y) (by rw [hx.over, hx.1])]
    by_cases q : s < y.1 ∧ ¬ overX y
    · rw [cif_pos q, cif_pos q]
      refine itN_rel (R := fun (x y : Sx) => XE x y) (itN_rel (R := fun (x y : Sx) => XE x y) hx (fun a u v a0 a1 hu => itN_rel (R := fun (x y : Sx) => XE x y) hu (fun b u v b0 b1 hu => hu.two hT (hx.2.1 s) ⟨a0, a1⟩ ⟨b0, b1⟩ hg))) (fun p u v p0 p1 hu => itN_rel (R := fun (x y : Sx) => XE x y) hu (fun t u v t0 t1 hu => hu.tie hT (hx.2.1 s) ⟨p0, p1⟩ ⟨t0, t1⟩ hg))
    · rw [cif_neg q, cif_neg q]; exact hx
theorem XE.most {T : Tn} {x y : Sx} {n : Int} (hT : WF T) (h : XE x y) : mostN T x n = mostN T y n := itN_congr (fun s b _ _ => by
  unfold mostB
  rw [(h.2.1 s).worth hT])
theorem XE.up {x y : Sx} (h : XE x y) : upX x = upX y := by
  funext k s
  unfold upX
  rw [h.2.2.1]
-- each step of a search can be read off its code
def HOK (T : Tn) (x : Sx) : Prop := ∀ s, 0 < s → s < x.1 → okH T (howX x s)
theorem HOK.arr {T : Tn} {w gl m : Int} {r : Rw} {i : Int × Int × Int × Int × Int} {x : Sx} (h : HOK T x) (hi : okH T i) : HOK T (arrX w gl m r i x) := by
  unfold arrX
  by_cases q : knownX x r
  · rw [cif_pos q]; exact h
  · rw [cif_neg q]
    split
    · exact h
    · intro s s0 s1
      show okH T (if s = x.1 then i else howX x s)
      split
      · exact hi
      · exact h s s0 (by change s < x.1 + 1 at s1; omega)
theorem HOK.go {T : Tn} {w gl m : Int} {r : Rw} (hT : WF T) : HOK T (goX T w gl m r) := by
  have f1 := hT.1
  have f2 := hT.2.1
  have f5 := hT.2.2.2.2.1
  refine itN_inv (p := fun x : Sx => HOK T x) (fun s s0 s1 => by change s < 1 at s1; omega) (fun s x s0 s1 hx => ?_)
  unfold goB
  by_cases q : s < x.1 ∧ ¬ overX x
  · rw [cif_pos q]
    refine itN_inv (p := fun x : Sx => HOK T x) (itN_inv (p := fun x : Sx => HOK T x) hx (fun a u a0 a1 hu => itN_inv (p := fun x : Sx => HOK T x) hu (fun b u b0 b1 hu => ?_))) (fun p u p0 p1 hu => itN_inv (p := fun x : Sx => HOK T x) hu (fun t u t0 t1 hu => ?_))
    · unfold twoB
      by_cases q2 : ¬ overX u ∧ a ≠ b ∧ (w = -1 ∨ a = w ∨ b = w)
      · rw [cif_pos q2]
        refine itN_inv (p := fun x : Sx => HOK T x) hu (fun o u o0 o1 hu => itN_inv (p := fun x : Sx => HOK T x) hu (fun z u z0 z1 hu => ?_))
        unfold trdB
        by_cases q3 : ¬ overX u ∧ lawP T (rowX x s) a b (OF T o) z ∧ (w = -1 ∨ bagS T (rowX x s) (otherX w a b) < bagS T (dealS T (rowX x s) a b (OF T o) z) (otherX w a b))
        · rw [cif_pos q3]
          refine hu.arr (Or.inr ⟨?_, ?_, ?_, ?_⟩)
          · show 0 ≤ a ∧ a < 6; omega
          · show 0 ≤ b ∧ b < 6; omega
          · exact ⟨o0, o1⟩
          · show 0 ≤ z ∧ z < 8; omega
        · rw [cif_neg q3]; exact hu
      · rw [cif_neg q2]; exact hu
    · unfold tieB
      by_cases q2 : ¬ overX u ∧ (w = -1 ∨ p = w) ∧ tieP T (rowX x s) p t
      · rw [cif_pos q2]
        refine hu.arr (Or.inl ⟨?_, rfl, ?_, rfl⟩)
        · show 0 ≤ p ∧ p < 6; omega
        · show 0 ≤ t ∧ t < 4; omega
      · rw [cif_neg q2]; exact hu
  · rw [cif_neg q]; exact hx
-- a day seen ahead
def AE (T : Tn) (x y : Ah) : Prop := x.2 = y.2 ∧ ∀ p, 0 ≤ p → p < T 0 1 → x.1 p = y.1 p
theorem AE.tr {T : Tn} {r r' : Rw} {a b : Int} {g g' : Rw → Ah → Ah} (hT : WF T) (h : RE r r') (ha : 0 ≤ a ∧ a < T 0 1) (hb : 0 ≤ b ∧ b < T 0 1) (hg : ∀ u u' e e', RE u u' → AE T e e' → AE T (g u e) (g' u' e')) {e e' : Ah} (he : AE T e e') : AE T (trF T r a b g e) (trF T r' a b g' e') :=
  itN_rel (R := fun (x y : Ah) => AE T x y) he (fun o x y o0 o1 hx => itN_rel (R := fun (x y : Ah) => AE T x y) hx (fun z x y z0 z1 hx => by
    have f2 := hT.2.1
    unfold trB
    rw [cif_congr (h.law hT ha hb ⟨z0, z1⟩ (fun k k0 k1 => by have := OFd hT o0 o1 k k0 k1; omega))]
    by_cases q : lawP T r' a b (OF T o) z
    · rw [cif_pos q, cif_pos q]; exact hg _ _ _ _ (RE.deal h) hx
    · rw [cif_neg q, cif_neg q]; exact hx))
theorem AE.go {T : Tn} (hT : WF T) : ∀ (n : Nat) (l : Int) {r r' : Rw}, RE r r' → (n : Int) + l = T 0 6 → 0 ≤ l → AE T (ahS T n l r) (ahS T n l r')
  | 0, l, r, r', h, _, _ => ⟨rfl, fun p p0 p1 => h.bag hT ⟨p0, p1⟩⟩
  | n + 1, l, r, r', h, hn, hl => by
    have h0 := AE.go hT n (l + 1) h (by omega) (by omega)
    have hm := meet6 hT hl (by omega)
    have h1 : 0 ≤ mnS T l ∧ mnS T l < T 0 1 := by unfold mnS; omega
    have h2 : 0 ≤ mxS T l ∧ mxS T l < T 0 1 := by unfold mxS; omega
    have hg : ∀ u u' e e', RE u u' → AE T e e' → AE T (ahG T l (ahS T n (l + 1) r).1 (ahS T n (l + 1)) u e) (ahG T l (ahS T n (l + 1) r').1 (ahS T n (l + 1)) u' e') := fun u u' e e' hu he => by
      have hs := AE.go hT n (l + 1) hu (by omega) (by omega)
      refine ⟨by show e.2 + _ = e'.2 + _; rw [he.1, hs.1], fun p p0 p1 => ?_⟩
      show ahW T l _ _ e.1 p = ahW T l _ _ e'.1 p
      unfold ahW
      rw [he.2 _ hm.1.1 hm.1.2, hs.2 _ hm.1.1 hm.1.2, h0.2 _ hm.2.1.1 hm.2.1.2, hs.2 _ hm.2.1.1 hm.2.1.2]
      split
      · exact hs.2 p p0 p1
      · exact he.2 p p0 p1
    exact AE.tr hT h h2 h1 hg (AE.tr hT h h1 h2 hg ⟨by show 1 + _ = 1 + _; rw [h0.1], h0.2⟩)
-- bags
def FE (n : Int) (f g : Rw) : Prop := ∀ s, 0 ≤ s → s < n → f s = g s
theorem FE.sy {n : Int} {f g : Rw} (h : FE n f g) : FE n g f := fun s s0 s1 => (h s s0 s1).symm
theorem FE.tr {n : Int} {f g k : Rw} (h : FE n f g) (h2 : FE n g k) : FE n f k := fun s s0 s1 => (h s s0 s1).trans (h2 s s0 s1)
theorem FE.rem {so m i : Int} {fu fu' : Rw} (h : FE so fu fu') (hi : i ≤ so) : remS so fu m i = remS so fu' m i := itN_congr (fun k l k0 k1 => by rw [h (so - 1 - k) (by omega) (by omega)])
theorem FE.fill {so f m : Int} {fu fu' b b' : Rw} (h : FE so fu fu') (hb : ∀ s, 0 ≤ s → s < so → s < f → b s = b' s) : FE so (fillS so fu f m b) (fillS so fu' f m b') := fun s s0 s1 => by
  unfold fillS
  by_cases e : f ≤ s
  · rw [if_pos e, if_pos e, h s s0 s1, h.rem (by omega)]
  · rw [if_neg e, if_neg e]; exact hb s s0 s1 (by omega)
theorem FE.lat {so i : Int} {b b' : Rw} (h : FE so b b') (hi : i ≤ so) : latS so b i = latS so b' i := sumN_congr (fun k k0 k1 => h (so - 1 - k) (by omega) (by omega))
theorem FE.nbi {so : Int} {fu fu' b b' : Rw} (h : FE so fu fu') (hb : FE so b b') : nbI so fu b = nbI so fu' b' := itN_congr (fun s a s0 s1 => by
  show (if 0 < latS so b (so - 1 - s) ∧ b s < fu s then s else a) = (if 0 < latS so b' (so - 1 - s) ∧ b' s < fu' s then s else a)
  rw [hb.lat (i := so - 1 - s) (by omega), hb s s0 s1, h s s0 s1])
theorem FE.nbs {so : Int} {fu fu' b b' : Rw} (h : FE so fu fu') (hb : FE so b b') (hi : nbI so fu b ≠ -1) : FE so (nbS so fu b) (nbS so fu' b') := by
  have hr : 0 ≤ nbI so fu b ∧ nbI so fu b < so := (lastS_in (p := fun s => 0 < latS so b (so - 1 - s) ∧ b s < fu s) (n := so)).resolve_left hi
  unfold nbS
  rw [← h.nbi hb, ← hb.lat (i := so - 1 - nbI so fu b) (by omega), ← hb _ hr.1 hr.2]
  exact h.fill (fun s s0 s1 _ => by
    unfold u1
    split
    · rfl
    · exact hb s s0 s1)
theorem bagR_RE {T : Tn} {r r' b b' : Rw} {p : Int} (h : RE r r') (hb : FE (T 0 2) b b') : RE (bagR T r p b) (bagR T r' p b') := fun c c0 c1 => by
  unfold bagR
  split
  · next q => exact hb _ (by omega) (by omega)
  · exact h c c0 c1
theorem cell_fe {T : Tn} {r r' : Rw} {p : Int} (hT : WF T) (hp : 0 ≤ p ∧ p < T 0 1) (h : RE r r') : FE (T 0 2) (fun s => r (8 * p + s)) (fun s => r' (8 * p + s)) := fun s s0 s1 => h _ (by omega) (by have := hT.1; have := hT.2.1; omega)
def PE (so : Int) (x y : Pr) : Prop := x.1 = y.1 ∧ x.2.1 = y.2.1 ∧ FE so x.2.2 y.2.2
theorem PE.inn {T : Tn} {r r' : Rw} {p s : Int} (hT : WF T) (h : RE r r') (hp : 0 ≤ p ∧ p < T 0 1) (hs : 0 ≤ s ∧ s < T 0 2) : ∀ (f : Nat) {b b' : Rw} (t : Int), FE (T 0 2) b b' → PE (T 0 2) (innS T r p s f b t) (innS T r' p s f b' t)
  | 0, b, b', t, hb => ⟨rfl, rfl, hb⟩
  | f + 1, b, b', t, hb => by
    have f1 := hT.1
    have f2 := hT.2.1
    have hx : XE (tryX T r p s b) (tryX T r' p s b') := XE.go hT (bagR_RE h hb) (fun _ => by omega)
    have hf := cell_fe hT hp h
    by_cases e1 : t = 100
    · rw [e1, innS_100, innS_100]; exact ⟨rfl, rfl, hb⟩
    · by_cases e2 : spX (tryX T r p s b) = 0
      · have e2' : spX (tryX T r' p s b') = 0 := by rw [← hx.2.2.2.2]; exact e2
        by_cases e3 : ansX (tryX T r p s b) = -1
        · have e3' : ansX (tryX T r' p s b') = -1 := by rw [← hx.2.2.2.1]; exact e3
          by_cases e4 : nbI (T 0 2) (fun s => r (8 * p + s)) b = -1
          · rw [innS_no e1 e2 e3 e4, innS_no e1 e2' e3' (by rw [← hf.nbi hb]; exact e4)]; exact ⟨rfl, rfl, hb⟩
          · rw [innS_go e1 e2 e3 e4, innS_go e1 e2' e3' (by rw [← hf.nbi hb]; exact e4)]
            exact PE.inn hT h hp hs f (t + 1) (hf.nbs hb e4)
        · rw [innS_an e1 e2 e3, innS_an e1 e2' (by rw [← hx.2.2.2.1]; exact e3)]; exact ⟨rfl, rfl, hb⟩
      · rw [innS_sp e1 e2, innS_sp e1 (by rw [← hx.2.2.2.2]; exact e2)]; exact ⟨rfl, rfl, hb⟩
theorem PE.poo {T : Tn} {r r' : Rw} {p s : Int} (hT : WF T) (h : RE r r') (hp : 0 ≤ p ∧ p < T 0 1) (hs : 0 ≤ s ∧ s < T 0 2) : (pooS T r p s).1 = (pooS T r' p s).1 ∧ (pooS T r p s).2.2.2 = (pooS T r' p s).2.2.2 ∧ FE (T 0 2) (pooS T r p s).2.2.1 (pooS T r' p s).2.2.1 := by
  have ea : allB T r p = allB T r' p := sumN_congr (cell_fe hT hp h)
  have key : ∀ n, (fun (x y : Int × Int × Rw × Int) => x.1 = y.1 ∧ x.2.1 = y.2.1 ∧ FE (T 0 2) x.2.2.1 y.2.2.1 ∧ x.2.2.2 = y.2.2.2) (pooN T r p s n) (pooN T r' p s n) := fun n =>
    itN_rel (R := fun (x y : Int × Int × Rw × Int) => x.1 = y.1 ∧ x.2.1 = y.2.1 ∧ FE (T 0 2) x.2.2.1 y.2.2.1 ∧ x.2.2.2 = y.2.2.2) ⟨rfl, rfl, fun _ _ _ => rfl, rfl⟩ (fun m x y m0 m1 hx => by
      unfold outB
      rw [hx.1]
      split
      · exact hx
      · have hi := PE.inn hT h hp hs 101 x.2.1 ((cell_fe hT hp h).fill (f := 0) (m := m) (b := x.2.2.1) (b' := y.2.2.1) (fun s s0 _ s2 => by omega))
        rw [hx.2.1] at hi ⊢
        exact ⟨hi.1, hi.2.1, hi.2.2, rfl⟩)
  have := key (allB T r p + 1)
  unfold pooS
  rw [← ea]
  exact ⟨this.1, this.2.2.2, this.2.2.1⟩
-- shares
theorem fsS_c {K : Int} {L L' : Rw} {j : Int} {m : Rw} (h : ∀ x, 0 ≤ x → x < 8 → L x = L' x) : fsS K L j m = fsS K L' j m := by
  funext c
  unfold fsS
  rw [h (c % 8) (by omega) (by omega)]
theorem itr_c {K : Int} {L L' : Rw} {t : Int} {m : Rw} (h : ∀ x, 0 ≤ x → x < 8 → L x = L' x) : itr K L t m = itr K L' t m := itN_congr (fun _ m _ _ => fsS_c h)
theorem RE.sh {T : Tn} {r r' : Rw} (h : RE r r') (hT : WF T) : wayW (T 0 1) (LfS T r) = wayW (T 0 1) (LfS T r') ∧ shS T r = shS T r' := by
  have hL : ∀ x, 0 ≤ x → x < 8 → LfS T r x = LfS T r' x := fun x x0 x1 => h.left hT ⟨x0, x1⟩
  have hw : wayW (T 0 1) (LfS T r) = wayW (T 0 1) (LfS T r') := prN_congr (fun x x0 x1 => by rw [hL x x0 x1])
  refine ⟨hw, ?_⟩
  unfold shS shN
  rw [← hw]
  exact itN_congr (fun k y _ _ => by
    unfold m0S
    rw [itr_c hL, fsS_c hL])
theorem sumN_tail {f : Int → Int} {n m : Int} (hn : 0 ≤ n ∧ n ≤ m) (h : ∀ i, n ≤ i → i < m → f i = 0) : sumN f m = sumN f n := by
  have key : ∀ k, 0 ≤ k → n + k ≤ m → sumN f (n + k) = sumN f n := fun k hk => int_ind (p := fun k => n + k ≤ m → sumN f (n + k) = sumN f n) (fun _ => by rw [Int.add_zero]) (fun k hk ih hkm => by
    rw [← Int.add_assoc, sumN_s _ (by omega), ih (by omega), h _ (by omega) (by omega), Int.add_zero]) k hk
  have := key (m - n) (by omega) (by omega)
  rwa [show n + (m - n) = m by omega] at this
theorem allB_8 {T : Tn} {r : Rw} {p : Int} (hT : WF T) (hr : RW T r) (hp : 0 ≤ p ∧ p < 6) : sumN (fun s => r (8 * p + s)) 8 = allB T r p := sumN_tail (by have := hT.2.1; omega) (fun i i0 i1 => hr.2.1 p i hp.1 hp.2 (by have := hT.2.1; omega) i1 (Or.inr i0))
