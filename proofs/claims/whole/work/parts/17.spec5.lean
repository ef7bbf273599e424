/-! ===== numbers as offers; what the asking calls answer: thrown, answer ===== -/
theorem pwS_s {g k : Int} (hg : 1 ≤ g ∧ g ≤ 3) (h0 : 0 ≤ k) (hk : k < g) : pwS g (k - 1) = 9 * pwS g k := by
  have : (g = 1 ∧ k = 0) ∨ (g = 2 ∧ k = 0) ∨ (g = 2 ∧ k = 1) ∨ (g = 3 ∧ k = 0) ∨ (g = 3 ∧ k = 1) ∨ (g = 3 ∧ k = 2) := by omega
  rcases this with ⟨rfl, rfl⟩ | ⟨rfl, rfl⟩ | ⟨rfl, rfl⟩ | ⟨rfl, rfl⟩ | ⟨rfl, rfl⟩ | ⟨rfl, rfl⟩ <;> decide
theorem pwS_bd (g k : Int) : 1 ≤ pwS g k ∧ pwS g k ≤ 729 := by
  unfold pwS
  split
  · decide
  · split
    · decide
    · split <;> decide
theorem pwS_l (g : Int) : pwS g (g - 1) = 1 := if_pos rfl
theorem dgS_bd (g v k : Int) : -1 ≤ dgS g v k ∧ dgS g v k ≤ 7 := by unfold dgS; omega
theorem vdS.g {T : Tn} {v : Int} (h : vdS T v) (hT : WF T) : ∀ j, 0 ≤ j → j < T 0 3 → 0 ≤ dgS (T 0 3) v j ∧ dgS (T 0 3) v j < 8 := fun j h0 h1 => by
  have := (h.2.2 j h0 h1).1
  have := hT.2.1
  omega
def trOK (T : Tn) (a b v z : Int) : Prop := (0 ≤ a ∧ a < T 0 1) ∧ (0 ≤ b ∧ b < T 0 1) ∧ a ≠ b ∧ (0 ≤ z ∧ z < T 0 2) ∧ vdS T v
noncomputable def lookA (T : Tn) (r : Rw) (a b v z w : Int) : Int × Int :=
  cif (trOK T a b v z ∧ 0 ≤ w ∧ w ≤ 3) (if w = 0 then (0, cif (lawP T r a b (dgS (T 0 3) v) z) 1 0) else
    cif (lawP T r a b (dgS (T 0 3) v) z) (0, if w = 1 then bagS T (dealS T r a b (dgS (T 0 3) v) z) a - bagS T r a else if w = 2 then bagS T (dealS T r a b (dgS (T 0 3) v) z) b - bagS T r b else
      if 0 < bagS T (dealS T r a b (dgS (T 0 3) v) z) a - bagS T r a ∧ 0 < bagS T (dealS T r a b (dgS (T 0 3) v) z) b - bagS T r b then (bagS T (dealS T r a b (dgS (T 0 3) v) z) a - bagS T r a) + (bagS T (dealS T r a b (dgS (T 0 3) v) z) b - bagS T r b) else 0) (2, 0)) (1, 0)
def countA (T : Tn) (r : Rw) (tp : Int) (rf : Rw) (w : Int) : Int := if w = 0 then T 0 1 else if w = 1 then T 0 2 else if w = 2 then T 0 3 else if w = 3 then T 0 4 else if w = 4 then T 0 7 else if w = 5 then T 0 5 else if w = 6 then T 0 6 else if w = 7 then tp else if w = 8 then allS T r else rf (w - 9)
/-- thrown, answer: of a call that answers x where p holds -/
noncomputable def aif (p : Prop) (x : Int) : Int × Int := cif p (0, x) (1, 0)
theorem aif_1 {p : Prop} {x : Int} (h : p) : aif p x = (0, x) := cif_pos h
theorem aif_0 {p : Prop} {x : Int} (h : ¬ p) : aif p x = (1, 0) := cif_neg h
def okPS (T : Tn) (p s : Int) : Prop := (0 ≤ p ∧ p < T 0 1) ∧ 0 ≤ s ∧ s < T 0 2
def stepC (i : Mem) (w k : Int) : Int := if w = 0 then i 121 k else if w = 1 then i 122 k else if w = 2 then i 123 k else i 124 k
theorem y_tsw {G : HX} {Y : MI} {d kc ks pc : Nat} {lv : LV} {st : List AV} {n : Nat} {I : Mem} {P : Ptr} {Q : QT} {x dflt lo hi : Int} {offs : Array Int} {len : Nat} (hd : decode Y.2.1 pc = .ok (.tableswitch dflt lo hi offs, len)) (ki : ∀ (j : Nat) (off : Int) (tgt : Nat), x = lo + j → offs[j]? = some off → (pc : Int) + off = (tgt : Int) → x ≤ hi → V G Y d kc ks tgt lv st n I P Q) (hlen : hi < lo + offs.size := by decide) (hin : (List.range offs.size).all (fun j => decide (0 ≤ (pc : Int) + offs.getD j 0)) = true := by decide) {td : Nat} (htd : (pc : Int) + dflt = (td : Int) := by decide) (ko : x < lo ∨ hi < x → V G Y d kc ks td lv st n I P Q) : V G Y d kc ks pc lv (.inl x :: st) n I P Q :=
  x_tsw hd ki hlen (fun j hj => by
    have := of_decide_eq_true (List.all_eq_true.mp hin j (List.mem_range.mpr hj))
    exact ⟨((pc : Int) + offs.getD j 0).toNat, (Int.toNat_of_nonneg this).symm⟩) htd ko
