/-! ===== a day seen from its end; the reference's way to think it through ===== -/
theorem itN_mono {α : Type} {f : Int → α → α} {μ : α → Int} (h : ∀ i a, μ a ≤ μ (f i a)) {k n : Int} {s : α} (hk : 0 ≤ k ∧ k ≤ n) : μ (itN f k s) ≤ μ (itN f n s) := by
  have key : ∀ m, 0 ≤ m → μ (itN f k s) ≤ μ (itN f (k + m) s) := fun m hm => int_ind (p := fun m => μ (itN f k s) ≤ μ (itN f (k + m) s)) (by rw [Int.add_zero]; exact Int.le_refl _) (fun i hi ih => by
    rw [← Int.add_assoc, itN_s _ _ (by omega)]; exact Int.le_trans ih (h _ _)) m hm
  have := key (n - k) (by omega)
  rwa [show k + (n - k) = n by omega] at this
section
variable {α : Type}
/-- through all trades of a with b, in order -/
noncomputable def trB (T : Tn) (r : Rw) (a b : Int) (g : Rw → α → α) (o z : Int) (e : α) : α := cif (lawP T r a b (OF T o) z) (g (dealS T r a b (OF T o) z) e) e
noncomputable def trP (T : Tn) (r : Rw) (a b : Int) (g : Rw → α → α) (e : α) (o z : Int) : α := itN (fun z e => trB T r a b g o z e) z (itN (fun o e => itN (fun z e => trB T r a b g o z e) (T 0 2) e) o e)
noncomputable def trF (T : Tn) (r : Rw) (a b : Int) (g : Rw → α → α) (e : α) : α := itN (fun o e => itN (fun z e => trB T r a b g o z e) (T 0 2) e) (OFN T) e
theorem trP_z {T : Tn} {r : Rw} {a b : Int} {g : Rw → α → α} {e : α} {o z : Int} (hz : 0 ≤ z) : trP T r a b g e o (z + 1) = trB T r a b g o z (trP T r a b g e o z) := itN_s _ _ hz
theorem trP_o {T : Tn} {r : Rw} {a b : Int} {g : Rw → α → α} {e : α} {o : Int} (ho : 0 ≤ o) : trP T r a b g e o (T 0 2) = trP T r a b g e (o + 1) 0 := by
  unfold trP
  rw [itN_s _ _ ho, itN_0]
theorem trP_e {T : Tn} {r : Rw} {a b : Int} {g : Rw → α → α} {e : α} : trP T r a b g e (OFN T) 0 = trF T r a b g e := rfl
theorem trP_0 {T : Tn} {r : Rw} {a b : Int} {g : Rw → α → α} {e : α} : trP T r a b g e 0 0 = e := rfl
theorem trP_no {T : Tn} {r : Rw} {a b : Int} {g : Rw → α → α} {e : α} {o z : Int} (hz : 0 ≤ z) (h : ¬ lawP T r a b (OF T o) z) : trP T r a b g e o (z + 1) = trP T r a b g e o z := by rw [trP_z hz]; exact cif_neg h
theorem trP_go {T : Tn} {r : Rw} {a b : Int} {g : Rw → α → α} {e : α} {o z : Int} (hz : 0 ≤ z) (h : lawP T r a b (OF T o) z) : trP T r a b g e o (z + 1) = g (dealS T r a b (OF T o) z) (trP T r a b g e o z) := by rw [trP_z hz]; exact cif_pos h
noncomputable def posF (T : Tn) (r : Rw) (a b : Int) (g : Rw → α → α) (e : α) (dr o z : Int) : α := if dr = 0 then trP T r a b g e o z else if dr = 1 then trP T r b a g (trF T r a b g e) o z else trF T r b a g (trF T r a b g e)
theorem posF_0 {T : Tn} {r : Rw} {a b : Int} {g : Rw → α → α} {e : α} {o z : Int} : posF T r a b g e 0 o z = trP T r a b g e o z := if_pos rfl
theorem posF_1 {T : Tn} {r : Rw} {a b : Int} {g : Rw → α → α} {e : α} {o z : Int} : posF T r a b g e 1 o z = trP T r b a g (trF T r a b g e) o z := by unfold posF; rw [if_neg (by decide), if_pos rfl]
theorem posF_2 {T : Tn} {r : Rw} {a b : Int} {g : Rw → α → α} {e : α} {o z : Int} : posF T r a b g e 2 o z = trF T r b a g (trF T r a b g e) := by unfold posF; rw [if_neg (by decide), if_neg (by decide)]
theorem posF_o {T : Tn} {r : Rw} {a b : Int} {g : Rw → α → α} {e : α} {dr o : Int} (hd : dr = 0 ∨ dr = 1) (ho : 0 ≤ o) : posF T r a b g e dr o (T 0 2) = posF T r a b g e dr (o + 1) 0 := by
  rcases hd with rfl | rfl
  · rw [posF_0, posF_0, trP_o ho]
  · rw [posF_1, posF_1, trP_o ho]
theorem posF_d {T : Tn} {r : Rw} {a b : Int} {g : Rw → α → α} {e : α} {dr : Int} (hd : dr = 0 ∨ dr = 1) : posF T r a b g e dr (OFN T) 0 = posF T r a b g e (dr + 1) 0 0 := by
  rcases hd with rfl | rfl
  · rw [posF_0, trP_e, show (0 : Int) + 1 = 1 from rfl, posF_1, trP_0]
  · rw [posF_1, trP_e, show (1 : Int) + 1 = 2 from rfl, posF_2]
def aD (a b dr : Int) : Int := if dr = 0 then a else b
theorem aD_0 {a b : Int} : aD a b 0 = a := if_pos rfl
theorem aD_1 {a b : Int} : aD a b 1 = b := if_neg (by decide)
theorem posF_no {T : Tn} {r : Rw} {a b : Int} {g : Rw → α → α} {e : α} {dr o z : Int} (hd : dr = 0 ∨ dr = 1) (hz : 0 ≤ z) (h : ¬ lawP T r (aD a b dr) (aD b a dr) (OF T o) z) : posF T r a b g e dr o (z + 1) = posF T r a b g e dr o z := by
  rcases hd with rfl | rfl
  · rw [aD_0, aD_0] at h; rw [posF_0, posF_0, trP_no hz h]
  · rw [aD_1, aD_1] at h; rw [posF_1, posF_1, trP_no hz h]
theorem posF_go {T : Tn} {r : Rw} {a b : Int} {g : Rw → α → α} {e : α} {dr o z : Int} (hd : dr = 0 ∨ dr = 1) (hz : 0 ≤ z) (h : lawP T r (aD a b dr) (aD b a dr) (OF T o) z) : posF T r a b g e dr o (z + 1) = g (dealS T r (aD a b dr) (aD b a dr) (OF T o) z) (posF T r a b g e dr o z) := by
  rcases hd with rfl | rfl
  · rw [aD_0, aD_0] at h; rw [aD_0, aD_0, posF_0, posF_0, trP_go hz h]
  · rw [aD_1, aD_1] at h; rw [aD_1, aD_1, posF_1, posF_1, trP_go hz h]
theorem trB_mono {T : Tn} {r : Rw} {a b : Int} {g : Rw → α → α} {μ : α → Int} (h : ∀ r a, μ a ≤ μ (g r a)) {o z : Int} {e : α} : μ e ≤ μ (trB T r a b g o z e) := by
  unfold trB
  by_cases q : lawP T r a b (OF T o) z
  · rw [cif_pos q]; exact h _ _
  · rw [cif_neg q]; exact Int.le_refl _
theorem trZ_mono {T : Tn} {r : Rw} {a b : Int} {g : Rw → α → α} {μ : α → Int} (h : ∀ r a, μ a ≤ μ (g r a)) {o : Int} {e : α} {n : Int} (hn : 0 ≤ n) : μ e ≤ μ (itN (fun z e => trB T r a b g o z e) n e) := by
  have := itN_mono (f := fun z e => trB T r a b g o z e) (μ := μ) (fun i a => trB_mono h) (k := 0) (n := n) (s := e) ⟨Int.le_refl 0, hn⟩
  exact this
theorem trF_mono {T : Tn} {r : Rw} {a b : Int} {g : Rw → α → α} {μ : α → Int} (hT : WF T) (h : ∀ r a, μ a ≤ μ (g r a)) {e : α} : μ e ≤ μ (trF T r a b g e) := by
  have := itN_mono (f := fun o e => itN (fun z e => trB T r a b g o z e) (T 0 2) e) (μ := μ) (fun i a => trZ_mono h (by have := hT.2.1; omega)) (k := 0) (n := OFN T) (s := e) ⟨Int.le_refl 0, by have := OFN_bd hT; omega⟩
  exact this
theorem trP_le {T : Tn} {r : Rw} {a b : Int} {g : Rw → α → α} {μ : α → Int} (hT : WF T) (h : ∀ r a, μ a ≤ μ (g r a)) {e : α} {o z : Int} (ho : 0 ≤ o ∧ o < OFN T) (hz : 0 ≤ z ∧ z ≤ T 0 2) : μ (trP T r a b g e o z) ≤ μ (trF T r a b g e) := by
  have h1 := itN_mono (f := fun z e => trB T r a b g o z e) (μ := μ) (fun i a => trB_mono h) (s := itN (fun o e => itN (fun z e => trB T r a b g o z e) (T 0 2) e) o e) hz
  have h2 := itN_mono (f := fun o e => itN (fun z e => trB T r a b g o z e) (T 0 2) e) (μ := μ) (fun i a => trZ_mono h (by have := hT.2.1; omega)) (k := o + 1) (n := OFN T) (s := e) ⟨by omega, by omega⟩
  have h3 : itN (fun o e => itN (fun z e => trB T r a b g o z e) (T 0 2) e) (o + 1) e = itN (fun z e => trB T r a b g o z e) (T 0 2) (itN (fun o e => itN (fun z e => trB T r a b g o z e) (T 0 2) e) o e) := itN_s _ _ ho.1
  rw [h3] at h2
  exact Int.le_trans h1 h2
theorem posF_le {T : Tn} {r : Rw} {a b : Int} {g : Rw → α → α} {μ : α → Int} (hT : WF T) (h : ∀ r a, μ a ≤ μ (g r a)) {e : α} {dr o z : Int} (hd : dr = 0 ∨ dr = 1) (ho : 0 ≤ o ∧ o < OFN T) (hz : 0 ≤ z ∧ z ≤ T 0 2) : μ (posF T r a b g e dr o z) ≤ μ (trF T r b a g (trF T r a b g e)) := by
  rcases hd with rfl | rfl
  · rw [posF_0]
    exact Int.le_trans (trP_le hT h ho hz) (trF_mono hT h)
  · rw [posF_1]
    exact trP_le hT h ho hz
end
/-- what each has at the end; how many meetings were thought through -/
abbrev Ah : Type := Rw × Int
def mnS (T : Tn) (l : Int) : Int := min (T 6 (2 * l)) (T 6 (2 * l + 1))
def mxS (T : Tn) (l : Int) : Int := max (T 6 (2 * l)) (T 6 (2 * l + 1))
def ahW (T : Tn) (l : Int) (nn x e : Rw) : Rw := if e (T 6 (2 * l)) < x (T 6 (2 * l)) ∧ nn (T 6 (2 * l + 1)) < x (T 6 (2 * l + 1)) then x else e
def ahG (T : Tn) (l : Int) (nn : Rw) (S : Rw → Ah) (r : Rw) (y : Ah) : Ah := (ahW T l nn (S r).1 y.1, y.2 + (S r).2)
noncomputable def ahS (T : Tn) : Nat → Int → Rw → Ah
  | 0, _, r => (fun p => bagS T r p, 0)
  | n + 1, l, r => trF T r (mxS T l) (mnS T l) (ahG T l (ahS T n (l + 1) r).1 (ahS T n (l + 1))) (trF T r (mnS T l) (mxS T l) (ahG T l (ahS T n (l + 1) r).1 (ahS T n (l + 1))) ((ahS T n (l + 1) r).1, 1 + (ahS T n (l + 1) r).2))
theorem ahG_mono {T : Tn} {l : Int} {nn : Rw} {S : Rw → Ah} (h : ∀ r, 0 ≤ (S r).2) (r : Rw) (y : Ah) : y.2 ≤ (ahG T l nn S r y).2 := by
  have := h r
  show y.2 ≤ y.2 + (S r).2
  omega
theorem ahS_nn {T : Tn} (hT : WF T) : ∀ (n : Nat) (l : Int) (r : Rw), 0 ≤ (ahS T n l r).2
  | 0, _, _ => Int.le_refl _
  | n + 1, l, r => by
    have h1 := ahS_nn hT n (l + 1)
    have h2 := trF_mono (r := r) (a := mnS T l) (b := mxS T l) (μ := fun y : Ah => y.2) hT (ahG_mono (T := T) (l := l) (nn := (ahS T n (l + 1) r).1) h1) (e := ((ahS T n (l + 1) r).1, 1 + (ahS T n (l + 1) r).2))
    have h3 := trF_mono (r := r) (a := mxS T l) (b := mnS T l) (μ := fun y : Ah => y.2) hT (ahG_mono (T := T) (l := l) (nn := (ahS T n (l + 1) r).1) h1) (e := trF T r (mnS T l) (mxS T l) (ahG T l (ahS T n (l + 1) r).1 (ahS T n (l + 1))) ((ahS T n (l + 1) r).1, 1 + (ahS T n (l + 1) r).2))
    have h4 := h1 r
    have h5 : 0 ≤ 1 + (ahS T n (l + 1) r).2 := by omega
    exact Int.le_trans h5 (Int.le_trans h2 h3)
theorem ahS_1 {T : Tn} (hT : WF T) {n : Nat} {l : Int} {r : Rw} : 1 + (ahS T n (l + 1) r).2 ≤ (ahS T (n + 1) l r).2 := by
  have h1 := ahS_nn hT n (l + 1)
  have h2 := trF_mono (r := r) (a := mnS T l) (b := mxS T l) (μ := fun y : Ah => y.2) hT (ahG_mono (T := T) (l := l) (nn := (ahS T n (l + 1) r).1) h1) (e := ((ahS T n (l + 1) r).1, 1 + (ahS T n (l + 1) r).2))
  have h3 := trF_mono (r := r) (a := mxS T l) (b := mnS T l) (μ := fun y : Ah => y.2) hT (ahG_mono (T := T) (l := l) (nn := (ahS T n (l + 1) r).1) h1) (e := trF T r (mnS T l) (mxS T l) (ahG T l (ahS T n (l + 1) r).1 (ahS T n (l + 1))) ((ahS T n (l + 1) r).1, 1 + (ahS T n (l + 1) r).2))
  exact Int.le_trans h2 h3
/-- levels below l, and the row of l, stand as they stood -/
def LE (l : Int) (I J : Mem) : Prop := (∀ c, c < 48 * l + 48 → J 132 c = I 132 c) ∧ (∀ c, c < 3 * l → J 133 c = I 133 c) ∧ (∀ c, c < l → J 134 c = I 134 c ∧ J 135 c = I 135 c ∧ J 139 c = I 139 c ∧ J 140 c = I 140 c) ∧ ∀ c, c < 6 * l → J 136 c = I 136 c ∧ J 137 c = I 137 c
theorem LE.rf {l : Int} {I : Mem} : LE l I I := ⟨fun _ _ => rfl, fun _ _ => rfl, fun _ _ => ⟨rfl, rfl, rfl, rfl⟩, fun _ _ => ⟨rfl, rfl⟩⟩
theorem LE.tr {l : Int} {I J K : Mem} (h : LE l I J) (h2 : LE l J K) : LE l I K := ⟨fun c q => (h2.1 c q).trans (h.1 c q), fun c q => (h2.2.1 c q).trans (h.2.1 c q), fun c q => by
  have a := h.2.2.1 c q
  have b := h2.2.2.1 c q
  exact ⟨b.1.trans a.1, b.2.1.trans a.2.1, b.2.2.1.trans a.2.2.1, b.2.2.2.trans a.2.2.2⟩, fun c q => by
  have a := h.2.2.2 c q
  have b := h2.2.2.2 c q
  exact ⟨b.1.trans a.1, b.2.trans a.2⟩⟩
theorem LE.up {l l' : Int} {I J : Mem} (h : LE l' I J) (hl : l ≤ l') : LE l I J := ⟨fun c q => h.1 c (by omega), fun c q => h.2.1 c (by omega), fun c q => h.2.2.1 c (by omega), fun c q => h.2.2.2 c (by omega)⟩
theorem LE.ui {l : Int} {I J : Mem} {a : Nat} {i v : Int} (h : LE l I J) (h2 : (a = 132 → 48 * l + 48 ≤ i) ∧ (a = 133 → 3 * l ≤ i) ∧ (a = 134 ∨ a = 135 ∨ a = 139 ∨ a = 140 → l ≤ i) ∧ (a = 136 ∨ a = 137 → 6 * l ≤ i)) : LE l I (uI J a i v) := by
  have key : ∀ (b : Nat) (c : Int), (b = a → c ≠ i) → uI J a i v b c = J b c := fun b c q => by
    by_cases e : b = a
    · subst e
      rw [uI_eq, u1_ne (q rfl)]
    · rw [uI_ne e]
  refine ⟨fun c q => ?_, fun c q => ?_, fun c q => ?_, fun c q => ?_⟩
  · rw [key 132 c (fun e => by have := h2.1 e.symm; omega)]; exact h.1 c q
  · rw [key 133 c (fun e => by have := h2.2.1 e.symm; omega)]; exact h.2.1 c q
  · rw [key 134 c (fun e => by have := h2.2.2.1 (by omega); omega), key 135 c (fun e => by have := h2.2.2.1 (by omega); omega), key 139 c (fun e => by have := h2.2.2.1 (by omega); omega), key 140 c (fun e => by have := h2.2.2.1 (by omega); omega)]; exact h.2.2.1 c q
  · rw [key 136 c (fun e => by have := h2.2.2.2 (by omega); omega), key 137 c (fun e => by have := h2.2.2.2 (by omega); omega)]; exact h.2.2.2 c q
theorem LE.fr {l : Int} {I J K : Mem} {S : List Nat} {F : List Int} (h : LE l I J) (hf : Fr S F J K) (hs : S.all (fun a => decide (a < 132 ∨ a = 138 ∨ 140 < a)) = true := by decide) : LE l I K := by
  have hn : ∀ a, 132 ≤ a → a ≤ 140 → a ≠ 138 → K a = J a := fun a a0 a1 a2 => hf.1 a (by omega) (fun q => by have := of_decide_eq_true (List.all_eq_true.mp hs a q); omega)
  unfold LE
  rw [hn 132 (by decide) (by decide) (by decide), hn 133 (by decide) (by decide) (by decide), hn 134 (by decide) (by decide) (by decide), hn 135 (by decide) (by decide) (by decide), hn 136 (by decide) (by decide) (by decide), hn 137 (by decide) (by decide) (by decide), hn 139 (by decide) (by decide) (by decide), hn 140 (by decide) (by decide) (by decide)]
  exact h
/-- what a level has learnt: without a trade, the best yet -/
def ES (T : Tn) (l : Int) (K : Mem) (nn e : Rw) : Prop := (∀ p, 0 ≤ p → p < T 0 1 → K 136 (6 * l + p) = nn p) ∧ ((K 140 l = 0 ∧ e = nn) ∨ (K 140 l = 1 ∧ nn (T 6 (2 * l)) < e (T 6 (2 * l)) ∧ ∀ p, 0 ≤ p → p < T 0 1 → K 137 (6 * l + p) = e p))
theorem ES.le {T : Tn} {l : Int} {K K' : Mem} {nn e : Rw} (h : ES T l K nn e) (hT : WF T) (hl : LE (l + 1) K K') : ES T l K' nn e := by
  have f1 := hT.1
  refine ⟨fun p p0 p1 => by rw [(hl.2.2.2 _ (by omega)).1]; exact h.1 p p0 p1, ?_⟩
  rw [(hl.2.2.1 l (by omega)).2.2.2]
  rcases h.2 with h | ⟨h1, h2, h3⟩
  · exact Or.inl h
  · exact Or.inr ⟨h1, h2, fun p p0 p1 => by rw [(hl.2.2.2 _ (by omega)).2]; exact h3 p p0 p1⟩
section
variable {G : HX} {d : Nat} {I : Mem} {P : Ptr} {T : Tn}
theorem c_X12_scenes {l : Int} (hW : WP P) (hl : 0 ≤ l ∧ l ≤ 8) : Cv G mX12_scenes d 0 0 [.inr (.inl 91), .inl l] NO I P (qV (fun n' I' P' => n' = NO ∧ P' = P ∧ Fr [141] [] I I' ∧ ∀ c, 0 ≤ c → c < 48 → I' 141 c = I 132 (48 * l + c))) := by
  refine x_enter mfX12_scenes rfl (Nat.le_of_ble_eq_true rfl) (fun _ => ?_)
  have hL : ∀ (j : Nat) (k : Int) (K : Mem), (48 - k).toNat < j → 0 ≤ k → k ≤ 48 → (∀ c, 0 ≤ c → c < k → K 141 c = I 132 (48 * l + c)) → Fr [141] [] I K → V G mX12_scenes d 0 0 2 [some (.inr (.inl 91)), some (.inl (l)), some (.inl (k))] [] NO K P (qV (fun n' I' P' => n' = NO ∧ P' = P ∧ Fr [141] [] I I' ∧ ∀ c, 0 ≤ c → c < 48 → I' 141 c = I 132 (48 * l + c))) := by
    intro j
    induction j with
    | zero => intro k K hj; omega
    | succ j ih =>
      intro k K hj hk hk2 hc hFr
      have e132 : K 132 = I 132 := hFr.1 132 (by decide) (by decide)
      refine x_iload_n (i := 2) dX12_scenes_2 rfl rfl ?_
      refine y_bi dX12_scenes_3 ⟨by decide, by decide⟩ ?_
      refine x_icmp_ge (tgt := 31) dX12_scenes_5 rfl (fun h5 => ?_) (fun h5 => ?_)
      · refine x_vret dX12_scenes_31 rfl ?_
        exact ⟨rfl, rfl, hFr, fun c c0 c1 => hc c c0 (by omega)⟩
      · refine y_aln (i := 0) dX12_scenes_8 at91.ne0 rfl rfl ?_
        refine y_getp (z := 88) (v := 141) dX12_scenes_9 frX12_172 cfX12 at91 rfl rfl (wp (v := 141) hW rfl rfl (by decide)) ?_
        refine x_iload_n (i := 2) dX12_scenes_12 rfl rfl ?_
        refine y_aln (i := 0) dX12_scenes_13 at91.ne0 rfl rfl ?_
        refine y_getp (z := 79) (v := 132) dX12_scenes_14 frX12_145 cfX12 at91 rfl rfl (wp (v := 132) hW rfl rfl (by decide)) ?_
        refine y_bi dX12_scenes_17 ⟨by decide, by decide⟩ ?_
        refine x_iload_n (i := 1) dX12_scenes_19 rfl rfl ?_
        refine x_imul dX12_scenes_20 ⟨by omega, by omega⟩ ?_
        refine x_iload_n (i := 2) dX12_scenes_21 rfl rfl ?_
        refine x_iadd dX12_scenes_22 ⟨by omega, by omega⟩ ?_
        refine x_iald dX12_scenes_23 ar132 ⟨by omega, by omega⟩ ?_
        rw [e132]
        refine x_iast dX12_scenes_24 ar141 ⟨by omega, by omega⟩ ?_
        refine x_iinc dX12_scenes_25 rfl ⟨by omega, by omega⟩ rfl (Nat.le_of_ble_eq_true rfl) ?_
        refine x_goto (tgt := 2) dX12_scenes_28 rfl ?_
        refine x_keep [1, 1, 1] ?_
        refine ih (k + 1) _ (by omega) (by omega) (by omega) (fun c c0 c1 => ?_) (hFr.ui (by decide) (by decide))
        rw [uI_eq]
        by_cases e : c = k
        · rw [e, u1_eq]
        · rw [u1_ne e]; exact hc c c0 (by omega)
  refine y_ic dX12_scenes_0 ⟨by decide, by decide⟩ ?_
  refine x_istore_n (i := 2) dX12_scenes_1 rfl rfl (Nat.le_of_ble_eq_true rfl) ?_
  refine x_keep [1, 1, 1] ?_
  exact hL _ 0 I (Nat.lt_succ_self _) (by decide) (by decide) (fun c c0 c1 => by omega) Fr.rf
theorem c_X12_firstOf {l : Int} (hW : WP P) (hT : MT I T) (hl : 0 ≤ l ∧ l < 8) : Cv G mX12_firstOf d 0 0 [.inr (.inl 91), .inl l] NO I P (qI NO (fun r I' P' => I' = I ∧ P' = P ∧ r = T 6 (2 * l))) := by
  have e97 : I 97 = T 6 := hT.2.2.2.2.2.2
  refine x_enter mfX12_firstOf rfl (Nat.le_of_ble_eq_true rfl) (fun _ => ?_)
  refine y_aln (i := 0) dX12_firstOf_0 at91.ne0 rfl rfl ?_
  refine y_getp (z := 13) (v := 97) dX12_firstOf_1 frX12_35 cfX12 at91 rfl rfl (wp (v := 97) hW rfl rfl (by decide)) ?_
  refine y_ic dX12_firstOf_4 ⟨by decide, by decide⟩ ?_
  refine x_iload_n (i := 1) dX12_firstOf_5 rfl rfl ?_
  refine x_imul dX12_firstOf_6 ⟨by omega, by omega⟩ ?_
  refine x_iald dX12_firstOf_7 ar97 ⟨by omega, by omega⟩ ?_
  refine x_iret dX12_firstOf_8 rfl ?_
  exact ⟨rfl, rfl, by rw [e97]⟩
theorem c_X12_secondOf {l : Int} (hW : WP P) (hT : MT I T) (hl : 0 ≤ l ∧ l < 8) : Cv G mX12_secondOf d 0 0 [.inr (.inl 91), .inl l] NO I P (qI NO (fun r I' P' => I' = I ∧ P' = P ∧ r = T 6 (2 * l + 1))) := by
  have e97 : I 97 = T 6 := hT.2.2.2.2.2.2
  refine x_enter mfX12_secondOf rfl (Nat.le_of_ble_eq_true rfl) (fun _ => ?_)
  refine y_aln (i := 0) dX12_secondOf_0 at91.ne0 rfl rfl ?_
  refine y_getp (z := 13) (v := 97) dX12_secondOf_1 frX12_35 cfX12 at91 rfl rfl (wp (v := 97) hW rfl rfl (by decide)) ?_
  refine y_ic dX12_secondOf_4 ⟨by decide, by decide⟩ ?_
  refine x_iload_n (i := 1) dX12_secondOf_5 rfl rfl ?_
  refine x_imul dX12_secondOf_6 ⟨by omega, by omega⟩ ?_
  refine y_ic dX12_secondOf_7 ⟨by decide, by decide⟩ ?_
  refine x_iadd dX12_secondOf_8 ⟨by omega, by omega⟩ ?_
  refine x_iald dX12_secondOf_9 ar97 ⟨by omega, by omega⟩ ?_
  refine x_iret dX12_secondOf_10 rfl ?_
  exact ⟨rfl, rfl, by rw [e97]⟩
theorem c_X12_giver {l : Int} (hW : WP P) (hT : MT I T) (hl : 0 ≤ l ∧ l < 8) (hd : I 134 l = 0 ∨ I 134 l = 1) : Cv G mX12_giver (d + 1) 0 0 [.inr (.inl 91), .inl l] NO I P (qI NO (fun r I' P' => I' = I ∧ P' = P ∧ r = aD (mnS T l) (mxS T l) (I 134 l))) := by
  refine x_enter mfX12_giver rfl (Nat.le_of_ble_eq_true rfl) (fun _ => ?_)
  refine y_aln (i := 0) dX12_giver_0 at91.ne0 rfl rfl ?_
  refine x_iload_n (i := 1) dX12_giver_1 rfl rfl ?_
  refine x_callVI (c_X12_firstOf hW hT hl) dX12_giver_2 lkX12_495 mfX12_firstOf cfX12 at91 rfl rfl rfl rfl (Nat.le_of_ble_eq_true rfl) (fun r2 I2 P2 hr2 hf2 => ?_)
  obtain ⟨i2, p2, q2⟩ := hf2
  rw [i2, p2, q2]
  refine y_aln (i := 0) dX12_giver_5 at91.ne0 rfl rfl ?_
  refine x_iload_n (i := 1) dX12_giver_6 rfl rfl ?_
  refine x_callVI (c_X12_secondOf hW hT hl) dX12_giver_7 lkX12_498 mfX12_secondOf cfX12 at91 rfl rfl rfl rfl (Nat.le_of_ble_eq_true rfl) (fun r7 I7 P7 hr7 hf7 => ?_)
  obtain ⟨i7, p7, q7⟩ := hf7
  rw [i7, p7, q7]
  refine x_icmp_ge (tgt := 17) dX12_giver_10 rfl (fun h10 => ?_) (fun h10 => ?_)
  · refine y_ic dX12_giver_17 ⟨by decide, by decide⟩ ?_
    refine x_istore_n (i := 2) dX12_giver_18 rfl rfl (Nat.le_of_ble_eq_true rfl) ?_
    refine y_aln (i := 0) dX12_giver_19 at91.ne0 rfl rfl ?_
    refine y_getp (z := 81) (v := 134) dX12_giver_20 frX12_151 cfX12 at91 rfl rfl (wp (v := 134) hW rfl rfl (by decide)) ?_
    refine x_iload_n (i := 1) dX12_giver_23 rfl rfl ?_
    refine x_iald dX12_giver_24 ar134 ⟨by omega, by omega⟩ ?_
    refine x_if_ne (tgt := 32) dX12_giver_25 rfl (fun h25 => ?_) (fun h25 => ?_)
    · refine y_ic dX12_giver_32 ⟨by decide, by decide⟩ ?_
      refine x_iload_n (i := 2) dX12_giver_33 rfl rfl ?_
      refine x_icmp_ne (tgt := 45) dX12_giver_34 rfl (fun h34 => ?_) (fun h34 => ?_)
      · refine y_aln (i := 0) dX12_giver_45 at91.ne0 rfl rfl ?_
        refine x_iload_n (i := 1) dX12_giver_46 rfl rfl ?_
        refine x_callVI (c_X12_secondOf hW hT hl) dX12_giver_47 lkX12_498 mfX12_secondOf cfX12 at91 rfl rfl rfl rfl (Nat.le_of_ble_eq_true rfl) (fun r47 I47 P47 hr47 hf47 => ?_)
        obtain ⟨i47, p47, q47⟩ := hf47
        rw [i47, p47, q47]
        refine x_iret dX12_giver_50 rfl ?_
        first | exact ⟨rfl, rfl, by unfold aD mnS mxS; split <;> omega⟩ | (exfalso; omega)
      · refine y_aln (i := 0) dX12_giver_37 at91.ne0 rfl rfl ?_
        refine x_iload_n (i := 1) dX12_giver_38 rfl rfl ?_
        refine x_callVI (c_X12_firstOf hW hT hl) dX12_giver_39 lkX12_495 mfX12_firstOf cfX12 at91 rfl rfl rfl rfl (Nat.le_of_ble_eq_true rfl) (fun r39 I39 P39 hr39 hf39 => ?_)
        obtain ⟨i39, p39, q39⟩ := hf39
        rw [i39, p39, q39]
        refine x_goto (tgt := 50) dX12_giver_42 rfl ?_
        refine x_iret dX12_giver_50 rfl ?_
        first | exact ⟨rfl, rfl, by unfold aD mnS mxS; split <;> omega⟩ | (exfalso; omega)
    · refine y_ic dX12_giver_28 ⟨by decide, by decide⟩ ?_
      refine x_goto (tgt := 33) dX12_giver_29 rfl ?_
      refine x_iload_n (i := 2) dX12_giver_33 rfl rfl ?_
      refine x_icmp_ne (tgt := 45) dX12_giver_34 rfl (fun h34 => ?_) (fun h34 => ?_)
      · refine y_aln (i := 0) dX12_giver_45 at91.ne0 rfl rfl ?_
        refine x_iload_n (i := 1) dX12_giver_46 rfl rfl ?_
        refine x_callVI (c_X12_secondOf hW hT hl) dX12_giver_47 lkX12_498 mfX12_secondOf cfX12 at91 rfl rfl rfl rfl (Nat.le_of_ble_eq_true rfl) (fun r47 I47 P47 hr47 hf47 => ?_)
        obtain ⟨i47, p47, q47⟩ := hf47
        rw [i47, p47, q47]
        refine x_iret dX12_giver_50 rfl ?_
        first | exact ⟨rfl, rfl, by unfold aD mnS mxS; split <;> omega⟩ | (exfalso; omega)
      · refine y_aln (i := 0) dX12_giver_37 at91.ne0 rfl rfl ?_
        refine x_iload_n (i := 1) dX12_giver_38 rfl rfl ?_
        refine x_callVI (c_X12_firstOf hW hT hl) dX12_giver_39 lkX12_495 mfX12_firstOf cfX12 at91 rfl rfl rfl rfl (Nat.le_of_ble_eq_true rfl) (fun r39 I39 P39 hr39 hf39 => ?_)
        obtain ⟨i39, p39, q39⟩ := hf39
        rw [i39, p39, q39]
        refine x_goto (tgt := 50) dX12_giver_42 rfl ?_
        refine x_iret dX12_giver_50 rfl ?_
        first | exact ⟨rfl, rfl, by unfold aD mnS mxS; split <;> omega⟩ | (exfalso; omega)
  · refine y_ic dX12_giver_13 ⟨by decide, by decide⟩ ?_
    refine x_goto (tgt := 18) dX12_giver_14 rfl ?_
    refine x_istore_n (i := 2) dX12_giver_18 rfl rfl (Nat.le_of_ble_eq_true rfl) ?_
    refine y_aln (i := 0) dX12_giver_19 at91.ne0 rfl rfl ?_
    refine y_getp (z := 81) (v := 134) dX12_giver_20 frX12_151 cfX12 at91 rfl rfl (wp (v := 134) hW rfl rfl (by decide)) ?_
    refine x_iload_n (i := 1) dX12_giver_23 rfl rfl ?_
    refine x_iald dX12_giver_24 ar134 ⟨by omega, by omega⟩ ?_
    refine x_if_ne (tgt := 32) dX12_giver_25 rfl (fun h25 => ?_) (fun h25 => ?_)
    · refine y_ic dX12_giver_32 ⟨by decide, by decide⟩ ?_
      refine x_iload_n (i := 2) dX12_giver_33 rfl rfl ?_
      refine x_icmp_ne (tgt := 45) dX12_giver_34 rfl (fun h34 => ?_) (fun h34 => ?_)
      · refine y_aln (i := 0) dX12_giver_45 at91.ne0 rfl rfl ?_
        refine x_iload_n (i := 1) dX12_giver_46 rfl rfl ?_
        refine x_callVI (c_X12_secondOf hW hT hl) dX12_giver_47 lkX12_498 mfX12_secondOf cfX12 at91 rfl rfl rfl rfl (Nat.le_of_ble_eq_true rfl) (fun r47 I47 P47 hr47 hf47 => ?_)
        obtain ⟨i47, p47, q47⟩ := hf47
        rw [i47, p47, q47]
        refine x_iret dX12_giver_50 rfl ?_
        first | exact ⟨rfl, rfl, by unfold aD mnS mxS; split <;> omega⟩ | (exfalso; omega)
      · refine y_aln (i := 0) dX12_giver_37 at91.ne0 rfl rfl ?_
        refine x_iload_n (i := 1) dX12_giver_38 rfl rfl ?_
        refine x_callVI (c_X12_firstOf hW hT hl) dX12_giver_39 lkX12_495 mfX12_firstOf cfX12 at91 rfl rfl rfl rfl (Nat.le_of_ble_eq_true rfl) (fun r39 I39 P39 hr39 hf39 => ?_)
        obtain ⟨i39, p39, q39⟩ := hf39
        rw [i39, p39, q39]
        refine x_goto (tgt := 50) dX12_giver_42 rfl ?_
        refine x_iret dX12_giver_50 rfl ?_
        first | exact ⟨rfl, rfl, by unfold aD mnS mxS; split <;> omega⟩ | (exfalso; omega)
    · refine y_ic dX12_giver_28 ⟨by decide, by decide⟩ ?_
      refine x_goto (tgt := 33) dX12_giver_29 rfl ?_
      refine x_iload_n (i := 2) dX12_giver_33 rfl rfl ?_
      refine x_icmp_ne (tgt := 45) dX12_giver_34 rfl (fun h34 => ?_) (fun h34 => ?_)
      · refine y_aln (i := 0) dX12_giver_45 at91.ne0 rfl rfl ?_
        refine x_iload_n (i := 1) dX12_giver_46 rfl rfl ?_
        refine x_callVI (c_X12_secondOf hW hT hl) dX12_giver_47 lkX12_498 mfX12_secondOf cfX12 at91 rfl rfl rfl rfl (Nat.le_of_ble_eq_true rfl) (fun r47 I47 P47 hr47 hf47 => ?_)
        obtain ⟨i47, p47, q47⟩ := hf47
        rw [i47, p47, q47]
        refine x_iret dX12_giver_50 rfl ?_
        first | exact ⟨rfl, rfl, by unfold aD mnS mxS; split <;> omega⟩ | (exfalso; omega)
      · refine y_aln (i := 0) dX12_giver_37 at91.ne0 rfl rfl ?_
        refine x_iload_n (i := 1) dX12_giver_38 rfl rfl ?_
        refine x_callVI (c_X12_firstOf hW hT hl) dX12_giver_39 lkX12_495 mfX12_firstOf cfX12 at91 rfl rfl rfl rfl (Nat.le_of_ble_eq_true rfl) (fun r39 I39 P39 hr39 hf39 => ?_)
        obtain ⟨i39, p39, q39⟩ := hf39
        rw [i39, p39, q39]
        refine x_goto (tgt := 50) dX12_giver_42 rfl ?_
        refine x_iret dX12_giver_50 rfl ?_
        first | exact ⟨rfl, rfl, by unfold aD mnS mxS; split <;> omega⟩ | (exfalso; omega)
theorem c_X12_taker {l : Int} (hW : WP P) (hT : MT I T) (hl : 0 ≤ l ∧ l < 8) (hne : T 6 (2 * l) ≠ T 6 (2 * l + 1)) (hd : I 134 l = 0 ∨ I 134 l = 1) : Cv G mX12_taker (d + 2) 0 0 [.inr (.inl 91), .inl l] NO I P (qI NO (fun r I' P' => I' = I ∧ P' = P ∧ r = aD (mxS T l) (mnS T l) (I 134 l))) := by
  have hg : ∀ x, (x = aD (mnS T l) (mxS T l) (I 134 l)) → (x = T 6 (2 * l) → T 6 (2 * l + 1) = aD (mxS T l) (mnS T l) (I 134 l)) ∧ (x ≠ T 6 (2 * l) → T 6 (2 * l) = aD (mxS T l) (mnS T l) (I 134 l)) := fun x hx => by
    rw [hx]
    unfold aD mnS mxS
    split <;> omega
  refine x_enter mfX12_taker rfl (Nat.le_of_ble_eq_true rfl) (fun _ => ?_)
  refine y_aln (i := 0) dX12_taker_0 at91.ne0 rfl rfl ?_
  refine x_iload_n (i := 1) dX12_taker_1 rfl rfl ?_
  refine x_callVI (c_X12_giver hW hT hl hd) dX12_taker_2 lkX12_501 mfX12_giver cfX12 at91 rfl rfl rfl rfl (Nat.le_of_ble_eq_true rfl) (fun r2 I2 P2 hr2 hf2 => ?_)
  obtain ⟨i2, p2, q2⟩ := hf2
  rw [i2, p2]
  refine y_aln (i := 0) dX12_taker_5 at91.ne0 rfl rfl ?_
  refine x_iload_n (i := 1) dX12_taker_6 rfl rfl ?_
  refine x_callVI (c_X12_firstOf hW hT hl) dX12_taker_7 lkX12_495 mfX12_firstOf cfX12 at91 rfl rfl rfl rfl (Nat.le_of_ble_eq_true rfl) (fun r7 I7 P7 hr7 hf7 => ?_)
  obtain ⟨i7, p7, q7⟩ := hf7
  rw [i7, p7, q7]
  refine x_icmp_ne (tgt := 21) dX12_taker_10 rfl (fun h10 => ?_) (fun h10 => ?_)
  · refine y_aln (i := 0) dX12_taker_21 at91.ne0 rfl rfl ?_
    refine x_iload_n (i := 1) dX12_taker_22 rfl rfl ?_
    refine x_callVI (c_X12_firstOf hW hT hl) dX12_taker_23 lkX12_495 mfX12_firstOf cfX12 at91 rfl rfl rfl rfl (Nat.le_of_ble_eq_true rfl) (fun r23 I23 P23 hr23 hf23 => ?_)
    obtain ⟨i23, p23, q23⟩ := hf23
    rw [i23, p23, q23]
    refine x_iret dX12_taker_26 rfl ?_
    first | exact ⟨rfl, rfl, (hg _ q2).1 (by omega)⟩ | exact ⟨rfl, rfl, (hg _ q2).2 (by omega)⟩
  · refine y_aln (i := 0) dX12_taker_13 at91.ne0 rfl rfl ?_
    refine x_iload_n (i := 1) dX12_taker_14 rfl rfl ?_
    refine x_callVI (c_X12_secondOf hW hT hl) dX12_taker_15 lkX12_498 mfX12_secondOf cfX12 at91 rfl rfl rfl rfl (Nat.le_of_ble_eq_true rfl) (fun r15 I15 P15 hr15 hf15 => ?_)
    obtain ⟨i15, p15, q15⟩ := hf15
    rw [i15, p15, q15]
    refine x_goto (tgt := 26) dX12_taker_18 rfl ?_
    refine x_iret dX12_taker_26 rfl ?_
    first | exact ⟨rfl, rfl, (hg _ q2).1 (by omega)⟩ | exact ⟨rfl, rfl, (hg _ q2).2 (by omega)⟩
theorem c_X12_opens {l : Int} (hW : WP P) (hT : MT I T) (hF : WF T) (hl : 0 ≤ l ∧ l < 8) : Cv G mX12_opens d 0 0 [.inr (.inl 91), .inl l] NO I P (qV (fun n' I' P' => n' = NO ∧ P' = P ∧ Fr [133, 134, 135, 139, 140] [] I I' ∧ LE l I I' ∧ I' 139 l = 0 ∧ I' 140 l = 0 ∧ I' 134 l = 0 ∧ I' 135 l = -1 ∧ ∀ k, 0 ≤ k → k < T 0 3 → I' 133 (3 * l + k) = 0)) := by
  have f3 := hF.2.2.1
  refine x_enter mfX12_opens rfl (Nat.le_of_ble_eq_true rfl) (fun _ => ?_)
  have hL : ∀ (j : Nat) (k : Int) (K : Mem), (T 0 3 - k).toNat < j → 0 ≤ k → k ≤ T 0 3 → (∀ c, 0 ≤ c → c < k → K 133 (3 * l + c) = 0) → K 139 l = 0 → K 140 l = 0 → K 134 l = 0 → K 135 l = -1 → Fr [133, 134, 135, 139, 140] [] I K → LE l I K → V G mX12_opens d 0 0 30 [some (.inr (.inl 91)), some (.inl (l)), some (.inl (k))] [] NO K P (qV (fun n' I' P' => n' = NO ∧ P' = P ∧ Fr [133, 134, 135, 139, 140] [] I I' ∧ LE l I I' ∧ I' 139 l = 0 ∧ I' 140 l = 0 ∧ I' 134 l = 0 ∧ I' 135 l = -1 ∧ ∀ k, 0 ≤ k → k < T 0 3 → I' 133 (3 * l + k) = 0)) := by
    intro j
    induction j with
    | zero => intro k K hj; omega
    | succ j ih =>
      intro k K hj hk hk2 hc a1 a2 a3 a4 hFr hLE
      have hTK := hT.fr hFr
      have e3 : K 91 3 = T 0 3 := hTK.1 3 (by decide) (by decide)
      refine x_iload_n (i := 2) dX12_opens_30 rfl rfl ?_
      refine y_aln (i := 0) dX12_opens_31 at91.ne0 rfl rfl ?_
      refine y_geti (z := 3) dX12_opens_32 frX12_13 cfX12 at91 rfl rfl ?_
      refine x_icmp_ge (tgt := 55) dX12_opens_35 rfl (fun h35 => ?_) (fun h35 => ?_)
      · refine x_vret dX12_opens_55 rfl ?_
        exact ⟨rfl, rfl, hFr, hLE, a1, a2, a3, a4, fun c c0 c1 => hc c c0 (by omega)⟩
      · refine y_aln (i := 0) dX12_opens_38 at91.ne0 rfl rfl ?_
        refine y_getp (z := 80) (v := 133) dX12_opens_39 frX12_148 cfX12 at91 rfl rfl (wp (v := 133) hW rfl rfl (by decide)) ?_
        refine y_ic dX12_opens_42 ⟨by decide, by decide⟩ ?_
        refine x_iload_n (i := 1) dX12_opens_43 rfl rfl ?_
        refine x_imul dX12_opens_44 ⟨by omega, by omega⟩ ?_
        refine x_iload_n (i := 2) dX12_opens_45 rfl rfl ?_
        refine x_iadd dX12_opens_46 ⟨by omega, by omega⟩ ?_
        refine y_ic dX12_opens_47 ⟨by decide, by decide⟩ ?_
        refine x_iast dX12_opens_48 ar133 ⟨by omega, by omega⟩ ?_
        refine x_iinc dX12_opens_49 rfl ⟨by omega, by omega⟩ rfl (Nat.le_of_ble_eq_true rfl) ?_
        refine x_goto (tgt := 30) dX12_opens_52 rfl ?_
        refine x_keep [1, 1, 1] ?_
        refine ih (k + 1) _ (by omega) (by omega) (by omega) (fun c c0 c1 => ?_) (by rw [uI_ne (by decide)]; exact a1) (by rw [uI_ne (by decide)]; exact a2) (by rw [uI_ne (by decide)]; exact a3) (by rw [uI_ne (by decide)]; exact a4) (hFr.ui (by decide) (by decide)) (hLE.ui ⟨fun q => by omega, fun _ => by omega, fun q => by omega, fun q => by omega⟩)
        rw [uI_eq]
        by_cases e : c = k
        · rw [e, u1_eq]
        · rw [u1_ne (by omega)]; exact hc c c0 (by omega)
  refine y_aln (i := 0) dX12_opens_0 at91.ne0 rfl rfl ?_
  refine y_getp (z := 86) (v := 139) dX12_opens_1 frX12_166 cfX12 at91 rfl rfl (wp (v := 139) hW rfl rfl (by decide)) ?_
  refine x_iload_n (i := 1) dX12_opens_4 rfl rfl ?_
  refine y_ic dX12_opens_5 ⟨by decide, by decide⟩ ?_
  refine x_iast dX12_opens_6 ar139 ⟨by omega, by omega⟩ ?_
  refine y_aln (i := 0) dX12_opens_7 at91.ne0 rfl rfl ?_
  refine y_getp (z := 87) (v := 140) dX12_opens_8 frX12_169 cfX12 at91 rfl rfl (wp (v := 140) hW rfl rfl (by decide)) ?_
  refine x_iload_n (i := 1) dX12_opens_11 rfl rfl ?_
  refine y_ic dX12_opens_12 ⟨by decide, by decide⟩ ?_
  refine x_zast dX12_opens_13 ar140 ⟨by omega, by omega⟩ (by omega) ?_
  refine y_aln (i := 0) dX12_opens_14 at91.ne0 rfl rfl ?_
  refine y_getp (z := 81) (v := 134) dX12_opens_15 frX12_151 cfX12 at91 rfl rfl (wp (v := 134) hW rfl rfl (by decide)) ?_
  refine x_iload_n (i := 1) dX12_opens_18 rfl rfl ?_
  refine y_ic dX12_opens_19 ⟨by decide, by decide⟩ ?_
  refine x_iast dX12_opens_20 ar134 ⟨by omega, by omega⟩ ?_
  refine y_aln (i := 0) dX12_opens_21 at91.ne0 rfl rfl ?_
  refine y_getp (z := 82) (v := 135) dX12_opens_22 frX12_154 cfX12 at91 rfl rfl (wp (v := 135) hW rfl rfl (by decide)) ?_
  refine x_iload_n (i := 1) dX12_opens_25 rfl rfl ?_
  refine y_ic dX12_opens_26 ⟨by decide, by decide⟩ ?_
  refine x_iast dX12_opens_27 ar135 ⟨by omega, by omega⟩ ?_
  refine y_ic dX12_opens_28 ⟨by decide, by decide⟩ ?_
  refine x_istore_n (i := 2) dX12_opens_29 rfl rfl (Nat.le_of_ble_eq_true rfl) ?_
  refine x_keep [1, 1, 1] ?_
  obtain ⟨J, hJ⟩ : ∃ J, J = uI (uI (uI (uI I 139 l 0) 140 l 0) 134 l 0) 135 l (-1) := ⟨_, rfl⟩
  rw [← hJ]
  refine hL _ 0 J (Nat.lt_succ_self _) (by decide) (by omega) (fun c c0 c1 => by omega) ?_ ?_ ?_ ?_ ?_ ?_
  · rw [hJ, uI_ne (by decide), uI_ne (by decide), uI_ne (by decide), uI_eq, u1_eq]
  · rw [hJ, uI_ne (by decide), uI_ne (by decide), uI_eq, u1_eq]
  · rw [hJ, uI_ne (by decide), uI_eq, u1_eq]
  · rw [hJ, uI_eq, u1_eq]
  · rw [hJ]; exact (((Fr.rf.ui (by decide) (by decide)).ui (by decide) (by decide)).ui (by decide) (by decide)).ui (by decide) (by decide)
  · rw [hJ]; exact (((LE.rf.ui ⟨fun q => by omega, fun q => by omega, fun _ => by omega, fun q => by omega⟩).ui ⟨fun q => by omega, fun q => by omega, fun _ => by omega, fun q => by omega⟩).ui ⟨fun q => by omega, fun q => by omega, fun _ => by omega, fun q => by omega⟩).ui ⟨fun q => by omega, fun q => by omega, fun _ => by omega, fun q => by omega⟩
abbrev adS : List Nat := [111, 132, 133, 134, 135, 141]
def psD (T : Tn) (dr o z : Int) : Int := (if dr = 0 then 0 else 9 * OFN T) + 9 * o + z
theorem c_X12_advances {l dr o z : Int} {r : Rw} (hW : WP P) (hT : MT I T) (hF : WF T) (hl : 0 ≤ l ∧ l < T 0 6) (hre : ∀ c, 0 ≤ c → c < 48 → I 132 (48 * l + c) = r c) (hr : RW T r) (hd : I 134 l = dr) (hdr : dr = 0 ∨ dr = 1) (ho : 0 ≤ o ∧ o < OFN T) (hz : 0 ≤ z ∧ z ≤ T 0 2) (htr : ∀ k, 0 ≤ k → k < T 0 3 → I 133 (3 * l + k) = OF T o k) (hwi : I 135 l = z - 1) : Cv G mX12_advances (d + 3) 0 0 [.inr (.inl 91), .inl l] NO I P (qI NO (fun x I' P' => P' = P ∧ Fr adS [] I I' ∧ LE l I I' ∧ ((x = 0 ∧ ∀ (g : Rw → Ah → Ah) (e : Ah), posF T r (mnS T l) (mxS T l) g e dr o z = posF T r (mnS T l) (mxS T l) g e 2 0 0) ∨ (x = 1 ∧ ∃ dr' o' z', (dr' = 0 ∨ dr' = 1) ∧ (0 ≤ o' ∧ o' < OFN T) ∧ (0 ≤ z' ∧ z' < T 0 2) ∧ psD T dr o z ≤ psD T dr' o' z' ∧ lawP T r (aD (mnS T l) (mxS T l) dr') (aD (mxS T l) (mnS T l) dr') (OF T o') z' ∧ (∀ (g : Rw → Ah → Ah) (e : Ah), posF T r (mnS T l) (mxS T l) g e dr o z = posF T r (mnS T l) (mxS T l) g e dr' o' z') ∧ I' 134 l = dr' ∧ (∀ k, 0 ≤ k → k < T 0 3 → I' 133 (3 * l + k) = OF T o' k) ∧ I' 135 l = z' ∧ ∀ c, 0 ≤ c → c < 48 → I' 132 (48 * (l + 1) + c) = dealS T r (aD (mnS T l) (mxS T l) dr') (aD (mxS T l) (mnS T l) dr') (OF T o') z' c)))) := by
  have f1 := hF.1
  have f2 := hF.2.1
  have f3 := hF.2.2.1
  have f6 := hF.2.2.2.2.2.1
  have hm6 := meet6 hF hl.1 hl.2
  have hON := OFN_bd hF
  have hmn : (0 ≤ mnS T l ∧ mnS T l < T 0 1) ∧ (0 ≤ mxS T l ∧ mxS T l < T 0 1) ∧ mnS T l ≠ mxS T l := by unfold mnS mxS; omega
  refine x_enter mfX12_advances rfl (Nat.le_of_ble_eq_true rfl) (fun _ => ?_)
  have hL : ∀ (j : Nat) (dr' o' z' : Int) (K : Mem), (2 - dr').toNat < j → (dr' = 0 ∨ dr' = 1 ∨ dr' = 2) → (0 ≤ o' ∧ o' < OFN T) → (0 ≤ z' ∧ z' ≤ T 0 2) → K 134 l = dr' → (∀ k, 0 ≤ k → k < T 0 3 → K 133 (3 * l + k) = OF T o' k) → K 135 l = z' - 1 → RE (K 141) r → Fr adS [] I K → LE l I K → (dr' ≤ 1 → psD T dr o z ≤ psD T dr' o' z') → (∀ (g : Rw → Ah → Ah) (e : Ah), posF T r (mnS T l) (mxS T l) g e dr o z = posF T r (mnS T l) (mxS T l) g e dr' o' z') → V G mX12_advances (d + 3) 0 0 5 [some (.inr (.inl 91)), some (.inl (l)), none, none, none] [] NO K P (qI NO (fun x I' P' => P' = P ∧ Fr adS [] I I' ∧ LE l I I' ∧ ((x = 0 ∧ ∀ (g : Rw → Ah → Ah) (e : Ah), posF T r (mnS T l) (mxS T l) g e dr o z = posF T r (mnS T l) (mxS T l) g e 2 0 0) ∨ (x = 1 ∧ ∃ dr' o' z', (dr' = 0 ∨ dr' = 1) ∧ (0 ≤ o' ∧ o' < OFN T) ∧ (0 ≤ z' ∧ z' < T 0 2) ∧ psD T dr o z ≤ psD T dr' o' z' ∧ lawP T r (aD (mnS T l) (mxS T l) dr') (aD (mxS T l) (mnS T l) dr') (OF T o') z' ∧ (∀ (g : Rw → Ah → Ah) (e : Ah), posF T r (mnS T l) (mxS T l) g e dr o z = posF T r (mnS T l) (mxS T l) g e dr' o' z') ∧ I' 134 l = dr' ∧ (∀ k, 0 ≤ k → k < T 0 3 → I' 133 (3 * l + k) = OF T o' k) ∧ I' 135 l = z' ∧ ∀ c, 0 ≤ c → c < 48 → I' 132 (48 * (l + 1) + c) = dealS T r (aD (mnS T l) (mxS T l) dr') (aD (mxS T l) (mnS T l) dr') (OF T o') z' c)))) := by
    intro j
    induction j with
    | zero => intro dr' o' z' K hj; omega
    | succ j ih =>
      intro dr' o' z' K hj hdr' ho' hz' h134 h133 h135 h141 hFr hLE hps hpos
      have hab : (0 ≤ aD (mnS T l) (mxS T l) dr' ∧ aD (mnS T l) (mxS T l) dr' < T 0 1) ∧ (0 ≤ aD (mxS T l) (mnS T l) dr' ∧ aD (mxS T l) (mnS T l) dr' < T 0 1) ∧ aD (mnS T l) (mxS T l) dr' ≠ aD (mxS T l) (mnS T l) dr' := by unfold aD; split <;> omega
      have hX : dr' ≤ 1 → ∀ K : Mem, K 135 l = -1 → psD T dr o z ≤ psD T dr' (OFN T) 0 → (∀ (g : Rw → Ah → Ah) (e : Ah), posF T r (mnS T l) (mxS T l) g e dr o z = posF T r (mnS T l) (mxS T l) g e (dr' + 1) 0 0) → K 134 l = dr' → RE (K 141) r → Fr adS [] I K → LE l I K → V G mX12_advances (d + 3) 0 0 217 [some (.inr (.inl 91)), some (.inl (l)), none, none, none] [] NO K P (qI NO (fun x I' P' => P' = P ∧ Fr adS [] I I' ∧ LE l I I' ∧ ((x = 0 ∧ ∀ (g : Rw → Ah → Ah) (e : Ah), posF T r (mnS T l) (mxS T l) g e dr o z = posF T r (mnS T l) (mxS T l) g e 2 0 0) ∨ (x = 1 ∧ ∃ dr' o' z', (dr' = 0 ∨ dr' = 1) ∧ (0 ≤ o' ∧ o' < OFN T) ∧ (0 ≤ z' ∧ z' < T 0 2) ∧ psD T dr o z ≤ psD T dr' o' z' ∧ lawP T r (aD (mnS T l) (mxS T l) dr') (aD (mxS T l) (mnS T l) dr') (OF T o') z' ∧ (∀ (g : Rw → Ah → Ah) (e : Ah), posF T r (mnS T l) (mxS T l) g e dr o z = posF T r (mnS T l) (mxS T l) g e dr' o' z') ∧ I' 134 l = dr' ∧ (∀ k, 0 ≤ k → k < T 0 3 → I' 133 (3 * l + k) = OF T o' k) ∧ I' 135 l = z' ∧ ∀ c, 0 ≤ c → c < 48 → I' 132 (48 * (l + 1) + c) = dealS T r (aD (mnS T l) (mxS T l) dr') (aD (mxS T l) (mnS T l) dr') (OF T o') z' c)))) := fun hd1 K h135 hps2 hpos2 h134 h141 hFr hLE => by
        have hT0 : ∀ (j3 : Nat) (k : Int) (K : Mem), (T 0 3 - k).toNat < j3 → 0 ≤ k → k ≤ T 0 3 → (∀ c, 0 ≤ c → c < k → K 133 (3 * l + c) = 0) → K 135 l = -1 → K 134 l = dr' + 1 → RE (K 141) r → Fr adS [] I K → LE l I K → V G mX12_advances (d + 3) 0 0 229 [some (.inr (.inl 91)), some (.inl (l)), none, some (.inl (k)), none] [] NO K P (qI NO (fun x I' P' => P' = P ∧ Fr adS [] I I' ∧ LE l I I' ∧ ((x = 0 ∧ ∀ (g : Rw → Ah → Ah) (e : Ah), posF T r (mnS T l) (mxS T l) g e dr o z = posF T r (mnS T l) (mxS T l) g e 2 0 0) ∨ (x = 1 ∧ ∃ dr' o' z', (dr' = 0 ∨ dr' = 1) ∧ (0 ≤ o' ∧ o' < OFN T) ∧ (0 ≤ z' ∧ z' < T 0 2) ∧ psD T dr o z ≤ psD T dr' o' z' ∧ lawP T r (aD (mnS T l) (mxS T l) dr') (aD (mxS T l) (mnS T l) dr') (OF T o') z' ∧ (∀ (g : Rw → Ah → Ah) (e : Ah), posF T r (mnS T l) (mxS T l) g e dr o z = posF T r (mnS T l) (mxS T l) g e dr' o' z') ∧ I' 134 l = dr' ∧ (∀ k, 0 ≤ k → k < T 0 3 → I' 133 (3 * l + k) = OF T o' k) ∧ I' 135 l = z' ∧ ∀ c, 0 ≤ c → c < 48 → I' 132 (48 * (l + 1) + c) = dealS T r (aD (mnS T l) (mxS T l) dr') (aD (mxS T l) (mnS T l) dr') (OF T o') z' c)))) := by
          intro j3
          induction j3 with
          | zero => intro k K hj; omega
          | succ j3 iht =>
            intro k K hj hk hk2 hc h135 h134 h141 hFr hLE
            have hTK := hT.fr hFr
            have e3 : K 91 3 = T 0 3 := hTK.1 3 (by decide) (by decide)
            refine x_iload_n (i := 3) dX12_advances_229 rfl rfl ?_
            refine y_aln (i := 0) dX12_advances_230 at91.ne0 rfl rfl ?_
            refine y_geti (z := 3) dX12_advances_231 frX12_13 cfX12 at91 rfl rfl ?_
            refine x_icmp_ge (tgt := 254) dX12_advances_234 rfl (fun h234 => ?_) (fun h234 => ?_)
            · refine x_goto (tgt := 5) dX12_advances_254 rfl ?_
              refine x_keep [1, 1, 0, 0, 0] ?_
              exact ih (dr' + 1) 0 0 K (by omega) (by omega) ⟨by decide, by omega⟩ ⟨by decide, by omega⟩ h134 (fun c c0 c1 => by rw [OF_0 hF c0 c1]; exact hc c c0 (by omega)) (by omega) h141 hFr hLE (fun q => by unfold psD at hps2 ⊢; rw [if_neg (show ¬ dr' + 1 = 0 by omega)]; rw [if_pos (show dr' = 0 by omega)] at hps2; omega) hpos2
            · refine y_aln (i := 0) dX12_advances_237 at91.ne0 rfl rfl ?_
              refine y_getp (z := 80) (v := 133) dX12_advances_238 frX12_148 cfX12 at91 rfl rfl (wp (v := 133) hW rfl rfl (by decide)) ?_
              refine y_ic dX12_advances_241 ⟨by decide, by decide⟩ ?_
              refine x_iload_n (i := 1) dX12_advances_242 rfl rfl ?_
              refine x_imul dX12_advances_243 ⟨by omega, by omega⟩ ?_
              refine x_iload_n (i := 3) dX12_advances_244 rfl rfl ?_
              refine x_iadd dX12_advances_245 ⟨by omega, by omega⟩ ?_
              refine y_ic dX12_advances_246 ⟨by decide, by decide⟩ ?_
              refine x_iast dX12_advances_247 ar133 ⟨by omega, by omega⟩ ?_
              refine x_iinc dX12_advances_248 rfl ⟨by omega, by omega⟩ rfl (Nat.le_of_ble_eq_true rfl) ?_
              refine x_goto (tgt := 229) dX12_advances_251 rfl ?_
              refine x_keep [1, 1, 0, 1, 0] ?_
              refine iht (k + 1) _ (by omega) (by omega) (by omega) (fun c c0 c1 => ?_) (by rw [uI_ne (by decide)]; exact h135) (by rw [uI_ne (by decide)]; exact h134) (by rw [uI_ne (by decide)]; exact h141) (hFr.ui (by decide) (by decide)) (hLE.ui ⟨fun q => by omega, fun _ => by omega, fun q => by omega, fun q => by omega⟩)
              rw [uI_eq]
              by_cases e : c = k
              · rw [e, u1_eq]
              · rw [u1_ne (by omega)]; exact hc c c0 (by omega)
        refine y_aln (i := 0) dX12_advances_217 at91.ne0 rfl rfl ?_
        refine y_getp (z := 81) (v := 134) dX12_advances_218 frX12_151 cfX12 at91 rfl rfl (wp (v := 134) hW rfl rfl (by decide)) ?_
        refine x_iload_n (i := 1) dX12_advances_221 rfl rfl ?_
        refine x_dup2 dX12_advances_222 rfl rfl ?_
        refine x_iald dX12_advances_223 ar134 ⟨by omega, by omega⟩ ?_
        refine y_ic dX12_advances_224 ⟨by decide, by decide⟩ ?_
        rw [h134]
        refine x_iadd dX12_advances_225 ⟨by omega, by omega⟩ ?_
        refine x_iast dX12_advances_226 ar134 ⟨by omega, by omega⟩ ?_
        refine y_ic dX12_advances_227 ⟨by decide, by decide⟩ ?_
        refine x_istore_n (i := 3) dX12_advances_228 rfl rfl (Nat.le_of_ble_eq_true rfl) ?_
        refine x_keep [1, 1, 0, 1, 0] ?_
        exact hT0 _ 0 _ (Nat.lt_succ_self _) (by decide) (by omega) (fun c c0 c1 => by omega) (by rw [uI_ne (by decide)]; exact h135) (by rw [uI_eq, u1_eq]) (by rw [uI_ne (by decide)]; exact h141) (hFr.ui (by decide) (by decide)) (hLE.ui ⟨fun q => by omega, fun q => by omega, fun _ => by omega, fun q => by omega⟩)
      have hM : dr' ≤ 1 → ∀ (j2 : Nat) (o2 z2 more : Int) (K : Mem), (OFN T - o2).toNat < j2 → ((more = 1 ∧ (0 ≤ o2 ∧ o2 < OFN T) ∧ (0 ≤ z2 ∧ z2 ≤ T 0 2) ∧ K 135 l = z2 - 1 ∧ (∀ k, 0 ≤ k → k < T 0 3 → K 111 k = OF T o2 k) ∧ psD T dr o z ≤ psD T dr' o2 z2 ∧ ∀ (g : Rw → Ah → Ah) (e : Ah), posF T r (mnS T l) (mxS T l) g e dr o z = posF T r (mnS T l) (mxS T l) g e dr' o2 z2) ∨ (more = 0 ∧ K 135 l = -1 ∧ psD T dr o z ≤ psD T dr' (OFN T) 0 ∧ ∀ (g : Rw → Ah → Ah) (e : Ah), posF T r (mnS T l) (mxS T l) g e dr o z = posF T r (mnS T l) (mxS T l) g e (dr' + 1) 0 0)) → K 134 l = dr' → RE (K 141) r → Fr adS [] I K → LE l I K → V G mX12_advances (d + 3) 0 0 49 [some (.inr (.inl 91)), some (.inl (l)), some (.inl (more)), none, none] [] NO K P (qI NO (fun x I' P' => P' = P ∧ Fr adS [] I I' ∧ LE l I I' ∧ ((x = 0 ∧ ∀ (g : Rw → Ah → Ah) (e : Ah), posF T r (mnS T l) (mxS T l) g e dr o z = posF T r (mnS T l) (mxS T l) g e 2 0 0) ∨ (x = 1 ∧ ∃ dr' o' z', (dr' = 0 ∨ dr' = 1) ∧ (0 ≤ o' ∧ o' < OFN T) ∧ (0 ≤ z' ∧ z' < T 0 2) ∧ psD T dr o z ≤ psD T dr' o' z' ∧ lawP T r (aD (mnS T l) (mxS T l) dr') (aD (mxS T l) (mnS T l) dr') (OF T o') z' ∧ (∀ (g : Rw → Ah → Ah) (e : Ah), posF T r (mnS T l) (mxS T l) g e dr o z = posF T r (mnS T l) (mxS T l) g e dr' o' z') ∧ I' 134 l = dr' ∧ (∀ k, 0 ≤ k → k < T 0 3 → I' 133 (3 * l + k) = OF T o' k) ∧ I' 135 l = z' ∧ ∀ c, 0 ≤ c → c < 48 → I' 132 (48 * (l + 1) + c) = dealS T r (aD (mnS T l) (mxS T l) dr') (aD (mxS T l) (mnS T l) dr') (OF T o') z' c)))) := by
        intro hd1 j2
        have hd01 : dr' = 0 ∨ dr' = 1 := by omega
        induction j2 with
        | zero => intro o2 z2 more K hj; omega
        | succ j2 ihm =>
          intro o2 z2 more K hj hc h134 h141 hFr hLE
          have hms : o2 < OFN T → (OFN T - (o2 + 1)).toNat < j2 := fun q => by omega
          have hZ : more = 1 → (0 ≤ o2 ∧ o2 < OFN T) → ∀ (j3 : Nat) (z3 : Int) (K : Mem), (T 0 2 - z3).toNat < j3 → (0 ≤ z3 ∧ z3 ≤ T 0 2) → (∀ k, 0 ≤ k → k < T 0 3 → K 111 k = OF T o2 k) → psD T dr o z ≤ psD T dr' o2 z3 → (∀ (g : Rw → Ah → Ah) (e : Ah), posF T r (mnS T l) (mxS T l) g e dr o z = posF T r (mnS T l) (mxS T l) g e dr' o2 z3) → K 134 l = dr' → RE (K 141) r → Fr adS [] I K → LE l I K → V G mX12_advances (d + 3) 0 0 62 [some (.inr (.inl 91)), some (.inl (l)), none, some (.inl (z3)), none] [] NO K P (qI NO (fun x I' P' => P' = P ∧ Fr adS [] I I' ∧ LE l I I' ∧ ((x = 0 ∧ ∀ (g : Rw → Ah → Ah) (e : Ah), posF T r (mnS T l) (mxS T l) g e dr o z = posF T r (mnS T l) (mxS T l) g e 2 0 0) ∨ (x = 1 ∧ ∃ dr' o' z', (dr' = 0 ∨ dr' = 1) ∧ (0 ≤ o' ∧ o' < OFN T) ∧ (0 ≤ z' ∧ z' < T 0 2) ∧ psD T dr o z ≤ psD T dr' o' z' ∧ lawP T r (aD (mnS T l) (mxS T l) dr') (aD (mxS T l) (mnS T l) dr') (OF T o') z' ∧ (∀ (g : Rw → Ah → Ah) (e : Ah), posF T r (mnS T l) (mxS T l) g e dr o z = posF T r (mnS T l) (mxS T l) g e dr' o' z') ∧ I' 134 l = dr' ∧ (∀ k, 0 ≤ k → k < T 0 3 → I' 133 (3 * l + k) = OF T o' k) ∧ I' 135 l = z' ∧ ∀ c, 0 ≤ c → c < 48 → I' 132 (48 * (l + 1) + c) = dealS T r (aD (mnS T l) (mxS T l) dr') (aD (mxS T l) (mnS T l) dr') (OF T o') z' c)))) := by
            intro hm1 ho2 j3
            induction j3 with
            | zero => intro z3 K hj; omega
            | succ j3 ihz =>
              intro z3 K hj hz3 hg hps3 hpos3 h134 h141 hFr hLE
              have hTK := hT.fr hFr
              have e2 : K 91 2 = T 0 2 := hTK.1 2 (by decide) (by decide)
              have hg8 : ∀ k, 0 ≤ k → k < T 0 3 → 0 ≤ K 111 k ∧ K 111 k < 8 := fun k k0 k1 => by rw [hg k k0 k1]; exact OF8 hF ho2 k0 k1
              have hrc := h141.sy.rc hr.rc
              have hS : z3 < T 0 2 → lawP T r (aD (mnS T l) (mxS T l) dr') (aD (mxS T l) (mnS T l) dr') (OF T o2) z3 → ∀ (j4 : Nat) (k : Int) (K : Mem), (T 0 3 - k).toNat < j4 → 0 ≤ k → k ≤ T 0 3 → (∀ c, 0 ≤ c → c < k → K 133 (3 * l + c) = OF T o2 c) → K 135 l = z3 → (∀ k, 0 ≤ k → k < T 0 3 → K 111 k = OF T o2 k) → K 134 l = dr' → RE (K 141) r → Fr adS [] I K → LE l I K → V G mX12_advances (d + 3) 0 0 105 [some (.inr (.inl 91)), some (.inl (l)), none, some (.inl (z3)), some (.inl (k))] [] NO K P (qI NO (fun x I' P' => P' = P ∧ Fr adS [] I I' ∧ LE l I I' ∧ ((x = 0 ∧ ∀ (g : Rw → Ah → Ah) (e : Ah), posF T r (mnS T l) (mxS T l) g e dr o z = posF T r (mnS T l) (mxS T l) g e 2 0 0) ∨ (x = 1 ∧ ∃ dr' o' z', (dr' = 0 ∨ dr' = 1) ∧ (0 ≤ o' ∧ o' < OFN T) ∧ (0 ≤ z' ∧ z' < T 0 2) ∧ psD T dr o z ≤ psD T dr' o' z' ∧ lawP T r (aD (mnS T l) (mxS T l) dr') (aD (mxS T l) (mnS T l) dr') (OF T o') z' ∧ (∀ (g : Rw → Ah → Ah) (e : Ah), posF T r (mnS T l) (mxS T l) g e dr o z = posF T r (mnS T l) (mxS T l) g e dr' o' z') ∧ I' 134 l = dr' ∧ (∀ k, 0 ≤ k → k < T 0 3 → I' 133 (3 * l + k) = OF T o' k) ∧ I' 135 l = z' ∧ ∀ c, 0 ≤ c → c < 48 → I' 132 (48 * (l + 1) + c) = dealS T r (aD (mnS T l) (mxS T l) dr') (aD (mxS T l) (mnS T l) dr') (OF T o') z' c)))) := by
                intro hz4 hlaw j4
                induction j4 with
                | zero => intro k K hj; omega
                | succ j4 ihs =>
                  intro k K hj hk hk2 hc h135 hg h134 h141 hFr hLE
                  have hTK := hT.fr hFr
                  have e3 : K 91 3 = T 0 3 := hTK.1 3 (by decide) (by decide)
                  have hg8 : ∀ k, 0 ≤ k → k < T 0 3 → 0 ≤ K 111 k ∧ K 111 k < 8 := fun k k0 k1 => by rw [hg k k0 k1]; exact OF8 hF ho2 k0 k1
                  have hrc := h141.sy.rc hr.rc
                  have hR : ∀ (j5 : Nat) (c : Int) (K : Mem), (48 - c).toNat < j5 → 0 ≤ c → c ≤ 48 → (∀ x, 0 ≤ x → x < c → K 132 (48 * (l + 1) + x) = dealS T r (aD (mnS T l) (mxS T l) dr') (aD (mxS T l) (mnS T l) dr') (OF T o2) z3 x) → RE (K 141) (dealS T r (aD (mnS T l) (mxS T l) dr') (aD (mxS T l) (mnS T l) dr') (OF T o2) z3) → (∀ c, 0 ≤ c → c < T 0 3 → K 133 (3 * l + c) = OF T o2 c) → K 135 l = z3 → K 134 l = dr' → Fr adS [] I K → LE l I K → V G mX12_advances (d + 3) 0 0 160 [some (.inr (.inl 91)), some (.inl (l)), none, none, some (.inl (c))] [] NO K P (qI NO (fun x I' P' => P' = P ∧ Fr adS [] I I' ∧ LE l I I' ∧ ((x = 0 ∧ ∀ (g : Rw → Ah → Ah) (e : Ah), posF T r (mnS T l) (mxS T l) g e dr o z = posF T r (mnS T l) (mxS T l) g e 2 0 0) ∨ (x = 1 ∧ ∃ dr' o' z', (dr' = 0 ∨ dr' = 1) ∧ (0 ≤ o' ∧ o' < OFN T) ∧ (0 ≤ z' ∧ z' < T 0 2) ∧ psD T dr o z ≤ psD T dr' o' z' ∧ lawP T r (aD (mnS T l) (mxS T l) dr') (aD (mxS T l) (mnS T l) dr') (OF T o') z' ∧ (∀ (g : Rw → Ah → Ah) (e : Ah), posF T r (mnS T l) (mxS T l) g e dr o z = posF T r (mnS T l) (mxS T l) g e dr' o' z') ∧ I' 134 l = dr' ∧ (∀ k, 0 ≤ k → k < T 0 3 → I' 133 (3 * l + k) = OF T o' k) ∧ I' 135 l = z' ∧ ∀ c, 0 ≤ c → c < 48 → I' 132 (48 * (l + 1) + c) = dealS T r (aD (mnS T l) (mxS T l) dr') (aD (mxS T l) (mnS T l) dr') (OF T o') z' c)))) := by
                    intro j5
                    induction j5 with
                    | zero => intro c K hj; omega
                    | succ j5 ihr =>
                      intro c K hj hc0 hc48 hx hRE h133 h135 h134 hFr hLE
                      refine x_iload (i := 4) dX12_advances_160 rfl ?_
                      refine y_bi dX12_advances_162 ⟨by decide, by decide⟩ ?_
                      refine x_icmp_ge (tgt := 194) dX12_advances_164 rfl (fun h164 => ?_) (fun h164 => ?_)
                      · refine y_ic dX12_advances_194 ⟨by decide, by decide⟩ ?_
                        refine x_zret dX12_advances_195 (by omega) rfl ?_
                        exact ⟨rfl, hFr, hLE, Or.inr ⟨rfl, dr', o2, z3, hd01, ho2, ⟨hz3.1, hz4⟩, hps3, hlaw, hpos3, h134, h133, h135, fun x x0 x1 => hx x x0 (by omega)⟩⟩
                      · refine y_aln (i := 0) dX12_advances_167 at91.ne0 rfl rfl ?_
                        refine y_getp (z := 79) (v := 132) dX12_advances_168 frX12_145 cfX12 at91 rfl rfl (wp (v := 132) hW rfl rfl (by decide)) ?_
                        refine y_bi dX12_advances_171 ⟨by decide, by decide⟩ ?_
                        refine x_iload_n (i := 1) dX12_advances_173 rfl rfl ?_
                        refine y_ic dX12_advances_174 ⟨by decide, by decide⟩ ?_
                        refine x_iadd dX12_advances_175 ⟨by omega, by omega⟩ ?_
                        refine x_imul dX12_advances_176 ⟨by omega, by omega⟩ ?_
                        refine x_iload (i := 4) dX12_advances_177 rfl ?_
                        refine x_iadd dX12_advances_179 ⟨by omega, by omega⟩ ?_
                        refine y_aln (i := 0) dX12_advances_180 at91.ne0 rfl rfl ?_
                        refine y_getp (z := 88) (v := 141) dX12_advances_181 frX12_172 cfX12 at91 rfl rfl (wp (v := 141) hW rfl rfl (by decide)) ?_
                        refine x_iload (i := 4) dX12_advances_184 rfl ?_
                        refine x_iald dX12_advances_186 ar141 ⟨by omega, by omega⟩ ?_
                        rw [hRE c hc0 (by omega)]
                        refine x_iast dX12_advances_187 ar132 ⟨by omega, by omega⟩ ?_
                        refine x_iinc dX12_advances_188 rfl ⟨by omega, by omega⟩ rfl (Nat.le_of_ble_eq_true rfl) ?_
                        refine x_goto (tgt := 160) dX12_advances_191 rfl ?_
                        refine x_keep [1, 1, 0, 0, 1] ?_
                        refine ihr (c + 1) _ (by omega) (by omega) (by omega) (fun x x0 x1 => ?_) (by rw [uI_ne (by decide)]; exact hRE) (by rw [uI_ne (by decide)]; exact h133) (by rw [uI_ne (by decide)]; exact h135) (by rw [uI_ne (by decide)]; exact h134) (hFr.ui (by decide) (by decide)) (hLE.ui ⟨fun _ => by omega, fun q => by omega, fun q => by omega, fun q => by omega⟩)
                        rw [uI_eq]
                        by_cases e : x = c
                        · rw [e, u1_eq]
                        · rw [u1_ne (by omega)]; exact hx x x0 (by omega)
                  refine x_iload (i := 4) dX12_advances_105 rfl ?_
                  refine y_aln (i := 0) dX12_advances_107 at91.ne0 rfl rfl ?_
                  refine y_geti (z := 3) dX12_advances_108 frX12_13 cfX12 at91 rfl rfl ?_
                  refine x_icmp_ge (tgt := 138) dX12_advances_111 rfl (fun h111 => ?_) (fun h111 => ?_)
                  · refine y_aln (i := 0) dX12_advances_138 at91.ne0 rfl rfl ?_
                    refine y_aln (i := 0) dX12_advances_139 at91.ne0 rfl rfl ?_
                    refine y_getp (z := 88) (v := 141) dX12_advances_140 frX12_172 cfX12 at91 rfl rfl (wp (v := 141) hW rfl rfl (by decide)) ?_
                    refine y_aln (i := 0) dX12_advances_143 at91.ne0 rfl rfl ?_
                    refine x_iload_n (i := 1) dX12_advances_144 rfl rfl ?_
                    refine x_callVI (c_X12_giver hW hTK ⟨hl.1, by omega⟩ (by omega)) dX12_advances_145 lkX12_501 mfX12_giver cfX12 at91 rfl rfl rfl rfl (Nat.le_of_ble_eq_true rfl) (fun r145 I145 P145 hr145 hf145 => ?_)
                    obtain ⟨i145, p145, q145⟩ := hf145
                    rw [i145, p145, q145]
                    rw [h134]
                    refine y_aln (i := 0) dX12_advances_148 at91.ne0 rfl rfl ?_
                    refine x_iload_n (i := 1) dX12_advances_149 rfl rfl ?_
                    refine x_callVI (c_X12_taker hW hTK ⟨hl.1, by omega⟩ hm6.2.2 (by omega)) dX12_advances_150 lkX12_507 mfX12_taker cfX12 at91 rfl rfl rfl rfl (Nat.le_of_ble_eq_true rfl) (fun r150 I150 P150 hr150 hf150 => ?_)
                    obtain ⟨i150, p150, q150⟩ := hf150
                    rw [i150, p150, q150]
                    rw [h134]
                    refine x_iload_n (i := 3) dX12_advances_153 rfl rfl ?_
                    refine x_callVV (c_X12_trades hW hTK hF ar141 hrc (by omega) (by omega) (by omega) hg8) dX12_advances_154 lkX12_389 mfX12_trades cfX12 at91 rfl rfl rfl rfl (Nat.le_of_ble_eq_true rfl) (fun n154 I154 P154 hf154 => ?_)
                    obtain ⟨rfl, hI154, rfl⟩ := hf154
                    have hFr1 : Fr adS [] I I154 := by rw [hI154]; exact hFr.ua (by decide) (by decide)
                    have hLE1 : LE l I I154 := hLE.fr (S := [141]) (F := []) (by rw [hI154]; exact Fr.rf.ua (by decide) (by decide))
                    have hRE1 : RE (I154 141) (dealS T r (aD (mnS T l) (mxS T l) dr') (aD (mxS T l) (mnS T l) dr') (OF T o2) z3) := by
                      rw [hI154, uA_eq, dealS_congr hF hg]
                      exact h141.deal
                    refine y_ic dX12_advances_157 ⟨by decide, by decide⟩ ?_
                    refine x_istore (i := 4) dX12_advances_158 rfl (Nat.le_of_ble_eq_true rfl) ?_
                    refine x_keep [1, 1, 0, 0, 1] ?_
                    exact hR _ 0 I154 (Nat.lt_succ_self _) (by decide) (by decide) (fun x x0 x1 => by omega) hRE1 (fun c c0 c1 => by rw [hI154, uA_ne (by decide)]; exact hc c c0 (by omega)) (by rw [hI154, uA_ne (by decide)]; exact h135) (by rw [hI154, uA_ne (by decide)]; exact h134) hFr1 hLE1
                  · refine y_aln (i := 0) dX12_advances_114 at91.ne0 rfl rfl ?_
                    refine y_getp (z := 80) (v := 133) dX12_advances_115 frX12_148 cfX12 at91 rfl rfl (wp (v := 133) hW rfl rfl (by decide)) ?_
                    refine y_ic dX12_advances_118 ⟨by decide, by decide⟩ ?_
                    refine x_iload_n (i := 1) dX12_advances_119 rfl rfl ?_
                    refine x_imul dX12_advances_120 ⟨by omega, by omega⟩ ?_
                    refine x_iload (i := 4) dX12_advances_121 rfl ?_
                    refine x_iadd dX12_advances_123 ⟨by omega, by omega⟩ ?_
                    refine y_aln (i := 0) dX12_advances_124 at91.ne0 rfl rfl ?_
                    refine y_getp (z := 45) (v := 111) dX12_advances_125 frX12_81 cfX12 at91 rfl rfl (wp (v := 111) hW rfl rfl (by decide)) ?_
                    refine x_iload (i := 4) dX12_advances_128 rfl ?_
                    refine x_iald dX12_advances_130 ar111 ⟨by omega, by omega⟩ ?_
                    rw [hg k hk (by omega)]
                    refine x_iast dX12_advances_131 ar133 ⟨by omega, by omega⟩ ?_
                    refine x_iinc dX12_advances_132 rfl ⟨by omega, by omega⟩ rfl (Nat.le_of_ble_eq_true rfl) ?_
                    refine x_goto (tgt := 105) dX12_advances_135 rfl ?_
                    refine x_keep [1, 1, 0, 1, 1] ?_
                    refine ihs (k + 1) _ (by omega) (by omega) (by omega) (fun c c0 c1 => ?_) (by rw [uI_ne (by decide)]; exact h135) (by rw [uI_ne (by decide)]; exact hg) (by rw [uI_ne (by decide)]; exact h134) (by rw [uI_ne (by decide)]; exact h141) (hFr.ui (by decide) (by decide)) (hLE.ui ⟨fun q => by omega, fun _ => by omega, fun q => by omega, fun q => by omega⟩)
                    rw [uI_eq]
                    by_cases e : c = k
                    · rw [e, u1_eq]
                    · rw [u1_ne (by omega)]; exact hc c c0 (by omega)
              refine x_iload_n (i := 3) dX12_advances_62 rfl rfl ?_
              refine y_aln (i := 0) dX12_advances_63 at91.ne0 rfl rfl ?_
              refine y_geti (z := 2) dX12_advances_64 frX12_7 cfX12 at91 rfl rfl ?_
              refine x_icmp_ge (tgt := 202) dX12_advances_67 rfl (fun h67 => ?_) (fun h67 => ?_)
              · refine y_aln (i := 0) dX12_advances_202 at91.ne0 rfl rfl ?_
                refine y_getp (z := 82) (v := 135) dX12_advances_203 frX12_154 cfX12 at91 rfl rfl (wp (v := 135) hW rfl rfl (by decide)) ?_
                refine x_iload_n (i := 1) dX12_advances_206 rfl rfl ?_
                refine y_ic dX12_advances_207 ⟨by decide, by decide⟩ ?_
                refine x_iast dX12_advances_208 ar135 ⟨by omega, by omega⟩ ?_
                refine y_aln (i := 0) dX12_advances_209 at91.ne0 rfl rfl ?_
                have hFr0 : Fr adS [] I (uI K 135 l (-1)) := hFr.ui (by decide) (by decide)
                refine x_callVI (c_X12_turns hW (hT.fr hFr0) hF (by rw [uI_ne (by decide)]; exact hg8)) dX12_advances_210 lkX12_443 mfX12_turns cfX12 at91 rfl rfl rfl rfl (Nat.le_of_ble_eq_true rfl) (fun r210 I210 P210 hr210 hf210 => ?_)
                obtain ⟨rfl, h210⟩ := hf210
                have fr210 : Fr [111] [] (uI K 135 l (-1)) I210 := by
                  rcases h210 with ⟨_, h, _⟩ | ⟨_, k, _, _, _, _, h⟩
                  · rw [h]; exact Fr.rf
                  · rw [h]; exact Fr.rf.ua (by decide) (by decide)
                have ez : z3 = T 0 2 := by omega
                have w1 : I210 135 l = -1 := by rw [fr210.1 135 (by decide) (by decide), uI_eq, u1_eq]
                have w2 : I210 134 l = dr' := by rw [fr210.1 134 (by decide) (by decide), uI_ne (by decide)]; exact h134
                have w3 : RE (I210 141) r := by rw [fr210.1 141 (by decide) (by decide), uI_ne (by decide)]; exact h141
                have w4 : LE l I I210 := (hLE.ui (v := -1) ⟨fun q => by omega, fun q => by omega, fun _ => by omega, fun q => by omega⟩).fr fr210
                refine x_istore_n (i := 2) dX12_advances_213 rfl rfl (Nat.le_of_ble_eq_true rfl) ?_
                refine x_goto (tgt := 49) dX12_advances_214 rfl ?_
                refine x_keep [1, 1, 1, 0, 0] ?_
                refine ihm (o2 + 1) 0 r210 I210 (hms ho2.2) ?_ w2 w3 (hFr0.tr (fr210.mo (by decide) (by decide))) w4
                rcases h210 with ⟨q1, q2, q3⟩ | ⟨q1, k, k0, k1, k2, k3, q4⟩
                · have hend := OF_none hF ho2.1 ho2.2 (fun j h0 hj => by rw [← hg j h0 hj]; have := q3 j h0 hj; rw [uI_ne (by decide)] at this; exact this)
                  refine Or.inr ⟨q1, w1, by unfold psD at hps3 ⊢; omega, fun g e => ?_⟩
                  rw [hpos3 g e, ez, posF_o hd01 ho2.1, hend, posF_d hd01]
                · have hk := OF_some hF ho2.1 ho2.2 k0 k1 (fun j h0 hj => by rw [← hg j (by omega) hj]; have := k3 j h0 hj; rw [uI_ne (by decide)] at this; exact this) (by rw [← hg k k0 k1]; rw [uI_ne (by decide)] at k2; exact k2)
                  refine Or.inl ⟨q1, ⟨by omega, hk.1⟩, ⟨by decide, by omega⟩, by omega, fun j h0 hj => ?_, by unfold psD at hps3 ⊢; omega, fun g e => by rw [hpos3 g e, ez, posF_o hd01 ho2.1]⟩
                  rw [q4, uA_eq, hk.2 j h0 hj, uI_ne (by decide)]
                  by_cases q : j < k
                  · rw [if_pos q, if_neg (by omega)]; exact hg j h0 hj
                  · rw [if_neg q, if_pos (by omega), hg k k0 k1]
              · refine y_aln (i := 0) dX12_advances_70 at91.ne0 rfl rfl ?_
                refine y_aln (i := 0) dX12_advances_71 at91.ne0 rfl rfl ?_
                refine y_getp (z := 88) (v := 141) dX12_advances_72 frX12_172 cfX12 at91 rfl rfl (wp (v := 141) hW rfl rfl (by decide)) ?_
                refine y_aln (i := 0) dX12_advances_75 at91.ne0 rfl rfl ?_
                refine x_iload_n (i := 1) dX12_advances_76 rfl rfl ?_
                refine x_callVI (c_X12_giver hW hTK ⟨hl.1, by omega⟩ (by omega)) dX12_advances_77 lkX12_501 mfX12_giver cfX12 at91 rfl rfl rfl rfl (Nat.le_of_ble_eq_true rfl) (fun r77 I77 P77 hr77 hf77 => ?_)
                obtain ⟨i77, p77, q77⟩ := hf77
                rw [i77, p77, q77]
                rw [h134]
                refine y_aln (i := 0) dX12_advances_80 at91.ne0 rfl rfl ?_
                refine x_iload_n (i := 1) dX12_advances_81 rfl rfl ?_
                refine x_callVI (c_X12_taker hW hTK ⟨hl.1, by omega⟩ hm6.2.2 (by omega)) dX12_advances_82 lkX12_507 mfX12_taker cfX12 at91 rfl rfl rfl rfl (Nat.le_of_ble_eq_true rfl) (fun r82 I82 P82 hr82 hf82 => ?_)
                obtain ⟨i82, p82, q82⟩ := hf82
                rw [i82, p82, q82]
                rw [h134]
                refine x_iload_n (i := 3) dX12_advances_85 rfl rfl ?_
                refine x_callVI (c_X12_isLawful hW hTK hF ar141 hrc (by omega) (by omega) (by omega) hg8) dX12_advances_86 lkX12_385 mfX12_isLawful cfX12 at91 rfl rfl rfl rfl (Nat.le_of_ble_eq_true rfl) (fun r86 I86 P86 hr86 hf86 => ?_)
                obtain ⟨i86, p86, q86⟩ := hf86
                rw [i86, p86]
                rw [h141.law hF hab.1 hab.2.1 ⟨hz3.1, by omega⟩ hg8, lawP_congr hg] at q86
                refine x_if_ne (tgt := 95) dX12_advances_89 rfl (fun h89 => ?_) (fun h89 => ?_)
                · refine y_aln (i := 0) dX12_advances_95 at91.ne0 rfl rfl ?_
                  refine y_getp (z := 82) (v := 135) dX12_advances_96 frX12_154 cfX12 at91 rfl rfl (wp (v := 135) hW rfl rfl (by decide)) ?_
                  refine x_iload_n (i := 1) dX12_advances_99 rfl rfl ?_
                  refine x_iload_n (i := 3) dX12_advances_100 rfl rfl ?_
                  refine x_iast dX12_advances_101 ar135 ⟨by omega, by omega⟩ ?_
                  refine y_ic dX12_advances_102 ⟨by decide, by decide⟩ ?_
                  refine x_istore (i := 4) dX12_advances_103 rfl (Nat.le_of_ble_eq_true rfl) ?_
                  refine x_keep [1, 1, 0, 1, 1] ?_
                  have hlaw := (q86.resolve_right (fun q => by have := q.1; omega)).2
                  exact hS (by omega) hlaw _ 0 _ (Nat.lt_succ_self _) (by decide) (by omega) (fun c c0 c1 => by omega) (by rw [uI_eq, u1_eq]) (by rw [uI_ne (by decide)]; exact hg) (by rw [uI_ne (by decide)]; exact h134) (by rw [uI_ne (by decide)]; exact h141) (hFr.ui (by decide) (by decide)) (hLE.ui ⟨fun q => by omega, fun q => by omega, fun _ => by omega, fun q => by omega⟩)
                · refine x_goto (tgt := 196) dX12_advances_92 rfl ?_
                  refine x_iinc dX12_advances_196 rfl ⟨by omega, by omega⟩ rfl (Nat.le_of_ble_eq_true rfl) ?_
                  refine x_goto (tgt := 62) dX12_advances_199 rfl ?_
                  refine x_keep [1, 1, 0, 1, 0] ?_
                  have hno := (q86.resolve_left (fun q => by have := q.1; omega)).2
                  exact ihz (z3 + 1) K (by omega) (by omega) hg (by unfold psD at hps3 ⊢; omega) (fun g e => by rw [hpos3 g e, posF_no hd01 hz3.1 hno]) h134 h141 hFr hLE
          refine x_iload_n (i := 2) dX12_advances_49 rfl rfl ?_
          refine x_if_eq (tgt := 217) dX12_advances_50 rfl (fun h50 => ?_) (fun h50 => ?_)
          · obtain ⟨-, c1, c2, c3⟩ := hc.resolve_left (fun q => by have := q.1; omega)
            refine x_keep [1, 1, 0, 0, 0] ?_
            exact hX hd1 K c1 c2 c3 h134 h141 hFr hLE
          · obtain ⟨c0, c1, c2, c3, c4, c5, c6⟩ := hc.resolve_right (fun q => by have := q.1; omega)
            refine y_aln (i := 0) dX12_advances_53 at91.ne0 rfl rfl ?_
            refine y_getp (z := 82) (v := 135) dX12_advances_54 frX12_154 cfX12 at91 rfl rfl (wp (v := 135) hW rfl rfl (by decide)) ?_
            refine x_iload_n (i := 1) dX12_advances_57 rfl rfl ?_
            refine x_iald dX12_advances_58 ar135 ⟨by omega, by omega⟩ ?_
            refine y_ic dX12_advances_59 ⟨by decide, by decide⟩ ?_
            refine x_iadd dX12_advances_60 ⟨by omega, by omega⟩ ?_
            refine x_istore_n (i := 3) dX12_advances_61 rfl rfl (Nat.le_of_ble_eq_true rfl) ?_
            refine x_keep [1, 1, 0, 1, 0] ?_
            rw [show K 135 l + 1 = z2 by omega]
            exact hZ c0 c1 _ z2 K (Nat.lt_succ_self _) c2 c4 c5 c6 h134 h141 hFr hLE
      have hGv : dr' ≤ 1 → ∀ (j3 : Nat) (k : Int) (K : Mem), (T 0 3 - k).toNat < j3 → 0 ≤ k → k ≤ T 0 3 → (∀ c, 0 ≤ c → c < k → K 111 c = OF T o' c) → K 134 l = dr' → (∀ k, 0 ≤ k → k < T 0 3 → K 133 (3 * l + k) = OF T o' k) → K 135 l = z' - 1 → RE (K 141) r → Fr adS [] I K → LE l I K → V G mX12_advances (d + 3) 0 0 17 [some (.inr (.inl 91)), some (.inl (l)), some (.inl (k)), none, none] [] NO K P (qI NO (fun x I' P' => P' = P ∧ Fr adS [] I I' ∧ LE l I I' ∧ ((x = 0 ∧ ∀ (g : Rw → Ah → Ah) (e : Ah), posF T r (mnS T l) (mxS T l) g e dr o z = posF T r (mnS T l) (mxS T l) g e 2 0 0) ∨ (x = 1 ∧ ∃ dr' o' z', (dr' = 0 ∨ dr' = 1) ∧ (0 ≤ o' ∧ o' < OFN T) ∧ (0 ≤ z' ∧ z' < T 0 2) ∧ psD T dr o z ≤ psD T dr' o' z' ∧ lawP T r (aD (mnS T l) (mxS T l) dr') (aD (mxS T l) (mnS T l) dr') (OF T o') z' ∧ (∀ (g : Rw → Ah → Ah) (e : Ah), posF T r (mnS T l) (mxS T l) g e dr o z = posF T r (mnS T l) (mxS T l) g e dr' o' z') ∧ I' 134 l = dr' ∧ (∀ k, 0 ≤ k → k < T 0 3 → I' 133 (3 * l + k) = OF T o' k) ∧ I' 135 l = z' ∧ ∀ c, 0 ≤ c → c < 48 → I' 132 (48 * (l + 1) + c) = dealS T r (aD (mnS T l) (mxS T l) dr') (aD (mxS T l) (mnS T l) dr') (OF T o') z' c)))) := by
        intro hd1 j3
        induction j3 with
        | zero => intro k K hj; omega
        | succ j3 ihg =>
          intro k K hj hk hk2 hc h134 h133 h135 h141 hFr hLE
          have hTK := hT.fr hFr
          have e3 : K 91 3 = T 0 3 := hTK.1 3 (by decide) (by decide)
          refine x_iload_n (i := 2) dX12_advances_17 rfl rfl ?_
          refine y_aln (i := 0) dX12_advances_18 at91.ne0 rfl rfl ?_
          refine y_geti (z := 3) dX12_advances_19 frX12_13 cfX12 at91 rfl rfl ?_
          refine x_icmp_ge (tgt := 47) dX12_advances_22 rfl (fun h22 => ?_) (fun h22 => ?_)
          · refine y_ic dX12_advances_47 ⟨by decide, by decide⟩ ?_
            refine x_istore_n (i := 2) dX12_advances_48 rfl rfl (Nat.le_of_ble_eq_true rfl) ?_
            refine x_keep [1, 1, 1, 0, 0] ?_
            exact hM hd1 _ o' z' 1 K (Nat.lt_succ_self _) (Or.inl ⟨rfl, ho', hz', h135, fun c c0 c1 => hc c c0 (by omega), hps hd1, hpos⟩) h134 h141 hFr hLE
          · refine y_aln (i := 0) dX12_advances_25 at91.ne0 rfl rfl ?_
            refine y_getp (z := 45) (v := 111) dX12_advances_26 frX12_81 cfX12 at91 rfl rfl (wp (v := 111) hW rfl rfl (by decide)) ?_
            refine x_iload_n (i := 2) dX12_advances_29 rfl rfl ?_
            refine y_aln (i := 0) dX12_advances_30 at91.ne0 rfl rfl ?_
            refine y_getp (z := 80) (v := 133) dX12_advances_31 frX12_148 cfX12 at91 rfl rfl (wp (v := 133) hW rfl rfl (by decide)) ?_
            refine y_ic dX12_advances_34 ⟨by decide, by decide⟩ ?_
            refine x_iload_n (i := 1) dX12_advances_35 rfl rfl ?_
            refine x_imul dX12_advances_36 ⟨by omega, by omega⟩ ?_
            refine x_iload_n (i := 2) dX12_advances_37 rfl rfl ?_
            refine x_iadd dX12_advances_38 ⟨by omega, by omega⟩ ?_
            refine x_iald dX12_advances_39 ar133 ⟨by omega, by omega⟩ ?_
            rw [h133 k hk (by omega)]
            refine x_iast dX12_advances_40 ar111 ⟨by omega, by omega⟩ ?_
            refine x_iinc dX12_advances_41 rfl ⟨by omega, by omega⟩ rfl (Nat.le_of_ble_eq_true rfl) ?_
            refine x_goto (tgt := 17) dX12_advances_44 rfl ?_
            refine x_keep [1, 1, 1, 0, 0] ?_
            refine ihg (k + 1) _ (by omega) (by omega) (by omega) (fun c c0 c1 => ?_) (by rw [uI_ne (by decide)]; exact h134) (by rw [uI_ne (by decide)]; exact h133) (by rw [uI_ne (by decide)]; exact h135) (by rw [uI_ne (by decide)]; exact h141) (hFr.ui (by decide) (by decide)) (hLE.ui ⟨fun q => by omega, fun q => by omega, fun q => by omega, fun q => by omega⟩)
            rw [uI_eq]
            by_cases e : c = k
            · rw [e, u1_eq]
            · rw [u1_ne e]; exact hc c c0 (by omega)
      refine y_aln (i := 0) dX12_advances_5 at91.ne0 rfl rfl ?_
      refine y_getp (z := 81) (v := 134) dX12_advances_6 frX12_151 cfX12 at91 rfl rfl (wp (v := 134) hW rfl rfl (by decide)) ?_
      refine x_iload_n (i := 1) dX12_advances_9 rfl rfl ?_
      refine x_iald dX12_advances_10 ar134 ⟨by omega, by omega⟩ ?_
      refine y_ic dX12_advances_11 ⟨by decide, by decide⟩ ?_
      refine x_icmp_ge (tgt := 257) dX12_advances_12 rfl (fun h12 => ?_) (fun h12 => ?_)
      · refine y_ic dX12_advances_257 ⟨by decide, by decide⟩ ?_
        refine x_zret dX12_advances_258 (by omega) rfl ?_
        exact ⟨rfl, hFr, hLE, Or.inl ⟨rfl, fun g e => by rw [hpos g e, show dr' = 2 by omega, posF_2, posF_2]⟩⟩
      · refine y_ic dX12_advances_15 ⟨by decide, by decide⟩ ?_
        refine x_istore_n (i := 2) dX12_advances_16 rfl rfl (Nat.le_of_ble_eq_true rfl) ?_
        refine x_keep [1, 1, 1, 0, 0] ?_
        exact hGv (by omega) _ 0 K (Nat.lt_succ_self _) (by decide) (by omega) (fun c c0 c1 => by omega) h134 h133 h135 h141 hFr hLE
  refine y_aln (i := 0) dX12_advances_0 at91.ne0 rfl rfl ?_
  refine x_iload_n (i := 1) dX12_advances_1 rfl rfl ?_
  refine x_callVV (c_X12_scenes hW ⟨hl.1, by omega⟩) dX12_advances_2 lkX12_504 mfX12_scenes cfX12 at91 rfl rfl rfl rfl (Nat.le_of_ble_eq_true rfl) (fun n2 I2 P2 hf2 => ?_)
  obtain ⟨rfl, rfl, fr2, v2⟩ := hf2
  refine x_keep [1, 1, 0, 0, 0] ?_
  exact hL _ dr o z I2 (Nat.lt_succ_self _) (by omega) ho hz (by rw [fr2.1 134 (by decide) (by decide)]; exact hd) (by rw [fr2.1 133 (by decide) (by decide)]; exact htr) (by rw [fr2.1 135 (by decide) (by decide)]; exact hwi) (fun c c0 c1 => by rw [v2 c c0 c1]; exact hre c c0 c1) (fr2.mo (by decide) (by decide)) (LE.rf.fr fr2) (fun _ => Int.le_refl _) (fun _ _ => rfl)
theorem c_X12_learns1 {l : Int} {nn : Rw} (hW : WP P) (hT : MT I T) (hF : WF T) (hl : 0 ≤ l ∧ l < T 0 6) (hp : I 139 l = 1) (hb : I 140 l = 0) (hx : ∀ p, 0 ≤ p → p < T 0 1 → I 138 p = nn p) : Cv G mX12_learns (d + 1) 0 0 [.inr (.inl 91), .inl l] NO I P (qV (fun n' I' P' => n' = NO ∧ P' = P ∧ Fr [136, 137, 140] [] I I' ∧ LE l I I' ∧ ES T l I' nn nn)) := by
  have f1 := hF.1
  have f6 := hF.2.2.2.2.2.1
  refine x_enter mfX12_learns rfl (Nat.le_of_ble_eq_true rfl) (fun _ => ?_)
  have hL : ∀ (j : Nat) (p : Int) (K : Mem), (T 0 1 - p).toNat < j → 0 ≤ p → p ≤ T 0 1 → (∀ c, 0 ≤ c → c < p → K 136 (6 * l + c) = nn c) → Fr [136] [] I K → LE l I K → V G mX12_learns (d + 1) 0 0 25 [some (.inr (.inl 91)), some (.inl (l)), none, none, some (.inl (p))] [] NO K P (qV (fun n' I' P' => n' = NO ∧ P' = P ∧ Fr [136, 137, 140] [] I I' ∧ LE l I I' ∧ ES T l I' nn nn)) := by
    intro j
    induction j with
    | zero => intro p K hj; omega
    | succ j ih =>
      intro p K hj hp0 hp1 hc hFr hLE
      have hTK := hT.fr hFr
      have e1 : K 91 1 = T 0 1 := hTK.1 1 (by decide) (by decide)
      have e138 : K 138 = I 138 := hFr.1 138 (by decide) (by decide)
      refine x_iload (i := 4) dX12_learns_25 rfl ?_
      refine y_aln (i := 0) dX12_learns_27 at91.ne0 rfl rfl ?_
      refine y_geti (z := 1) dX12_learns_28 frX12_316 cfX12 at91 rfl rfl ?_
      refine x_icmp_ge (tgt := 59) dX12_learns_31 rfl (fun h31 => ?_) (fun h31 => ?_)
      · refine x_goto (tgt := 175) dX12_learns_59 rfl ?_
        refine x_vret dX12_learns_175 rfl ?_
        exact ⟨rfl, rfl, hFr.mo (by decide) (by decide), hLE, fun c c0 c1 => hc c c0 (by omega), Or.inl ⟨by rw [hFr.1 140 (by decide) (by decide)]; exact hb, rfl⟩⟩
      · refine y_aln (i := 0) dX12_learns_34 at91.ne0 rfl rfl ?_
        refine y_getp (z := 83) (v := 136) dX12_learns_35 frX12_157 cfX12 at91 rfl rfl (wp (v := 136) hW rfl rfl (by decide)) ?_
        refine y_bi dX12_learns_38 ⟨by decide, by decide⟩ ?_
        refine x_iload_n (i := 1) dX12_learns_40 rfl rfl ?_
        refine x_imul dX12_learns_41 ⟨by omega, by omega⟩ ?_
        refine x_iload (i := 4) dX12_learns_42 rfl ?_
        refine x_iadd dX12_learns_44 ⟨by omega, by omega⟩ ?_
        refine y_aln (i := 0) dX12_learns_45 at91.ne0 rfl rfl ?_
        refine y_getp (z := 85) (v := 138) dX12_learns_46 frX12_163 cfX12 at91 rfl rfl (wp (v := 138) hW rfl rfl (by decide)) ?_
        refine x_iload (i := 4) dX12_learns_49 rfl ?_
        refine x_iald dX12_learns_51 ar138 ⟨by omega, by omega⟩ ?_
        rw [e138, hx p hp0 (by omega)]
        refine x_iast dX12_learns_52 ar136 ⟨by omega, by omega⟩ ?_
        refine x_iinc dX12_learns_53 rfl ⟨by omega, by omega⟩ rfl (Nat.le_of_ble_eq_true rfl) ?_
        refine x_goto (tgt := 25) dX12_learns_56 rfl ?_
        refine x_keep [1, 1, 0, 0, 1] ?_
        refine ih (p + 1) _ (by omega) (by omega) (by omega) (fun c c0 c1 => ?_) (hFr.ui (by decide) (by decide)) (hLE.ui ⟨fun q => by omega, fun q => by omega, fun q => by omega, fun _ => by omega⟩)
        rw [uI_eq]
        by_cases e : c = p
        · rw [e, u1_eq]
        · rw [u1_ne (by omega)]; exact hc c c0 (by omega)
  refine y_aln (i := 0) dX12_learns_0 at91.ne0 rfl rfl ?_
  refine x_iload_n (i := 1) dX12_learns_1 rfl rfl ?_
  refine x_callVI (c_X12_firstOf hW hT ⟨hl.1, by omega⟩) dX12_learns_2 lkX12_495 mfX12_firstOf cfX12 at91 rfl rfl rfl rfl (Nat.le_of_ble_eq_true rfl) (fun r2 I2 P2 hr2 hf2 => ?_)
  obtain ⟨i2, p2, q2⟩ := hf2
  rw [i2, p2, q2]
  refine x_istore_n (i := 2) dX12_learns_5 rfl rfl (Nat.le_of_ble_eq_true rfl) ?_
  refine y_aln (i := 0) dX12_learns_6 at91.ne0 rfl rfl ?_
  refine x_iload_n (i := 1) dX12_learns_7 rfl rfl ?_
  refine x_callVI (c_X12_secondOf hW hT ⟨hl.1, by omega⟩) dX12_learns_8 lkX12_498 mfX12_secondOf cfX12 at91 rfl rfl rfl rfl (Nat.le_of_ble_eq_true rfl) (fun r8 I8 P8 hr8 hf8 => ?_)
  obtain ⟨i8, p8, q8⟩ := hf8
  rw [i8, p8, q8]
  refine x_istore_n (i := 3) dX12_learns_11 rfl rfl (Nat.le_of_ble_eq_true rfl) ?_
  refine y_aln (i := 0) dX12_learns_12 at91.ne0 rfl rfl ?_
  refine y_getp (z := 86) (v := 139) dX12_learns_13 frX12_166 cfX12 at91 rfl rfl (wp (v := 139) hW rfl rfl (by decide)) ?_
  refine x_iload_n (i := 1) dX12_learns_16 rfl rfl ?_
  refine x_iald dX12_learns_17 ar139 ⟨by omega, by omega⟩ ?_
  refine y_ic dX12_learns_18 ⟨by decide, by decide⟩ ?_
  refine x_icmp_ne (tgt := 62) dX12_learns_19 rfl (fun h19 => ?_) (fun h19 => ?_)
  · exact absurd hp (by omega)
  · refine y_ic dX12_learns_22 ⟨by decide, by decide⟩ ?_
    refine x_istore (i := 4) dX12_learns_23 rfl (Nat.le_of_ble_eq_true rfl) ?_
    refine x_keep [1, 1, 0, 0, 1] ?_
    exact hL _ 0 I (Nat.lt_succ_self _) (by decide) f1.1 (fun c c0 c1 => by omega) Fr.rf LE.rf
theorem c_X12_learns2 {l : Int} {nn x e : Rw} (hW : WP P) (hT : MT I T) (hF : WF T) (hl : 0 ≤ l ∧ l < T 0 6) (hp : I 139 l ≠ 1) (hE : ES T l I nn e) (hx : ∀ p, 0 ≤ p → p < T 0 1 → I 138 p = x p) : Cv G mX12_learns (d + 1) 0 0 [.inr (.inl 91), .inl l] NO I P (qV (fun n' I' P' => n' = NO ∧ P' = P ∧ Fr [136, 137, 140] [] I I' ∧ LE l I I' ∧ ES T l I' nn (ahW T l nn x e))) := by
  have f1 := hF.1
  have f6 := hF.2.2.2.2.2.1
  have hm6 := meet6 hF hl.1 hl.2
  have xa := hx (T 6 (2 * l)) hm6.1.1 hm6.1.2
  have xb := hx (T 6 (2 * l + 1)) hm6.2.1.1 hm6.2.1.2
  have na := hE.1 (T 6 (2 * l)) hm6.1.1 hm6.1.2
  have nb := hE.1 (T 6 (2 * l + 1)) hm6.2.1.1 hm6.2.1.2
  refine x_enter mfX12_learns rfl (Nat.le_of_ble_eq_true rfl) (fun _ => ?_)
  have hno : ¬ (e (T 6 (2 * l)) < x (T 6 (2 * l)) ∧ nn (T 6 (2 * l + 1)) < x (T 6 (2 * l + 1))) → NO = NO ∧ P = P ∧ Fr [136, 137, 140] [] I I ∧ LE l I I ∧ ES T l I nn (ahW T l nn x e) := fun q => by
    unfold ahW
    rw [if_neg q]
    exact ⟨rfl, rfl, Fr.rf, LE.rf, hE⟩
  have hL : nn (T 6 (2 * l)) < x (T 6 (2 * l)) → e (T 6 (2 * l)) < x (T 6 (2 * l)) ∧ nn (T 6 (2 * l + 1)) < x (T 6 (2 * l + 1)) → ∀ (j : Nat) (p : Int) (K : Mem), (T 0 1 - p).toNat < j → 0 ≤ p → p ≤ T 0 1 → (∀ c, 0 ≤ c → c < p → K 137 (6 * l + c) = x c) → K 140 l = 1 → K 136 = I 136 → Fr [137, 140] [] I K → LE l I K → V G mX12_learns (d + 1) 0 0 141 [some (.inr (.inl 91)), some (.inl (l)), none, none, some (.inl (p))] [] NO K P (qV (fun n' I' P' => n' = NO ∧ P' = P ∧ Fr [136, 137, 140] [] I I' ∧ LE l I I' ∧ ES T l I' nn (ahW T l nn x e))) := by
    intro hnx hyes j
    induction j with
    | zero => intro p K hj; omega
    | succ j ih =>
      intro p K hj hp0 hp1 hc h140 h136 hFr hLE
      have hTK := hT.fr hFr
      have e1 : K 91 1 = T 0 1 := hTK.1 1 (by decide) (by decide)
      have e138 : K 138 = I 138 := hFr.1 138 (by decide) (by decide)
      refine x_iload (i := 4) dX12_learns_141 rfl ?_
      refine y_aln (i := 0) dX12_learns_143 at91.ne0 rfl rfl ?_
      refine y_geti (z := 1) dX12_learns_144 frX12_316 cfX12 at91 rfl rfl ?_
      refine x_icmp_ge (tgt := 175) dX12_learns_147 rfl (fun h147 => ?_) (fun h147 => ?_)
      · refine x_vret dX12_learns_175 rfl ?_
        refine ⟨rfl, rfl, hFr.mo (by decide) (by decide), hLE, ?_⟩
        unfold ahW
        rw [if_pos hyes]
        exact ⟨fun c c0 c1 => by rw [h136]; exact hE.1 c c0 c1, Or.inr ⟨h140, hnx, fun c c0 c1 => hc c c0 (by omega)⟩⟩
      · refine y_aln (i := 0) dX12_learns_150 at91.ne0 rfl rfl ?_
        refine y_getp (z := 84) (v := 137) dX12_learns_151 frX12_160 cfX12 at91 rfl rfl (wp (v := 137) hW rfl rfl (by decide)) ?_
        refine y_bi dX12_learns_154 ⟨by decide, by decide⟩ ?_
        refine x_iload_n (i := 1) dX12_learns_156 rfl rfl ?_
        refine x_imul dX12_learns_157 ⟨by omega, by omega⟩ ?_
        refine x_iload (i := 4) dX12_learns_158 rfl ?_
        refine x_iadd dX12_learns_160 ⟨by omega, by omega⟩ ?_
        refine y_aln (i := 0) dX12_learns_161 at91.ne0 rfl rfl ?_
        refine y_getp (z := 85) (v := 138) dX12_learns_162 frX12_163 cfX12 at91 rfl rfl (wp (v := 138) hW rfl rfl (by decide)) ?_
        refine x_iload (i := 4) dX12_learns_165 rfl ?_
        refine x_iald dX12_learns_167 ar138 ⟨by omega, by omega⟩ ?_
        rw [e138, hx p hp0 (by omega)]
        refine x_iast dX12_learns_168 ar137 ⟨by omega, by omega⟩ ?_
        refine x_iinc dX12_learns_169 rfl ⟨by omega, by omega⟩ rfl (Nat.le_of_ble_eq_true rfl) ?_
        refine x_goto (tgt := 141) dX12_learns_172 rfl ?_
        refine x_keep [1, 1, 0, 0, 1] ?_
        refine ih (p + 1) _ (by omega) (by omega) (by omega) (fun c c0 c1 => ?_) (by rw [uI_ne (by decide)]; exact h140) (by rw [uI_ne (by decide)]; exact h136) (hFr.ui (by decide) (by decide)) (hLE.ui ⟨fun q => by omega, fun q => by omega, fun q => by omega, fun _ => by omega⟩)
        rw [uI_eq]
        by_cases e : c = p
        · rw [e, u1_eq]
        · rw [u1_ne (by omega)]; exact hc c c0 (by omega)
  have hgo : nn (T 6 (2 * l)) < x (T 6 (2 * l)) → e (T 6 (2 * l)) < x (T 6 (2 * l)) ∧ nn (T 6 (2 * l + 1)) < x (T 6 (2 * l + 1)) → V G mX12_learns (d + 1) 0 0 131 [some (.inr (.inl 91)), some (.inl (l)), none, none, none] [] NO I P (qV (fun n' I' P' => n' = NO ∧ P' = P ∧ Fr [136, 137, 140] [] I I' ∧ LE l I I' ∧ ES T l I' nn (ahW T l nn x e))) := fun h1 h2 => by
    refine y_aln (i := 0) dX12_learns_131 at91.ne0 rfl rfl ?_
    refine y_getp (z := 87) (v := 140) dX12_learns_132 frX12_169 cfX12 at91 rfl rfl (wp (v := 140) hW rfl rfl (by decide)) ?_
    refine x_iload_n (i := 1) dX12_learns_135 rfl rfl ?_
    refine y_ic dX12_learns_136 ⟨by decide, by decide⟩ ?_
    refine x_zast dX12_learns_137 ar140 ⟨by omega, by omega⟩ (by omega) ?_
    refine y_ic dX12_learns_138 ⟨by decide, by decide⟩ ?_
    refine x_istore (i := 4) dX12_learns_139 rfl (Nat.le_of_ble_eq_true rfl) ?_
    refine x_keep [1, 1, 0, 0, 1] ?_
    exact hL h1 h2 _ 0 _ (Nat.lt_succ_self _) (by decide) f1.1 (fun c c0 c1 => by omega) (by rw [uI_eq, u1_eq]) (by rw [uI_ne (by decide)]) (Fr.rf.ui (by decide) (by decide)) (LE.rf.ui ⟨fun q => by omega, fun q => by omega, fun _ => by omega, fun q => by omega⟩)
  have hea : (I 140 l = 0 ∧ e = nn) ∨ (I 140 l = 1 ∧ nn (T 6 (2 * l)) < e (T 6 (2 * l)) ∧ I 137 (6 * l + T 6 (2 * l)) = e (T 6 (2 * l))) := by
    rcases hE.2 with h | ⟨h1, h2, h3⟩
    · exact Or.inl h
    · exact Or.inr ⟨h1, h2, h3 _ hm6.1.1 hm6.1.2⟩
  have hee : I 140 l = 0 → e (T 6 (2 * l)) = nn (T 6 (2 * l)) := fun q => by
    rcases hea with h | h
    · rw [h.2]
    · omega
  refine y_aln (i := 0) dX12_learns_0 at91.ne0 rfl rfl ?_
  refine x_iload_n (i := 1) dX12_learns_1 rfl rfl ?_
  refine x_callVI (c_X12_firstOf hW hT ⟨hl.1, by omega⟩) dX12_learns_2 lkX12_495 mfX12_firstOf cfX12 at91 rfl rfl rfl rfl (Nat.le_of_ble_eq_true rfl) (fun r2 I2 P2 hr2 hf2 => ?_)
  obtain ⟨i2, p2, q2⟩ := hf2
  rw [i2, p2, q2]
  refine x_istore_n (i := 2) dX12_learns_5 rfl rfl (Nat.le_of_ble_eq_true rfl) ?_
  refine y_aln (i := 0) dX12_learns_6 at91.ne0 rfl rfl ?_
  refine x_iload_n (i := 1) dX12_learns_7 rfl rfl ?_
  refine x_callVI (c_X12_secondOf hW hT ⟨hl.1, by omega⟩) dX12_learns_8 lkX12_498 mfX12_secondOf cfX12 at91 rfl rfl rfl rfl (Nat.le_of_ble_eq_true rfl) (fun r8 I8 P8 hr8 hf8 => ?_)
  obtain ⟨i8, p8, q8⟩ := hf8
  rw [i8, p8, q8]
  refine x_istore_n (i := 3) dX12_learns_11 rfl rfl (Nat.le_of_ble_eq_true rfl) ?_
  refine y_aln (i := 0) dX12_learns_12 at91.ne0 rfl rfl ?_
  refine y_getp (z := 86) (v := 139) dX12_learns_13 frX12_166 cfX12 at91 rfl rfl (wp (v := 139) hW rfl rfl (by decide)) ?_
  refine x_iload_n (i := 1) dX12_learns_16 rfl rfl ?_
  refine x_iald dX12_learns_17 ar139 ⟨by omega, by omega⟩ ?_
  refine y_ic dX12_learns_18 ⟨by decide, by decide⟩ ?_
  refine x_icmp_ne (tgt := 62) dX12_learns_19 rfl (fun h19 => ?_) (fun h19 => ?_)
  · refine y_aln (i := 0) dX12_learns_62 at91.ne0 rfl rfl ?_
    refine y_getp (z := 85) (v := 138) dX12_learns_63 frX12_163 cfX12 at91 rfl rfl (wp (v := 138) hW rfl rfl (by decide)) ?_
    refine x_iload_n (i := 2) dX12_learns_66 rfl rfl ?_
    refine x_iald dX12_learns_67 ar138 ⟨by omega, by omega⟩ ?_
    refine y_aln (i := 0) dX12_learns_68 at91.ne0 rfl rfl ?_
    refine y_getp (z := 83) (v := 136) dX12_learns_69 frX12_157 cfX12 at91 rfl rfl (wp (v := 136) hW rfl rfl (by decide)) ?_
    refine y_bi dX12_learns_72 ⟨by decide, by decide⟩ ?_
    refine x_iload_n (i := 1) dX12_learns_74 rfl rfl ?_
    refine x_imul dX12_learns_75 ⟨by omega, by omega⟩ ?_
    refine x_iload_n (i := 2) dX12_learns_76 rfl rfl ?_
    refine x_iadd dX12_learns_77 ⟨by omega, by omega⟩ ?_
    refine x_iald dX12_learns_78 ar136 ⟨by omega, by omega⟩ ?_
    rw [xa, na]
    refine x_icmp_le (tgt := 175) dX12_learns_79 rfl (fun h79 => ?_) (fun h79 => ?_)
    · have hn1 : ¬ (e (T 6 (2 * l)) < x (T 6 (2 * l)) ∧ nn (T 6 (2 * l + 1)) < x (T 6 (2 * l + 1))) := fun q => by
        rcases hea with h | h
        · rw [h.2] at q; omega
        · omega
      refine x_vret dX12_learns_175 rfl ?_
      exact hno hn1
    · refine y_aln (i := 0) dX12_learns_82 at91.ne0 rfl rfl ?_
      refine y_getp (z := 85) (v := 138) dX12_learns_83 frX12_163 cfX12 at91 rfl rfl (wp (v := 138) hW rfl rfl (by decide)) ?_
      refine x_iload_n (i := 3) dX12_learns_86 rfl rfl ?_
      refine x_iald dX12_learns_87 ar138 ⟨by omega, by omega⟩ ?_
      refine y_aln (i := 0) dX12_learns_88 at91.ne0 rfl rfl ?_
      refine y_getp (z := 83) (v := 136) dX12_learns_89 frX12_157 cfX12 at91 rfl rfl (wp (v := 136) hW rfl rfl (by decide)) ?_
      refine y_bi dX12_learns_92 ⟨by decide, by decide⟩ ?_
      refine x_iload_n (i := 1) dX12_learns_94 rfl rfl ?_
      refine x_imul dX12_learns_95 ⟨by omega, by omega⟩ ?_
      refine x_iload_n (i := 3) dX12_learns_96 rfl rfl ?_
      refine x_iadd dX12_learns_97 ⟨by omega, by omega⟩ ?_
      refine x_iald dX12_learns_98 ar136 ⟨by omega, by omega⟩ ?_
      rw [xb, nb]
      refine x_icmp_le (tgt := 175) dX12_learns_99 rfl (fun h99 => ?_) (fun h99 => ?_)
      · have hn1 : ¬ (e (T 6 (2 * l)) < x (T 6 (2 * l)) ∧ nn (T 6 (2 * l + 1)) < x (T 6 (2 * l + 1))) := fun q => by omega
        refine x_vret dX12_learns_175 rfl ?_
        exact hno hn1
      · refine y_aln (i := 0) dX12_learns_102 at91.ne0 rfl rfl ?_
        refine y_getp (z := 87) (v := 140) dX12_learns_103 frX12_169 cfX12 at91 rfl rfl (wp (v := 140) hW rfl rfl (by decide)) ?_
        refine x_iload_n (i := 1) dX12_learns_106 rfl rfl ?_
        refine x_zald dX12_learns_107 ar140 ⟨by omega, by omega⟩ ?_
        refine x_if_eq (tgt := 131) dX12_learns_108 rfl (fun h108 => ?_) (fun h108 => ?_)
        · have hee' := hee (by omega)
          refine x_keep [1, 1, 0, 0, 0] ?_
          exact hgo (by omega) ⟨by omega, by omega⟩
        · have hea' := hea.resolve_left (fun q => by have := q.1; omega)
          refine y_aln (i := 0) dX12_learns_111 at91.ne0 rfl rfl ?_
          refine y_getp (z := 85) (v := 138) dX12_learns_112 frX12_163 cfX12 at91 rfl rfl (wp (v := 138) hW rfl rfl (by decide)) ?_
          refine x_iload_n (i := 2) dX12_learns_115 rfl rfl ?_
          refine x_iald dX12_learns_116 ar138 ⟨by omega, by omega⟩ ?_
          refine y_aln (i := 0) dX12_learns_117 at91.ne0 rfl rfl ?_
          refine y_getp (z := 84) (v := 137) dX12_learns_118 frX12_160 cfX12 at91 rfl rfl (wp (v := 137) hW rfl rfl (by decide)) ?_
          refine y_bi dX12_learns_121 ⟨by decide, by decide⟩ ?_
          refine x_iload_n (i := 1) dX12_learns_123 rfl rfl ?_
          refine x_imul dX12_learns_124 ⟨by omega, by omega⟩ ?_
          refine x_iload_n (i := 2) dX12_learns_125 rfl rfl ?_
          refine x_iadd dX12_learns_126 ⟨by omega, by omega⟩ ?_
          refine x_iald dX12_learns_127 ar137 ⟨by omega, by omega⟩ ?_
          rw [xa]
          refine x_icmp_le (tgt := 175) dX12_learns_128 rfl (fun h128 => ?_) (fun h128 => ?_)
          · have hn1 : ¬ (e (T 6 (2 * l)) < x (T 6 (2 * l)) ∧ nn (T 6 (2 * l + 1)) < x (T 6 (2 * l + 1))) := fun q => by omega
            refine x_vret dX12_learns_175 rfl ?_
            exact hno hn1
          · refine x_keep [1, 1, 0, 0, 0] ?_
            exact hgo (by omega) ⟨by omega, by omega⟩
  · exact absurd h19 (by omega)
theorem psD_bd {T : Tn} {dr o z : Int} (hT : WF T) (hd : dr = 0 ∨ dr = 1) (ho : 0 ≤ o ∧ o < OFN T) (hz : 0 ≤ z ∧ z ≤ T 0 2) : 0 ≤ psD T dr o z ∧ psD T dr o z + 1 ≤ 18 * OFN T := by
  have := hT.2.1
  unfold psD
  split <;> omega
theorem psD_s {T : Tn} {dr o z : Int} : psD T dr o (z + 1) = psD T dr o z + 1 := by unfold psD; omega
theorem ms_lt {a b c : Int} {j : Nat} (h : (c - a).toNat < j + 1) (h1 : a ≤ b) (h2 : a + 1 ≤ c) : (c - (b + 1)).toNat < j := by omega
abbrev thS : List Nat := [111, 132, 133, 134, 135, 136, 137, 138, 139, 140, 141]
theorem c_X12_thinks (hW : WP P) (hT : MT I T) (hF : WF T) (hr0 : RW T (I 98)) : Cv G mX12_thinks (d + 4) 0 0 [.inr (.inl 91)] NO I P (qI NO (fun r I' P' => P' = P ∧ Fr thS [] I I' ∧ ((r = 1 ∧ (ahS T (T 0 6).toNat 0 (I 98)).2 ≤ 3000 ∧ ∀ p, 0 ≤ p → p < T 0 1 → I' 138 p = (ahS T (T 0 6).toNat 0 (I 98)).1 p) ∨ (r = 0 ∧ 3000 < (ahS T (T 0 6).toNat 0 (I 98)).2)))) := by
  have f1 := hF.1
  have f2 := hF.2.1
  have f6 := hF.2.2.2.2.2.1
  have hON := OFN_bd hF
  refine x_enter mfX12_thinks rfl (Nat.le_of_ble_eq_true rfl) (fun _ => ?_)
  obtain ⟨tot, htot⟩ : ∃ tot, tot = (ahS T (T 0 6).toNat 0 (I 98)).2 := ⟨_, rfl⟩
  have hD : ∀ (n : Nat) (l c : Int) (r : Rw) (K : Mem), (n : Int) = T 0 6 - l → 0 ≤ l → (0 ≤ c ∧ c ≤ 3000) → (∀ x, 0 ≤ x → x < 48 → K 132 (48 * l + x) = r x) → RW T r → Fr thS [] I K → (3000 < c + (ahS T n l r).2 → 3000 < tot) → (c + (ahS T n l r).2 ≤ 3000 → ∀ K' : Mem, Fr thS [] I K' → LE l K K' → (∀ p, 0 ≤ p → p < T 0 1 → K' 138 p = (ahS T n l r).1 p) → V G mX12_thinks (d + 4) 0 0 32 [some (.inr (.inl 91)), some (.inl (l - 1)), some (.inl (c + (ahS T n l r).2)), some (.inl (0)), none] [] NO K' P (qI NO (fun r I' P' => P' = P ∧ Fr thS [] I I' ∧ ((r = 1 ∧ (ahS T (T 0 6).toNat 0 (I 98)).2 ≤ 3000 ∧ ∀ p, 0 ≤ p → p < T 0 1 → I' 138 p = (ahS T (T 0 6).toNat 0 (I 98)).1 p) ∨ (r = 0 ∧ 3000 < (ahS T (T 0 6).toNat 0 (I 98)).2))))) → V G mX12_thinks (d + 4) 0 0 32 [some (.inr (.inl 91)), some (.inl (l)), some (.inl (c)), some (.inl (1)), none] [] NO K P (qI NO (fun r I' P' => P' = P ∧ Fr thS [] I I' ∧ ((r = 1 ∧ (ahS T (T 0 6).toNat 0 (I 98)).2 ≤ 3000 ∧ ∀ p, 0 ≤ p → p < T 0 1 → I' 138 p = (ahS T (T 0 6).toNat 0 (I 98)).1 p) ∨ (r = 0 ∧ 3000 < (ahS T (T 0 6).toNat 0 (I 98)).2)))) := by
    intro n
    induction n with
    | zero =>
      intro l c r K hn hl hc hrow hr hFr hfail cont
      have e6 : K 91 6 = T 0 6 := (hT.fr hFr).1 6 (by decide) (by decide)
      have hc0 : (ahS T 0 l r).2 = 0 := rfl
      have hB : ∀ (j : Nat) (p : Int) (K2 : Mem), (T 0 1 - p).toNat < j → 0 ≤ p → p ≤ T 0 1 → (∀ q, 0 ≤ q → q < p → K2 138 q = bagS T r q) → RE (K2 141) r → Fr thS [] I K2 → LE l K K2 → V G mX12_thinks (d + 4) 0 0 56 [some (.inr (.inl 91)), some (.inl (l)), some (.inl (c)), none, some (.inl (p))] [] NO K2 P (qI NO (fun r I' P' => P' = P ∧ Fr thS [] I I' ∧ ((r = 1 ∧ (ahS T (T 0 6).toNat 0 (I 98)).2 ≤ 3000 ∧ ∀ p, 0 ≤ p → p < T 0 1 → I' 138 p = (ahS T (T 0 6).toNat 0 (I 98)).1 p) ∨ (r = 0 ∧ 3000 < (ahS T (T 0 6).toNat 0 (I 98)).2)))) := by
        intro j
        induction j with
        | zero => intro p K2 hj; omega
        | succ j ihp =>
          intro p K2 hj hp hp2 hq h141 hFr2 hLE
          have hTK := hT.fr hFr2
          have e1 : K2 91 1 = T 0 1 := hTK.1 1 (by decide) (by decide)
          refine x_iload (i := 4) dX12_thinks_56 rfl ?_
          refine y_aln (i := 0) dX12_thinks_58 at91.ne0 rfl rfl ?_
          refine y_geti (z := 1) dX12_thinks_59 frX12_316 cfX12 at91 rfl rfl ?_
          refine x_icmp_ge (tgt := 88) dX12_thinks_62 rfl (fun h62 => ?_) (fun h62 => ?_)
          · refine y_ic dX12_thinks_88 ⟨by decide, by decide⟩ ?_
            refine x_istore_n (i := 3) dX12_thinks_89 rfl rfl (Nat.le_of_ble_eq_true rfl) ?_
            refine x_iinc dX12_thinks_90 rfl ⟨by omega, by omega⟩ rfl (Nat.le_of_ble_eq_true rfl) ?_
            refine x_goto (tgt := 32) dX12_thinks_93 rfl ?_
            refine x_keep [1, 1, 1, 1, 0] ?_
            have := cont (by rw [hc0]; omega) K2 hFr2 hLE (fun q q0 q1 => hq q q0 (by omega))
            rw [hc0, Int.add_zero] at this
            exact this
          · refine y_aln (i := 0) dX12_thinks_65 at91.ne0 rfl rfl ?_
            refine y_getp (z := 85) (v := 138) dX12_thinks_66 frX12_163 cfX12 at91 rfl rfl (wp (v := 138) hW rfl rfl (by decide)) ?_
            refine x_iload (i := 4) dX12_thinks_69 rfl ?_
            refine y_aln (i := 0) dX12_thinks_71 at91.ne0 rfl rfl ?_
            refine y_aln (i := 0) dX12_thinks_72 at91.ne0 rfl rfl ?_
            refine y_getp (z := 88) (v := 141) dX12_thinks_73 frX12_172 cfX12 at91 rfl rfl (wp (v := 141) hW rfl rfl (by decide)) ?_
            refine x_iload (i := 4) dX12_thinks_76 rfl ?_
            refine x_callVI (c_X12_bagOf hW hTK hF ar141 (h141.sy.rc hr.rc) ⟨hp, by omega⟩) dX12_thinks_78 lkX12_351 mfX12_bagOf cfX12 at91 rfl rfl rfl rfl (Nat.le_of_ble_eq_true rfl) (fun r78 I78 P78 hr78 hf78 => ?_)
            obtain ⟨i78, p78, q78⟩ := hf78
            rw [i78, p78, q78]
            rw [h141.bag hF ⟨hp, by omega⟩]
            refine x_iast dX12_thinks_81 ar138 ⟨by omega, by omega⟩ ?_
            refine x_iinc dX12_thinks_82 rfl ⟨by omega, by omega⟩ rfl (Nat.le_of_ble_eq_true rfl) ?_
            refine x_goto (tgt := 56) dX12_thinks_85 rfl ?_
            refine x_keep [1, 1, 1, 0, 1] ?_
            refine ihp (p + 1) _ (by omega) (by omega) (by omega) (fun q q0 q1 => ?_) (by rw [uI_ne (by decide)]; exact h141) (hFr2.ui (by decide) (by decide)) (hLE.ui ⟨fun q => by omega, fun q => by omega, fun q => by omega, fun q => by omega⟩)
            rw [uI_eq]
            by_cases e : q = p
            · rw [e, u1_eq]
            · rw [u1_ne e]; exact hq q q0 (by omega)
      refine x_iload_n (i := 1) dX12_thinks_32 rfl rfl ?_
      refine x_if_lt (tgt := 267) dX12_thinks_33 rfl (fun h33 => ?_) (fun h33 => ?_)
      · exact absurd h33 (by omega)
      · refine x_iload_n (i := 3) dX12_thinks_36 rfl rfl ?_
        refine x_if_eq (tgt := 96) dX12_thinks_37 rfl (fun h37 => ?_) (fun h37 => ?_)
        · exact absurd h37 (by decide)
        · refine x_iload_n (i := 1) dX12_thinks_40 rfl rfl ?_
          refine y_aln (i := 0) dX12_thinks_41 at91.ne0 rfl rfl ?_
          refine y_geti (z := 6) dX12_thinks_42 frX12_322 cfX12 at91 rfl rfl ?_
          refine x_icmp_ne (tgt := 96) dX12_thinks_45 rfl (fun h45 => ?_) (fun h45 => ?_)
          · exact absurd h45 (by omega)
          · refine y_aln (i := 0) dX12_thinks_48 at91.ne0 rfl rfl ?_
            refine x_iload_n (i := 1) dX12_thinks_49 rfl rfl ?_
            refine x_callVV (c_X12_scenes hW ⟨hl, by omega⟩) dX12_thinks_50 lkX12_504 mfX12_scenes cfX12 at91 rfl rfl rfl rfl (Nat.le_of_ble_eq_true rfl) (fun n50 I50 P50 hf50 => ?_)
            obtain ⟨rfl, rfl, fr50, v50⟩ := hf50
            refine y_ic dX12_thinks_53 ⟨by decide, by decide⟩ ?_
            refine x_istore (i := 4) dX12_thinks_54 rfl (Nat.le_of_ble_eq_true rfl) ?_
            refine x_keep [1, 1, 1, 0, 1] ?_
            exact hB _ 0 I50 (Nat.lt_succ_self _) (by decide) f1.1 (fun q q0 q1 => by omega) (fun x x0 x1 => by rw [v50 x x0 x1]; exact hrow x x0 x1) (hFr.tr (fr50.mo (by decide) (by decide))) (LE.rf.fr fr50)
    | succ n ihn =>
      intro l c r K hn hl hc hrow hr hFr hfail cont
      have hl6 : 0 ≤ l ∧ l < T 0 6 := by omega
      have hm6 := meet6 hF hl hl6.2
      have hmn : (0 ≤ mnS T l ∧ mnS T l < T 0 1) ∧ (0 ≤ mxS T l ∧ mxS T l < T 0 1) ∧ mnS T l ≠ mxS T l := by unfold mnS mxS; omega
      have e6 : K 91 6 = T 0 6 := (hT.fr hFr).1 6 (by decide) (by decide)
      have hnn := ahS_nn hF n (l + 1)
      have hone := ahS_1 hF (n := n) (l := l) (r := r)
      obtain ⟨nn, hnn0⟩ : ∃ nn, nn = (ahS T n (l + 1) r).1 := ⟨_, rfl⟩
      obtain ⟨g, hg⟩ : ∃ g, g = ahG T l nn (ahS T n (l + 1)) := ⟨_, rfl⟩
      obtain ⟨e0, he0⟩ : ∃ e0 : Ah, e0 = (nn, 1 + (ahS T n (l + 1) r).2) := ⟨_, rfl⟩
      have hgx : ∀ r y, g r y = ahG T l nn (ahS T n (l + 1)) r y := fun r y => by rw [hg]
      have hall : ahS T (n + 1) l r = posF T r (mnS T l) (mxS T l) g e0 2 0 0 := by
        rw [posF_2, hg, he0, hnn0]
        rfl
      have hgm : ∀ r a, (fun y : Ah => y.2) a ≤ (fun y : Ah => y.2) (g r a) := fun r a => by rw [hg]; exact ahG_mono hnn r a
      have hple : ∀ dr o z, (dr = 0 ∨ dr = 1) → (0 ≤ o ∧ o < OFN T) → (0 ≤ z ∧ z ≤ T 0 2) → (posF T r (mnS T l) (mxS T l) g e0 dr o z).2 ≤ (ahS T (n + 1) l r).2 := fun dr o z hd ho hz => by
        rw [hall, posF_2]
        exact posF_le (μ := fun y : Ah => y.2) hF hgm hd ho hz
      have hAdv : ∀ (j : Nat) (dr o z w : Int) (K2 : Mem), (18 * OFN T + 9 - psD T dr o z).toNat < j → (dr = 0 ∨ dr = 1) → (0 ≤ o ∧ o < OFN T) → (0 ≤ z ∧ z ≤ T 0 2) → w = c + (posF T r (mnS T l) (mxS T l) g e0 dr o z).2 → (0 ≤ w ∧ w ≤ 3000) → Fr thS [] I K2 → LE l K K2 → ES T l K2 nn (posF T r (mnS T l) (mxS T l) g e0 dr o z).1 → K2 139 l = 2 → K2 134 l = dr → (∀ k, 0 ≤ k → k < T 0 3 → K2 133 (3 * l + k) = OF T o k) → K2 135 l = z - 1 → V G mX12_thinks (d + 4) 0 0 184 [some (.inr (.inl 91)), some (.inl (l)), some (.inl (w)), some (.inl (0)), none] [] NO K2 P (qI NO (fun r I' P' => P' = P ∧ Fr thS [] I I' ∧ ((r = 1 ∧ (ahS T (T 0 6).toNat 0 (I 98)).2 ≤ 3000 ∧ ∀ p, 0 ≤ p → p < T 0 1 → I' 138 p = (ahS T (T 0 6).toNat 0 (I 98)).1 p) ∨ (r = 0 ∧ 3000 < (ahS T (T 0 6).toNat 0 (I 98)).2)))) := by
        intro j
        induction j with
        | zero => intro dr o z w K2 hj; omega
        | succ j ihj =>
          intro dr o z w K2 hj hd ho hz hw hw2 hFr2 hLE hES h139 h134 h133 h135
          have hTK := hT.fr hFr2
          have hrow2 : ∀ x, 0 ≤ x → x < 48 → K2 132 (48 * l + x) = r x := fun x x0 x1 => by rw [hLE.1 _ (by omega)]; exact hrow x x0 x1
          have hEnd : ∀ (e : Rw) (K3 : Mem), e = (ahS T (n + 1) l r).1 → w = c + (ahS T (n + 1) l r).2 → Fr thS [] I K3 → LE l K K3 → ES T l K3 nn e → ∀ (j2 : Nat) (p : Int) (K4 : Mem), (T 0 1 - p).toNat < j2 → 0 ≤ p → p ≤ T 0 1 → (∀ q, 0 ≤ q → q < p → K4 138 q = e q) → Fr [138] [] K3 K4 → V G mX12_thinks (d + 4) 0 0 203 [some (.inr (.inl 91)), some (.inl (l)), some (.inl (w)), some (.inl (0)), some (.inl (p))] [] NO K4 P (qI NO (fun r I' P' => P' = P ∧ Fr thS [] I I' ∧ ((r = 1 ∧ (ahS T (T 0 6).toNat 0 (I 98)).2 ≤ 3000 ∧ ∀ p, 0 ≤ p → p < T 0 1 → I' 138 p = (ahS T (T 0 6).toNat 0 (I 98)).1 p) ∨ (r = 0 ∧ 3000 < (ahS T (T 0 6).toNat 0 (I 98)).2)))) := by
            intro e K3 he hwt hFr3 hLE3 hES3 j2
            induction j2 with
            | zero => intro p K4 hj; omega
            | succ j2 ihp =>
              intro p K4 hj hp hp2 hq fr4
              have hFr4 : Fr thS [] I K4 := hFr3.tr (fr4.mo (by decide) (by decide))
              have hTK4 := hT.fr hFr4
              have e1 : K4 91 1 = T 0 1 := hTK4.1 1 (by decide) (by decide)
              have y136 : K4 136 = K3 136 := fr4.1 136 (by decide) (by decide)
              have y137 : K4 137 = K3 137 := fr4.1 137 (by decide) (by decide)
              have y140 : K4 140 = K3 140 := fr4.1 140 (by decide) (by decide)
              have ev : p < T 0 1 → (K4 140 l ≠ 0 → K4 137 (6 * l + p) = e p) ∧ (K4 140 l = 0 → K4 136 (6 * l + p) = e p) := fun q => by
                rw [y136, y137, y140]
                rcases hES3.2 with ⟨h1, h2⟩ | ⟨h1, h2, h3⟩
                · exact ⟨fun z => absurd h1 z, fun _ => by rw [h2]; exact hES3.1 p hp q⟩
                · exact ⟨fun _ => h3 p hp q, fun z => by omega⟩
              have nx : ∀ v, v = e p → p < T 0 1 → V G mX12_thinks (d + 4) 0 0 203 [some (.inr (.inl 91)), some (.inl (l)), some (.inl (w)), some (.inl (0)), some (.inl (p + 1))] [] NO (uI K4 138 p v) P (qI NO (fun r I' P' => P' = P ∧ Fr thS [] I I' ∧ ((r = 1 ∧ (ahS T (T 0 6).toNat 0 (I 98)).2 ≤ 3000 ∧ ∀ p, 0 ≤ p → p < T 0 1 → I' 138 p = (ahS T (T 0 6).toNat 0 (I 98)).1 p) ∨ (r = 0 ∧ 3000 < (ahS T (T 0 6).toNat 0 (I 98)).2)))) := fun v hv q => by
                refine ihp (p + 1) _ (by omega) (by omega) (by omega) (fun q q0 q1 => ?_) (fr4.ui (by decide) (by decide))
                rw [uI_eq]
                by_cases e : q = p
                · rw [e, u1_eq]; exact hv
                · rw [u1_ne e]; exact hq q q0 (by omega)
              refine x_iload (i := 4) dX12_thinks_203 rfl ?_
              refine y_aln (i := 0) dX12_thinks_205 at91.ne0 rfl rfl ?_
              refine y_geti (z := 1) dX12_thinks_206 frX12_316 cfX12 at91 rfl rfl ?_
              refine x_icmp_ge (tgt := 261) dX12_thinks_209 rfl (fun h209 => ?_) (fun h209 => ?_)
              · refine x_iinc dX12_thinks_261 rfl ⟨by omega, by omega⟩ rfl (Nat.le_of_ble_eq_true rfl) ?_
                refine x_goto (tgt := 32) dX12_thinks_264 rfl ?_
                refine x_keep [1, 1, 1, 1, 0] ?_
                have := cont (by omega) K4 hFr4 (hLE3.fr fr4) (fun q q0 q1 => by rw [← he]; exact hq q q0 (by omega))
                rw [← hwt] at this
                exact this
              · refine y_aln (i := 0) dX12_thinks_212 at91.ne0 rfl rfl ?_
                refine y_getp (z := 85) (v := 138) dX12_thinks_213 frX12_163 cfX12 at91 rfl rfl (wp (v := 138) hW rfl rfl (by decide)) ?_
                refine x_iload (i := 4) dX12_thinks_216 rfl ?_
                refine y_aln (i := 0) dX12_thinks_218 at91.ne0 rfl rfl ?_
                refine y_getp (z := 87) (v := 140) dX12_thinks_219 frX12_169 cfX12 at91 rfl rfl (wp (v := 140) hW rfl rfl (by decide)) ?_
                refine x_iload_n (i := 1) dX12_thinks_222 rfl rfl ?_
                refine x_zald dX12_thinks_223 ar140 ⟨by omega, by omega⟩ ?_
                refine x_if_eq (tgt := 242) dX12_thinks_224 rfl (fun h224 => ?_) (fun h224 => ?_)
                · refine y_aln (i := 0) dX12_thinks_242 at91.ne0 rfl rfl ?_
                  refine y_getp (z := 83) (v := 136) dX12_thinks_243 frX12_157 cfX12 at91 rfl rfl (wp (v := 136) hW rfl rfl (by decide)) ?_
                  refine y_bi dX12_thinks_246 ⟨by decide, by decide⟩ ?_
                  refine x_iload_n (i := 1) dX12_thinks_248 rfl rfl ?_
                  refine x_imul dX12_thinks_249 ⟨by omega, by omega⟩ ?_
                  refine x_iload (i := 4) dX12_thinks_250 rfl ?_
                  refine x_iadd dX12_thinks_252 ⟨by omega, by omega⟩ ?_
                  refine x_iald dX12_thinks_253 ar136 ⟨by omega, by omega⟩ ?_
                  refine x_iast dX12_thinks_254 ar138 ⟨by omega, by omega⟩ ?_
                  refine x_iinc dX12_thinks_255 rfl ⟨by omega, by omega⟩ rfl (Nat.le_of_ble_eq_true rfl) ?_
                  refine x_goto (tgt := 203) dX12_thinks_258 rfl ?_
                  refine x_keep [1, 1, 1, 1, 1] ?_
                  first | exact nx _ ((ev (by omega)).1 (by omega)) (by omega) | exact nx _ ((ev (by omega)).2 (by omega)) (by omega)
                · refine y_aln (i := 0) dX12_thinks_227 at91.ne0 rfl rfl ?_
                  refine y_getp (z := 84) (v := 137) dX12_thinks_228 frX12_160 cfX12 at91 rfl rfl (wp (v := 137) hW rfl rfl (by decide)) ?_
                  refine y_bi dX12_thinks_231 ⟨by decide, by decide⟩ ?_
                  refine x_iload_n (i := 1) dX12_thinks_233 rfl rfl ?_
                  refine x_imul dX12_thinks_234 ⟨by omega, by omega⟩ ?_
                  refine x_iload (i := 4) dX12_thinks_235 rfl ?_
                  refine x_iadd dX12_thinks_237 ⟨by omega, by omega⟩ ?_
                  refine x_iald dX12_thinks_238 ar137 ⟨by omega, by omega⟩ ?_
                  refine x_goto (tgt := 254) dX12_thinks_239 rfl ?_
                  refine x_iast dX12_thinks_254 ar138 ⟨by omega, by omega⟩ ?_
                  refine x_iinc dX12_thinks_255 rfl ⟨by omega, by omega⟩ rfl (Nat.le_of_ble_eq_true rfl) ?_
                  refine x_goto (tgt := 203) dX12_thinks_258 rfl ?_
                  refine x_keep [1, 1, 1, 1, 1] ?_
                  first | exact nx _ ((ev (by omega)).1 (by omega)) (by omega) | exact nx _ ((ev (by omega)).2 (by omega)) (by omega)
          have hBack : ∀ (dr' o' z' w2 : Int) (K5 : Mem) (x e : Rw), (dr' = 0 ∨ dr' = 1) → (0 ≤ o' ∧ o' < OFN T) → (0 ≤ z' + 1 ∧ z' + 1 ≤ T 0 2) → w2 = c + (posF T r (mnS T l) (mxS T l) g e0 dr' o' (z' + 1)).2 → (0 ≤ w2 ∧ w2 ≤ 3000) → Fr thS [] I K5 → LE l K K5 → ES T l K5 nn e → (posF T r (mnS T l) (mxS T l) g e0 dr' o' (z' + 1)).1 = ahW T l nn x e → (∀ p, 0 ≤ p → p < T 0 1 → K5 138 p = x p) → K5 139 l = 2 → K5 134 l = dr' → (∀ k, 0 ≤ k → k < T 0 3 → K5 133 (3 * l + k) = OF T o' k) → K5 135 l = z' + 1 - 1 → (18 * OFN T + 9 - psD T dr' o' (z' + 1)).toNat < j → V G mX12_thinks (d + 4) 0 0 32 [some (.inr (.inl 91)), some (.inl (l)), some (.inl (w2)), some (.inl (0)), none] [] NO K5 P (qI NO (fun r I' P' => P' = P ∧ Fr thS [] I I' ∧ ((r = 1 ∧ (ahS T (T 0 6).toNat 0 (I 98)).2 ≤ 3000 ∧ ∀ p, 0 ≤ p → p < T 0 1 → I' 138 p = (ahS T (T 0 6).toNat 0 (I 98)).1 p) ∨ (r = 0 ∧ 3000 < (ahS T (T 0 6).toNat 0 (I 98)).2)))) := fun dr' o' z' w2 K5 x e hd' ho' hz' hw2' hw3 hFr5 hLE5 hES5 hgo1 hx5 v139 v134 v133 v135 hmeas => by
            refine x_iload_n (i := 1) dX12_thinks_32 rfl rfl ?_
            refine x_if_lt (tgt := 267) dX12_thinks_33 rfl (fun h33 => ?_) (fun h33 => ?_)
            · exact absurd h33 (by omega)
            · refine x_iload_n (i := 3) dX12_thinks_36 rfl rfl ?_
              refine x_if_eq (tgt := 96) dX12_thinks_37 rfl (fun h37 => ?_) (fun h37 => ?_)
              · refine x_iload_n (i := 3) dX12_thinks_96 rfl rfl ?_
                refine x_if_eq (tgt := 172) dX12_thinks_97 rfl (fun h97 => ?_) (fun h97 => ?_)
                · refine y_aln (i := 0) dX12_thinks_172 at91.ne0 rfl rfl ?_
                  refine x_iload_n (i := 1) dX12_thinks_173 rfl rfl ?_
                  refine x_callVV (c_X12_learns2 (nn := nn) (x := x) (e := e) hW (hT.fr hFr5) hF hl6 (by omega) hES5 hx5) dX12_thinks_174 lkX12_513 mfX12_learns cfX12 at91 rfl rfl rfl rfl (Nat.le_of_ble_eq_true rfl) (fun n174 I174 P174 hf174 => ?_)
                  obtain ⟨rfl, rfl, fr174, le174, es174⟩ := hf174
                  rw [← hgo1] at es174
                  refine y_aln (i := 0) dX12_thinks_177 at91.ne0 rfl rfl ?_
                  refine y_getp (z := 86) (v := 139) dX12_thinks_178 frX12_166 cfX12 at91 rfl rfl (wp (v := 139) hW rfl rfl (by decide)) ?_
                  refine x_iload_n (i := 1) dX12_thinks_181 rfl rfl ?_
                  refine y_ic dX12_thinks_182 ⟨by decide, by decide⟩ ?_
                  refine x_iast dX12_thinks_183 ar139 ⟨by omega, by omega⟩ ?_
                  refine x_keep [1, 1, 1, 1, 0] ?_
                  refine ihj dr' o' (z' + 1) w2 _ hmeas hd' ho' hz' hw2' hw3 ((hFr5.tr (fr174.mo (by decide) (by decide))).ui (by decide) (by decide)) ((hLE5.tr le174).ui ⟨fun q => by omega, fun q => by omega, fun _ => by omega, fun q => by omega⟩) ?_ (by rw [uI_eq, u1_eq]) (by rw [uI_ne (by decide), fr174.1 134 (by decide) (by decide)]; exact v134) (by rw [uI_ne (by decide), fr174.1 133 (by decide) (by decide)]; exact v133) (by rw [uI_ne (by decide), fr174.1 135 (by decide) (by decide)]; exact v135)
                  unfold ES
                  rw [uI_ne (by decide), uI_ne (by decide), uI_ne (by decide)]
                  exact es174
                · exact absurd rfl h97
              · exact absurd rfl h37
          refine y_aln (i := 0) dX12_thinks_184 at91.ne0 rfl rfl ?_
          refine x_iload_n (i := 1) dX12_thinks_185 rfl rfl ?_
          refine x_callVI (c_X12_advances (r := r) hW hTK hF hl6 hrow2 hr h134 hd ho hz h133 h135) dX12_thinks_186 lkX12_516 mfX12_advances cfX12 at91 rfl rfl rfl rfl (Nat.le_of_ble_eq_true rfl) (fun r186 I186 P186 hr186 hf186 => ?_)
          obtain ⟨rfl, fr186, le186, h186⟩ := hf186
          have hFr3 : Fr thS [] I I186 := hFr2.tr (fr186.mo (by decide) (by decide))
          have z136 : I186 136 = K2 136 := fr186.1 136 (by decide) (by decide)
          have z137 : I186 137 = K2 137 := fr186.1 137 (by decide) (by decide)
          have z139 : I186 139 = K2 139 := fr186.1 139 (by decide) (by decide)
          have z140 : I186 140 = K2 140 := fr186.1 140 (by decide) (by decide)
          have hES3 : ES T l I186 nn (posF T r (mnS T l) (mxS T l) g e0 dr o z).1 := by
            unfold ES
            rw [z136, z137, z140]
            exact hES
          have hLE3 : LE l K I186 := hLE.tr le186
          refine x_if_eq (tgt := 200) dX12_thinks_189 rfl (fun h189 => ?_) (fun h189 => ?_)
          · obtain ⟨-, hp⟩ := h186.resolve_right (fun q => by have := q.1; omega)
            have hpt : posF T r (mnS T l) (mxS T l) g e0 dr o z = ahS T (n + 1) l r := by rw [hall]; exact hp g e0
            rw [hpt] at hES3 hw
            refine y_ic dX12_thinks_200 ⟨by decide, by decide⟩ ?_
            refine x_istore (i := 4) dX12_thinks_201 rfl (Nat.le_of_ble_eq_true rfl) ?_
            refine x_keep [1, 1, 1, 1, 1] ?_
            exact hEnd _ I186 rfl hw hFr3 hLE3 hES3 _ 0 I186 (Nat.lt_succ_self _) (by decide) f1.1 (fun q q0 q1 => by omega) Fr.rf
          · obtain ⟨-, dr', o', z', hd', ho', hz', hps, hlaw, hpos, w134, w133, w135, wrow⟩ := h186.resolve_left (fun q => by have := q.1; omega)
            refine y_ic dX12_thinks_192 ⟨by decide, by decide⟩ ?_
            refine x_istore_n (i := 3) dX12_thinks_193 rfl rfl (Nat.le_of_ble_eq_true rfl) ?_
            refine x_iinc dX12_thinks_194 rfl ⟨by omega, by omega⟩ rfl (Nat.le_of_ble_eq_true rfl) ?_
            refine x_goto (tgt := 32) dX12_thinks_197 rfl ?_
            refine x_keep [1, 1, 1, 1, 0] ?_
            have hab : (0 ≤ aD (mnS T l) (mxS T l) dr' ∧ aD (mnS T l) (mxS T l) dr' < T 0 1) ∧ (0 ≤ aD (mxS T l) (mnS T l) dr' ∧ aD (mxS T l) (mnS T l) dr' < T 0 1) ∧ aD (mnS T l) (mxS T l) dr' ≠ aD (mxS T l) (mnS T l) dr' := by unfold aD; split <;> omega
            have hRW := deal_RW (γ := OF T o') hF hr hab.1 hab.2.1 hab.2.2 hz' (OFd hF ho'.1 ho'.2) hlaw
            have hpe := hpos g e0
            have hz1 : 0 ≤ z' + 1 ∧ z' + 1 ≤ T 0 2 := ⟨by omega, by omega⟩
            have hms : (18 * OFN T + 9 - psD T dr' o' (z' + 1)).toNat < j := by
              rw [psD_s]
              exact ms_lt hj hps (Int.le_trans (psD_bd hF hd ho hz).2 (Int.le_add_of_nonneg_right (by decide)))
            have hgo : posF T r (mnS T l) (mxS T l) g e0 dr' o' (z' + 1) = g (dealS T r (aD (mnS T l) (mxS T l) dr') (aD (mxS T l) (mnS T l) dr') (OF T o') z') (posF T r (mnS T l) (mxS T l) g e0 dr' o' z') := posF_go hd' hz'.1 hlaw
            have hle := hple dr' o' (z' + 1) hd' ho' (by omega)
            obtain ⟨r2, hr2⟩ : ∃ r2, r2 = dealS T r (aD (mnS T l) (mxS T l) dr') (aD (mxS T l) (mnS T l) dr') (OF T o') z' := ⟨_, rfl⟩
            rw [← hr2] at hgo hRW wrow
            have hgo1 : (posF T r (mnS T l) (mxS T l) g e0 dr' o' (z' + 1)).1 = ahW T l nn (ahS T n (l + 1) r2).1 (posF T r (mnS T l) (mxS T l) g e0 dr o z).1 := by rw [hgo, hgx, hpe]; rfl
            have hgo2 : (posF T r (mnS T l) (mxS T l) g e0 dr' o' (z' + 1)).2 = (posF T r (mnS T l) (mxS T l) g e0 dr o z).2 + (ahS T n (l + 1) r2).2 := by rw [hgo, hgx, hpe]; rfl
            have hS2 := hnn r2
            refine ihn (l + 1) w r2 I186 (by omega) (by omega) hw2 wrow hRW hFr3 (fun q => hfail (by omega)) (fun hle3 K5 hFr5 hLE5 hx5 => ?_)
            have hES5 := hES3.le hF hLE5
            have hLE5' : LE l K K5 := hLE3.tr (hLE5.up (by omega))
            have v139 : K5 139 l = 2 := by rw [(hLE5.2.2.1 l (by omega)).2.2.1, z139]; exact h139
            have v134 : K5 134 l = dr' := by rw [(hLE5.2.2.1 l (by omega)).1]; exact w134
            have v135 : K5 135 l = z' + 1 - 1 := by rw [(hLE5.2.2.1 l (by omega)).2.1]; omega
            have v133 : ∀ k, 0 ≤ k → k < T 0 3 → K5 133 (3 * l + k) = OF T o' k := fun k k0 k1 => by
              have := hF.2.2.1
              rw [hLE5.2.1 _ (by omega)]; exact w133 k k0 k1
            rw [show l + 1 - 1 = l by omega]
            exact hBack dr' o' z' (w + (ahS T n (l + 1) r2).2) K5 (ahS T n (l + 1) r2).1 _ hd' ho' hz1 (by rw [hgo2, hw, Int.add_assoc]) ⟨Int.add_nonneg hw2.1 hS2, hle3⟩ hFr5 hLE5' hES5 hgo1 hx5 v139 v134 v133 v135 hms
      have hBack1 : ∀ K5 : Mem, c + 1 + (ahS T n (l + 1) r).2 ≤ 3000 → Fr thS [] I K5 → LE l K K5 → K5 139 l = 1 → K5 140 l = 0 → (∀ p, 0 ≤ p → p < T 0 1 → K5 138 p = nn p) → K5 134 l = 0 → K5 135 l = -1 → (∀ k, 0 ≤ k → k < T 0 3 → K5 133 (3 * l + k) = 0) → V G mX12_thinks (d + 4) 0 0 32 [some (.inr (.inl 91)), some (.inl (l)), some (.inl (c + 1 + (ahS T n (l + 1) r).2)), some (.inl (0)), none] [] NO K5 P (qI NO (fun r I' P' => P' = P ∧ Fr thS [] I I' ∧ ((r = 1 ∧ (ahS T (T 0 6).toNat 0 (I 98)).2 ≤ 3000 ∧ ∀ p, 0 ≤ p → p < T 0 1 → I' 138 p = (ahS T (T 0 6).toNat 0 (I 98)).1 p) ∨ (r = 0 ∧ 3000 < (ahS T (T 0 6).toNat 0 (I 98)).2)))) := fun K5 hle hFr5 hLE5 v139 v140 hx5 v134 v135 v133 => by
        have hS0 := hnn r
        have hp0 : posF T r (mnS T l) (mxS T l) g e0 0 0 0 = e0 := by rw [posF_0, trP_0]
        refine x_iload_n (i := 1) dX12_thinks_32 rfl rfl ?_
        refine x_if_lt (tgt := 267) dX12_thinks_33 rfl (fun h33 => ?_) (fun h33 => ?_)
        · exact absurd h33 (by omega)
        · refine x_iload_n (i := 3) dX12_thinks_36 rfl rfl ?_
          refine x_if_eq (tgt := 96) dX12_thinks_37 rfl (fun h37 => ?_) (fun h37 => ?_)
          · refine x_iload_n (i := 3) dX12_thinks_96 rfl rfl ?_
            refine x_if_eq (tgt := 172) dX12_thinks_97 rfl (fun h97 => ?_) (fun h97 => ?_)
            · refine y_aln (i := 0) dX12_thinks_172 at91.ne0 rfl rfl ?_
              refine x_iload_n (i := 1) dX12_thinks_173 rfl rfl ?_
              refine x_callVV (c_X12_learns1 (nn := nn) hW (hT.fr hFr5) hF hl6 v139 v140 hx5) dX12_thinks_174 lkX12_513 mfX12_learns cfX12 at91 rfl rfl rfl rfl (Nat.le_of_ble_eq_true rfl) (fun n174 I174 P174 hf174 => ?_)
              obtain ⟨rfl, rfl, fr174, le174, es174⟩ := hf174
              refine y_aln (i := 0) dX12_thinks_177 at91.ne0 rfl rfl ?_
              refine y_getp (z := 86) (v := 139) dX12_thinks_178 frX12_166 cfX12 at91 rfl rfl (wp (v := 139) hW rfl rfl (by decide)) ?_
              refine x_iload_n (i := 1) dX12_thinks_181 rfl rfl ?_
              refine y_ic dX12_thinks_182 ⟨by decide, by decide⟩ ?_
              refine x_iast dX12_thinks_183 ar139 ⟨by omega, by omega⟩ ?_
              refine x_keep [1, 1, 1, 1, 0] ?_
              refine hAdv _ 0 0 0 (c + 1 + (ahS T n (l + 1) r).2) _ (Nat.lt_succ_self _) (Or.inl rfl) ⟨by decide, hON.1⟩ ⟨by decide, by omega⟩ (by rw [hp0, he0]; show _ = c + (1 + _); omega) ⟨by omega, hle⟩ ((hFr5.tr (fr174.mo (by decide) (by decide))).ui (by decide) (by decide)) ((hLE5.tr le174).ui ⟨fun q => by omega, fun q => by omega, fun _ => by omega, fun q => by omega⟩) ?_ (by rw [uI_eq, u1_eq]) (by rw [uI_ne (by decide), fr174.1 134 (by decide) (by decide)]; exact v134) (fun k k0 k1 => by rw [uI_ne (by decide), fr174.1 133 (by decide) (by decide), OF_0 hF k0 k1]; exact v133 k k0 k1) (by rw [uI_ne (by decide), fr174.1 135 (by decide) (by decide)]; exact v135)
              unfold ES
              rw [uI_ne (by decide), uI_ne (by decide), uI_ne (by decide), hp0, he0]
              exact es174
            · exact absurd rfl h97
          · exact absurd rfl h37
      have hCopy : c + 1 ≤ 3000 → ∀ (j : Nat) (k : Int) (K2 : Mem), (48 - k).toNat < j → 0 ≤ k → k ≤ 48 → (∀ x, 0 ≤ x → x < k → K2 132 (48 * (l + 1) + x) = r x) → K2 140 l = 0 → K2 134 l = 0 → K2 135 l = -1 → (∀ k, 0 ≤ k → k < T 0 3 → K2 133 (3 * l + k) = 0) → Fr thS [] I K2 → LE l K K2 → V G mX12_thinks (d + 4) 0 0 120 [some (.inr (.inl 91)), some (.inl (l)), some (.inl (c + 1)), some (.inl (1)), some (.inl (k))] [] NO K2 P (qI NO (fun r I' P' => P' = P ∧ Fr thS [] I I' ∧ ((r = 1 ∧ (ahS T (T 0 6).toNat 0 (I 98)).2 ≤ 3000 ∧ ∀ p, 0 ≤ p → p < T 0 1 → I' 138 p = (ahS T (T 0 6).toNat 0 (I 98)).1 p) ∨ (r = 0 ∧ 3000 < (ahS T (T 0 6).toNat 0 (I 98)).2)))) := by
        intro hc1 j
        induction j with
        | zero => intro k K2 hj; omega
        | succ j ihk =>
          intro k K2 hj hk hk2 hx v140 v134 v135 v133 hFr2 hLE
          refine x_iload (i := 4) dX12_thinks_120 rfl ?_
          refine y_bi dX12_thinks_122 ⟨by decide, by decide⟩ ?_
          refine x_icmp_ge (tgt := 159) dX12_thinks_124 rfl (fun h124 => ?_) (fun h124 => ?_)
          · refine y_aln (i := 0) dX12_thinks_159 at91.ne0 rfl rfl ?_
            refine y_getp (z := 86) (v := 139) dX12_thinks_160 frX12_166 cfX12 at91 rfl rfl (wp (v := 139) hW rfl rfl (by decide)) ?_
            refine x_iload_n (i := 1) dX12_thinks_163 rfl rfl ?_
            refine y_ic dX12_thinks_164 ⟨by decide, by decide⟩ ?_
            refine x_iast dX12_thinks_165 ar139 ⟨by omega, by omega⟩ ?_
            refine x_iinc dX12_thinks_166 rfl ⟨by omega, by omega⟩ rfl (Nat.le_of_ble_eq_true rfl) ?_
            refine x_goto (tgt := 32) dX12_thinks_169 rfl ?_
            refine x_keep [1, 1, 1, 1, 0] ?_
            have hFr3 : Fr thS [] I (uI K2 139 l 1) := hFr2.ui (by decide) (by decide)
            have hLE3 : LE l K (uI K2 139 l 1) := hLE.ui ⟨fun q => by omega, fun q => by omega, fun _ => by omega, fun q => by omega⟩
            refine ihn (l + 1) (c + 1) r (uI K2 139 l 1) (by omega) (by omega) ⟨by omega, hc1⟩ (fun x x0 x1 => by rw [uI_ne (by decide)]; exact hx x x0 (by omega)) hr hFr3 (fun q => hfail (by omega)) (fun hle3 K5 hFr5 hLE5 hx5 => ?_)
            rw [show l + 1 - 1 = l by omega]
            have hq := hLE5.2.2.1 l (by omega)
            refine hBack1 K5 hle3 hFr5 (hLE3.tr (hLE5.up (by omega))) (by rw [hq.2.2.1, uI_eq, u1_eq]) (by rw [hq.2.2.2, uI_ne (by decide)]; exact v140) (by rw [hnn0]; exact hx5) (by rw [hq.1, uI_ne (by decide)]; exact v134) (by rw [hq.2.1, uI_ne (by decide)]; exact v135) (fun k k0 k1 => ?_)
            have := hF.2.2.1
            rw [hLE5.2.1 _ (by omega), uI_ne (by decide)]; exact v133 k k0 k1
          · refine y_aln (i := 0) dX12_thinks_127 at91.ne0 rfl rfl ?_
            refine y_getp (z := 79) (v := 132) dX12_thinks_128 frX12_145 cfX12 at91 rfl rfl (wp (v := 132) hW rfl rfl (by decide)) ?_
            refine y_bi dX12_thinks_131 ⟨by decide, by decide⟩ ?_
            refine x_iload_n (i := 1) dX12_thinks_133 rfl rfl ?_
            refine y_ic dX12_thinks_134 ⟨by decide, by decide⟩ ?_
            refine x_iadd dX12_thinks_135 ⟨by omega, by omega⟩ ?_
            refine x_imul dX12_thinks_136 ⟨by omega, by omega⟩ ?_
            refine x_iload (i := 4) dX12_thinks_137 rfl ?_
            refine x_iadd dX12_thinks_139 ⟨by omega, by omega⟩ ?_
            refine y_aln (i := 0) dX12_thinks_140 at91.ne0 rfl rfl ?_
            refine y_getp (z := 79) (v := 132) dX12_thinks_141 frX12_145 cfX12 at91 rfl rfl (wp (v := 132) hW rfl rfl (by decide)) ?_
            refine y_bi dX12_thinks_144 ⟨by decide, by decide⟩ ?_
            refine x_iload_n (i := 1) dX12_thinks_146 rfl rfl ?_
            refine x_imul dX12_thinks_147 ⟨by omega, by omega⟩ ?_
            refine x_iload (i := 4) dX12_thinks_148 rfl ?_
            refine x_iadd dX12_thinks_150 ⟨by omega, by omega⟩ ?_
            refine x_iald dX12_thinks_151 ar132 ⟨by omega, by omega⟩ ?_
            rw [hLE.1 _ (by omega), hrow k hk (by omega)]
            refine x_iast dX12_thinks_152 ar132 ⟨by omega, by omega⟩ ?_
            refine x_iinc dX12_thinks_153 rfl ⟨by omega, by omega⟩ rfl (Nat.le_of_ble_eq_true rfl) ?_
            refine x_goto (tgt := 120) dX12_thinks_156 rfl ?_
            refine x_keep [1, 1, 1, 1, 1] ?_
            refine ihk (k + 1) _ (by omega) (by omega) (by omega) (fun x x0 x1 => ?_) (by rw [uI_ne (by decide)]; exact v140) (by rw [uI_ne (by decide)]; exact v134) (by rw [uI_ne (by decide)]; exact v135) (by rw [uI_ne (by decide)]; exact v133) (hFr2.ui (by decide) (by decide)) (hLE.ui ⟨fun _ => by omega, fun q => by omega, fun q => by omega, fun q => by omega⟩)
            rw [uI_eq]
            by_cases e : x = k
            · rw [e, u1_eq]
            · rw [u1_ne (by omega)]; exact hx x x0 (by omega)
      have hnr := hnn r
      refine x_iload_n (i := 1) dX12_thinks_32 rfl rfl ?_
      refine x_if_lt (tgt := 267) dX12_thinks_33 rfl (fun h33 => ?_) (fun h33 => ?_)
      · exact absurd h33 (by omega)
      · refine x_iload_n (i := 3) dX12_thinks_36 rfl rfl ?_
        refine x_if_eq (tgt := 96) dX12_thinks_37 rfl (fun h37 => ?_) (fun h37 => ?_)
        · exact absurd h37 (by decide)
        · refine x_iload_n (i := 1) dX12_thinks_40 rfl rfl ?_
          refine y_aln (i := 0) dX12_thinks_41 at91.ne0 rfl rfl ?_
          refine y_geti (z := 6) dX12_thinks_42 frX12_322 cfX12 at91 rfl rfl ?_
          refine x_icmp_ne (tgt := 96) dX12_thinks_45 rfl (fun h45 => ?_) (fun h45 => ?_)
          · refine x_iload_n (i := 3) dX12_thinks_96 rfl rfl ?_
            refine x_if_eq (tgt := 172) dX12_thinks_97 rfl (fun h97 => ?_) (fun h97 => ?_)
            · exact absurd h97 (by decide)
            · refine x_iinc dX12_thinks_100 rfl ⟨by omega, by omega⟩ rfl (Nat.le_of_ble_eq_true rfl) ?_
              refine x_iload_n (i := 2) dX12_thinks_103 rfl rfl ?_
              refine y_si dX12_thinks_104 ⟨by decide, by decide⟩ ?_
              refine x_icmp_le (tgt := 112) dX12_thinks_107 rfl (fun h107 => ?_) (fun h107 => ?_)
              · refine y_aln (i := 0) dX12_thinks_112 at91.ne0 rfl rfl ?_
                refine x_iload_n (i := 1) dX12_thinks_113 rfl rfl ?_
                refine x_callVV (c_X12_opens hW (hT.fr hFr) hF ⟨hl, by omega⟩) dX12_thinks_114 lkX12_510 mfX12_opens cfX12 at91 rfl rfl rfl rfl (Nat.le_of_ble_eq_true rfl) (fun n114 I114 P114 hf114 => ?_)
                obtain ⟨rfl, rfl, fr114, le114, o139, o140, o134, o135, o133⟩ := hf114
                refine y_ic dX12_thinks_117 ⟨by decide, by decide⟩ ?_
                refine x_istore (i := 4) dX12_thinks_118 rfl (Nat.le_of_ble_eq_true rfl) ?_
                refine x_keep [1, 1, 1, 1, 1] ?_
                exact hCopy (by omega) _ 0 I114 (Nat.lt_succ_self _) (by decide) (by decide) (fun x x0 x1 => by omega) o140 o134 o135 o133 (hFr.tr (fr114.mo (by decide) (by decide))) le114
              · refine y_ic dX12_thinks_110 ⟨by decide, by decide⟩ ?_
                refine x_zret dX12_thinks_111 (by omega) rfl ?_
                exact ⟨rfl, hFr, Or.inr ⟨rfl, by rw [← htot]; exact hfail (by omega)⟩⟩
          · exact absurd h45 (by omega)
  have hFin : ∀ (w : Int) (K' : Mem), Fr thS [] I K' → tot ≤ 3000 → (∀ p, 0 ≤ p → p < T 0 1 → K' 138 p = (ahS T (T 0 6).toNat 0 (I 98)).1 p) → V G mX12_thinks (d + 4) 0 0 32 [some (.inr (.inl 91)), some (.inl (-1)), some (.inl (w)), some (.inl (0)), none] [] NO K' P (qI NO (fun r I' P' => P' = P ∧ Fr thS [] I I' ∧ ((r = 1 ∧ (ahS T (T 0 6).toNat 0 (I 98)).2 ≤ 3000 ∧ ∀ p, 0 ≤ p → p < T 0 1 → I' 138 p = (ahS T (T 0 6).toNat 0 (I 98)).1 p) ∨ (r = 0 ∧ 3000 < (ahS T (T 0 6).toNat 0 (I 98)).2)))) := fun w K' hFr hle hx => by
    refine x_iload_n (i := 1) dX12_thinks_32 rfl rfl ?_
    refine x_if_lt (tgt := 267) dX12_thinks_33 rfl (fun h33 => ?_) (fun h33 => ?_)
    · refine y_ic dX12_thinks_267 ⟨by decide, by decide⟩ ?_
      refine x_zret dX12_thinks_268 (by omega) rfl ?_
      exact ⟨rfl, hFr, Or.inl ⟨rfl, by rw [← htot]; exact hle, hx⟩⟩
    · exact absurd (show (-1 : Int) < 0 by decide) (by omega)
  have hI : ∀ (j : Nat) (k : Int) (K : Mem), (48 - k).toNat < j → 0 ≤ k → k ≤ 48 → (∀ x, 0 ≤ x → x < k → K 132 x = I 98 x) → Fr thS [] I K → V G mX12_thinks (d + 4) 0 0 2 [some (.inr (.inl 91)), some (.inl (k)), none, none, none] [] NO K P (qI NO (fun r I' P' => P' = P ∧ Fr thS [] I I' ∧ ((r = 1 ∧ (ahS T (T 0 6).toNat 0 (I 98)).2 ≤ 3000 ∧ ∀ p, 0 ≤ p → p < T 0 1 → I' 138 p = (ahS T (T 0 6).toNat 0 (I 98)).1 p) ∨ (r = 0 ∧ 3000 < (ahS T (T 0 6).toNat 0 (I 98)).2)))) := by
    intro j
    induction j with
    | zero => intro k K hj; omega
    | succ j ih =>
      intro k K hj hk hk2 hx hFr
      have e98 : K 98 = I 98 := hFr.1 98 (by decide) (by decide)
      refine x_iload_n (i := 1) dX12_thinks_2 rfl rfl ?_
      refine y_bi dX12_thinks_3 ⟨by decide, by decide⟩ ?_
      refine x_icmp_ge (tgt := 26) dX12_thinks_5 rfl (fun h5 => ?_) (fun h5 => ?_)
      · refine y_ic dX12_thinks_26 ⟨by decide, by decide⟩ ?_
        refine x_istore_n (i := 1) dX12_thinks_27 rfl rfl (Nat.le_of_ble_eq_true rfl) ?_
        refine y_ic dX12_thinks_28 ⟨by decide, by decide⟩ ?_
        refine x_istore_n (i := 2) dX12_thinks_29 rfl rfl (Nat.le_of_ble_eq_true rfl) ?_
        refine y_ic dX12_thinks_30 ⟨by decide, by decide⟩ ?_
        refine x_istore_n (i := 3) dX12_thinks_31 rfl rfl (Nat.le_of_ble_eq_true rfl) ?_
        refine x_keep [1, 1, 1, 1, 0] ?_
        refine hD (T 0 6).toNat 0 0 (I 98) K (by omega) (by decide) ⟨by decide, by decide⟩ (fun x x0 x1 => by rw [show 48 * 0 + x = x by omega]; exact hx x x0 (by omega)) hr0 hFr (fun q => by rw [htot]; omega) (fun hle K' hFr' _ hx' => ?_)
        exact hFin _ K' hFr' (by rw [htot]; omega) hx'
      · refine y_aln (i := 0) dX12_thinks_8 at91.ne0 rfl rfl ?_
        refine y_getp (z := 79) (v := 132) dX12_thinks_9 frX12_145 cfX12 at91 rfl rfl (wp (v := 132) hW rfl rfl (by decide)) ?_
        refine x_iload_n (i := 1) dX12_thinks_12 rfl rfl ?_
        refine y_aln (i := 0) dX12_thinks_13 at91.ne0 rfl rfl ?_
        refine y_getp (z := 14) (v := 98) dX12_thinks_14 frX12_38 cfX12 at91 rfl rfl (wp (v := 98) hW rfl rfl (by decide)) ?_
        refine x_iload_n (i := 1) dX12_thinks_17 rfl rfl ?_
        refine x_iald dX12_thinks_18 ar98 ⟨by omega, by omega⟩ ?_
        rw [e98]
        refine x_iast dX12_thinks_19 ar132 ⟨by omega, by omega⟩ ?_
        refine x_iinc dX12_thinks_20 rfl ⟨by omega, by omega⟩ rfl (Nat.le_of_ble_eq_true rfl) ?_
        refine x_goto (tgt := 2) dX12_thinks_23 rfl ?_
        refine x_keep [1, 1, 0, 0, 0] ?_
        refine ih (k + 1) _ (by omega) (by omega) (by omega) (fun x x0 x1 => ?_) (hFr.ui (by decide) (by decide))
        rw [uI_eq]
        by_cases e : x = k
        · rw [e, u1_eq]
        · rw [u1_ne e]; exact hx x x0 (by omega)
  refine y_ic dX12_thinks_0 ⟨by decide, by decide⟩ ?_
  refine x_istore_n (i := 1) dX12_thinks_1 rfl rfl (Nat.le_of_ble_eq_true rfl) ?_
  refine x_keep [1, 1, 0, 0, 0] ?_
  exact hI _ 0 I (Nat.lt_succ_self _) (by decide) (by decide) (fun x x0 x1 => by omega) Fr.rf
theorem c_X12_ahead {p : Int} (hW : WP P) (hT : MT I T) (hF : WF T) (hr : RW T (I 98)) : Cv G mX12_ahead (d + 5) 0 0 [.inr (.inl 91), .inl p] NO I P (qI NO (fun r I' P' => P' = P ∧ ((¬ (0 ≤ p ∧ p < T 0 1) ∧ r = 0 ∧ I' = uI (uI I 91 0 0) 91 0 1) ∨ ((0 ≤ p ∧ p < T 0 1) ∧ I' 91 0 = 0 ∧ Fr thS [0] I I' ∧ r = if (ahS T (T 0 6).toNat 0 (I 98)).2 ≤ 3000 then (ahS T (T 0 6).toNat 0 (I 98)).1 p else -2)))) := by
  have hT0 : MT (uI I 91 0 0) T := hT.uf (by decide)
  have e98 : uI I 91 0 0 98 = I 98 := uI_ne (by decide)
  have f1 := hF.1
  refine x_enter mfX12_ahead rfl (Nat.le_of_ble_eq_true rfl) (fun _ => ?_)
  refine y_aln (i := 0) dX12_ahead_0 at91.ne0 rfl rfl ?_
  refine y_ic dX12_ahead_1 ⟨by decide, by decide⟩ ?_
  refine y_puti (z := 0) dX12_ahead_2 frX12_184 cfX12 at91 rfl rfl rfl ?_
  refine y_aln (i := 0) dX12_ahead_5 at91.ne0 rfl rfl ?_
  refine x_iload_n (i := 1) dX12_ahead_6 rfl rfl ?_
  refine x_callVI (c_X12_isPerson hW hT0 z_0) dX12_ahead_7 lkX12_362 mfX12_isPerson cfX12 at91 rfl rfl rfl rfl (Nat.le_of_ble_eq_true rfl) (fun r7 I7 P7 hr7 hf7 => ?_)
  obtain ⟨rfl, hr7⟩ := hf7
  refine x_if_ne (tgt := 15) dX12_ahead_10 rfl (fun h10 => ?_) (fun h10 => ?_)
  · obtain ⟨-, op, hI7⟩ := hr7.resolve_right (fun q => by have := q.1; omega)
    rw [hI7]
    refine y_aln (i := 0) dX12_ahead_15 at91.ne0 rfl rfl ?_
    refine x_callVI (c_X12_thinks hW hT0 hF (by rw [e98]; exact hr)) dX12_ahead_16 lkX12_519 mfX12_thinks cfX12 at91 rfl rfl rfl rfl (Nat.le_of_ble_eq_true rfl) (fun r16 I16 P16 hr16 hf16 => ?_)
    rw [e98] at hf16
    obtain ⟨rfl, fr16, h16⟩ := hf16
    have hFr : Fr thS [0] I I16 := (Fr.rf.uf (by decide)).tr (fr16.mo (by decide) (by decide))
    have z1 : I16 91 0 = 0 := by rw [fr16.2 0 (by decide), uI_eq, u1_eq]
    refine x_if_eq (tgt := 31) dX12_ahead_19 rfl (fun h19 => ?_) (fun h19 => ?_)
    · refine y_bi dX12_ahead_31 ⟨by decide, by decide⟩ ?_
      refine x_iret dX12_ahead_33 rfl ?_
      first | (obtain ⟨-, h1, h2⟩ := h16.resolve_right (fun q => by have := q.1; omega); exact ⟨rfl, Or.inr ⟨op, z1, hFr, by rw [if_pos h1]; exact h2 p op.1 op.2⟩⟩) | (obtain ⟨-, h1⟩ := h16.resolve_left (fun q => by have := q.1; omega); exact ⟨rfl, Or.inr ⟨op, z1, hFr, by rw [if_neg (by omega)]⟩⟩)
    · refine y_aln (i := 0) dX12_ahead_22 at91.ne0 rfl rfl ?_
      refine y_getp (z := 85) (v := 138) dX12_ahead_23 frX12_163 cfX12 at91 rfl rfl (wp (v := 138) hW rfl rfl (by decide)) ?_
      refine x_iload_n (i := 1) dX12_ahead_26 rfl rfl ?_
      refine x_iald dX12_ahead_27 ar138 ⟨by omega, by omega⟩ ?_
      refine x_goto (tgt := 33) dX12_ahead_28 rfl ?_
      refine x_iret dX12_ahead_33 rfl ?_
      first | (obtain ⟨-, h1, h2⟩ := h16.resolve_right (fun q => by have := q.1; omega); exact ⟨rfl, Or.inr ⟨op, z1, hFr, by rw [if_pos h1]; exact h2 p op.1 op.2⟩⟩) | (obtain ⟨-, h1⟩ := h16.resolve_left (fun q => by have := q.1; omega); exact ⟨rfl, Or.inr ⟨op, z1, hFr, by rw [if_neg (by omega)]⟩⟩)
  · obtain ⟨-, no, hI7⟩ := hr7.resolve_left (fun q => by have := q.1; omega)
    refine y_ic dX12_ahead_13 ⟨by decide, by decide⟩ ?_
    refine x_iret dX12_ahead_14 rfl ?_
    exact ⟨rfl, Or.inl ⟨no, rfl, hI7⟩⟩
end

