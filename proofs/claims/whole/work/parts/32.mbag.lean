/-! ===== bags: all of one number of things, in order; the reference's poorest bag ===== -/
/-- what is wanting still, i sorts from the last on being filled -/
def remS (so : Int) (fu : Rw) (m i : Int) : Int := itN (fun i l => l - min (fu (so - 1 - i)) l) i m
theorem remS_0 {so : Int} {fu : Rw} {m : Int} : remS so fu m 0 = m := rfl
theorem remS_s {so : Int} {fu : Rw} {m i : Int} (h : 0 ≤ i) : remS so fu m (i + 1) = remS so fu m i - min (fu (so - 1 - i)) (remS so fu m i) := itN_s _ _ h
/-- all of b's things behind a sort -/
def latS (so : Int) (b : Rw) (i : Int) : Int := sumN (fun i => b (so - 1 - i)) i
theorem latS_0 {so : Int} {b : Rw} : latS so b 0 = 0 := rfl
theorem latS_s {so : Int} {b : Rw} {i : Int} (h : 0 ≤ i) : latS so b (i + 1) = latS so b i + b (so - 1 - i) := sumN_s _ h
theorem remS_is {so : Int} {fu : Rw} {m : Int} (hm : 0 ≤ m) {i : Int} (hi : 0 ≤ i) (h : ∀ s, so - i ≤ s → s < so → 0 ≤ fu s) : remS so fu m i = max 0 (m - latS so fu i) := by
  refine int_ind (p := fun i => (∀ s, so - i ≤ s → s < so → 0 ≤ fu s) → remS so fu m i = max 0 (m - latS so fu i)) (fun _ => by rw [remS_0, latS_0]; omega) (fun k hk ih hh => ?_) i hi h
  have h1 := ih (fun s s0 s1 => hh s (by omega) s1)
  have h2 := hh (so - 1 - k) (by omega) (by omega)
  rw [remS_s hk, latS_s hk, h1]
  omega
theorem remS_bd {so : Int} {fu : Rw} {m : Int} (hm : 0 ≤ m) {i : Int} (hi : 0 ≤ i) (h : ∀ s, so - i ≤ s → s < so → 0 ≤ fu s) : 0 ≤ remS so fu m i ∧ remS so fu m i ≤ m := by
  have h1 := remS_is hm hi h
  have h2 : 0 ≤ latS so fu i := sumN_nn (fun j j0 j1 => h _ (by omega) (by omega))
  omega
def fillS (so : Int) (fu : Rw) (f m : Int) (b : Rw) : Rw := fun s => if f ≤ s then min (fu s) (remS so fu m (so - 1 - s)) else b s
def BG (so : Int) (fu b : Rw) : Prop := ∀ s, 0 ≤ s → s < so → 0 ≤ b s ∧ b s ≤ fu s
theorem fillS_BG {so : Int} {fu b : Rw} {f m : Int} (hm : 0 ≤ m) (h : ∀ s, 0 ≤ s → s < so → 0 ≤ fu s) (hb : ∀ s, 0 ≤ s → s < f → s < so → 0 ≤ b s ∧ b s ≤ fu s) : BG so fu (fillS so fu f m b) := fun s s0 s1 => by
  have h1 := remS_bd (so := so) (fu := fu) (i := so - 1 - s) hm (by omega) (fun t t0 t1 => h t (by omega) t1)
  have h2 := h s s0 s1
  unfold fillS
  split
  · omega
  · exact hb s s0 (by omega) s1
theorem latS_le {so : Int} {fu b : Rw} (h : BG so fu b) {i : Int} (hi : 0 ≤ i ∧ i ≤ so) : 0 ≤ latS so b i ∧ latS so b i ≤ latS so fu i := by
  refine int_ind (p := fun i => i ≤ so → 0 ≤ latS so b i ∧ latS so b i ≤ latS so fu i) (fun _ => ⟨Int.le_refl _, Int.le_refl _⟩) (fun k hk ih hh => ?_) i hi.1 hi.2
  have h1 := ih (by omega)
  have h2 := h (so - 1 - k) (by omega) (by omega)
  rw [latS_s hk, latS_s hk]
  omega
theorem sumN_front (f : Int → Int) {n : Int} (h : 0 ≤ n) : sumN f (n + 1) = f 0 + sumN (fun i => f (i + 1)) n := by
  refine int_ind (p := fun n => sumN f (n + 1) = f 0 + sumN (fun i => f (i + 1)) n) ?_ (fun k hk ih => ?_) n h
  · rw [sumN_s _ (by decide), sumN_0, sumN_0]; omega
  · rw [sumN_s f (by omega), ih, sumN_s _ hk]; omega
theorem sumN_rev {f : Int → Int} {n : Int} (h : 0 ≤ n) : sumN (fun i => f (n - 1 - i)) n = sumN f n := by
  refine int_ind (p := fun n => sumN (fun i => f (n - 1 - i)) n = sumN f n) rfl (fun k hk ih => ?_) n h
  rw [sumN_front _ hk, sumN_s f hk, ← ih]
  rw [show (k + 1 - 1 - 0 : Int) = k by omega, Int.add_comm]
  congr 1
  exact sumN_congr (fun i _ _ => by rw [show k + 1 - 1 - (i + 1) = k - 1 - i by omega])
/-- where the next bag turns -/
def nbI (so : Int) (fu b : Rw) : Int := lastS (fun s => 0 < latS so b (so - 1 - s) ∧ b s < fu s) so
def nbS (so : Int) (fu b : Rw) : Rw := fillS so fu (nbI so fu b + 1) (latS so b (so - 1 - nbI so fu b) - 1) (u1 b (nbI so fu b) (b (nbI so fu b) + 1))
theorem nbS_BG {so : Int} {fu b : Rw} (h : BG so fu b) (hi : nbI so fu b ≠ -1) : BG so fu (nbS so fu b) := by
  have h1 : 0 ≤ nbI so fu b ∧ nbI so fu b < so := (lastS_in (p := fun s => 0 < latS so b (so - 1 - s) ∧ b s < fu s) (n := so)).resolve_left hi
  have h2 : 0 < latS so b (so - 1 - nbI so fu b) ∧ b (nbI so fu b) < fu (nbI so fu b) := by
    have : lastS (fun s => 0 < latS so b (so - 1 - s) ∧ b s < fu s) so = -1 ∨ (0 < latS so b (so - 1 - lastS (fun s => 0 < latS so b (so - 1 - s) ∧ b s < fu s) so) ∧ b (lastS (fun s => 0 < latS so b (so - 1 - s) ∧ b s < fu s) so) < fu (lastS (fun s => 0 < latS so b (so - 1 - s) ∧ b s < fu s) so)) :=
      itN_inv (p := fun a : Int => a = -1 ∨ (0 < latS so b (so - 1 - a) ∧ b a < fu a)) (Or.inl rfl) (fun x a x0 x1 ha => by
        split
        · next q => exact Or.inr q
        · exact ha)
    exact this.resolve_left hi
  refine fillS_BG (by omega) (fun s s0 s1 => by have := h s s0 s1; omega) (fun s s0 s1 s2 => ?_)
  have h3 := h s s0 s2
  unfold u1
  split
  · next e => rw [e] at h3 ⊢; omega
  · exact h3
/-- who has what, one having only that bag -/
def bagR (T : Tn) (r : Rw) (p : Int) (b : Rw) : Rw := fun c => if 8 * p ≤ c ∧ c < 8 * p + T 0 2 then b (c - 8 * p) else r c
theorem sumN_mo {f g : Int → Int} {n : Int} (h : ∀ i, 0 ≤ i → i < n → f i ≤ g i) : sumN f n ≤ sumN g n := by
  have := sumN_nn (f := fun i => g i - f i) (n := n) (fun i i0 i1 => by have := h i i0 i1; omega)
  rw [sumN_sub] at this
  omega
theorem bagR_RW {T : Tn} {r b : Rw} {p : Int} (hT : WF T) (hr : RW T r) (hp : 0 ≤ p ∧ p < T 0 1) (hb : BG (T 0 2) (fun s => r (8 * p + s)) b) : RW T (bagR T r p b) := by
  have f1 := hT.1
  have f2 := hT.2.1
  have hc : ∀ c, 0 ≤ c → c < 48 → 0 ≤ bagR T r p b c ∧ bagR T r p b c ≤ r c := fun c c0 c1 => by
    unfold bagR
    split
    · next q =>
      have : 0 ≤ b (c - 8 * p) ∧ b (c - 8 * p) ≤ r (8 * p + (c - 8 * p)) := hb (c - 8 * p) (by omega) (by omega)
      rw [show 8 * p + (c - 8 * p) = c by omega] at this
      exact this
    · exact ⟨hr.1 c c0 c1, Int.le_refl _⟩
  refine ⟨fun c c0 c1 => (hc c c0 c1).1, fun q s q0 q1 s0 s1 ho => ?_, ?_⟩
  · have h1 := hc (8 * q + s) (by omega) (by omega)
    have h2 := hr.2.1 q s q0 q1 s0 s1 ho
    omega
  · exact Int.le_trans (sumN_mo (fun c c0 c1 => (hc c c0 c1).2)) hr.2.2
noncomputable def tryX (T : Tn) (r : Rw) (p s : Int) (b : Rw) : Sx := goX T p (8 * p + s) 300 (bagR T r p b)
/-- bags of one number: found (0), none (-3), spent (-2); how many were tried; the bag -/
abbrev Pr : Type := Int × Int × Rw
noncomputable def innS (T : Tn) (r : Rw) (p s : Int) : Nat → Rw → Int → Pr
  | 0, b, t => (-2, t, b)
  | f + 1, b, t => if t = 100 then (-2, t, b) else if spX (tryX T r p s b) ≠ 0 then (-2, t + 1, b) else if ansX (tryX T r p s b) ≠ -1 then (0, t + 1, b) else if nbI (T 0 2) (fun s => r (8 * p + s)) b = -1 then (-3, t + 1, b) else innS T r p s f (nbS (T 0 2) (fun s => r (8 * p + s)) b) (t + 1)
noncomputable def outB (T : Tn) (r : Rw) (p s m : Int) (y : Int × Int × Rw × Int) : Int × Int × Rw × Int := if y.1 ≠ -3 then y else ((innS T r p s 101 (fillS (T 0 2) (fun s => r (8 * p + s)) 0 m y.2.2.1) y.2.1).1, (innS T r p s 101 (fillS (T 0 2) (fun s => r (8 * p + s)) 0 m y.2.2.1) y.2.1).2.1, (innS T r p s 101 (fillS (T 0 2) (fun s => r (8 * p + s)) 0 m y.2.2.1) y.2.1).2.2, m)
def allB (T : Tn) (r : Rw) (p : Int) : Int := sumN (fun s => r (8 * p + s)) (T 0 2)
noncomputable def pooN (T : Tn) (r : Rw) (p s n : Int) : Int × Int × Rw × Int := itN (fun m y => outB T r p s m y) n (-3, 0, fun _ => 0, 0)
noncomputable def pooS (T : Tn) (r : Rw) (p s : Int) : Int × Int × Rw × Int := pooN T r p s (allB T r p + 1)
theorem innS_100 {T : Tn} {r b : Rw} {p s : Int} {f : Nat} : innS T r p s (f + 1) b 100 = (-2, 100, b) := if_pos rfl
theorem innS_sp {T : Tn} {r b : Rw} {p s t : Int} {f : Nat} (h : t ≠ 100) (h2 : spX (tryX T r p s b) ≠ 0) : innS T r p s (f + 1) b t = (-2, t + 1, b) := by unfold innS; rw [if_neg h, if_pos h2]
theorem innS_an {T : Tn} {r b : Rw} {p s t : Int} {f : Nat} (h : t ≠ 100) (h2 : spX (tryX T r p s b) = 0) (h3 : ansX (tryX T r p s b) ≠ -1) : innS T r p s (f + 1) b t = (0, t + 1, b) := by unfold innS; rw [if_neg h, if_neg (fun q => q h2), if_pos h3]
theorem innS_no {T : Tn} {r b : Rw} {p s t : Int} {f : Nat} (h : t ≠ 100) (h2 : spX (tryX T r p s b) = 0) (h3 : ansX (tryX T r p s b) = -1) (h4 : nbI (T 0 2) (fun s => r (8 * p + s)) b = -1) : innS T r p s (f + 1) b t = (-3, t + 1, b) := by unfold innS; rw [if_neg h, if_neg (fun q => q h2), if_neg (fun q => q h3), if_pos h4]
theorem innS_go {T : Tn} {r b : Rw} {p s t : Int} {f : Nat} (h : t ≠ 100) (h2 : spX (tryX T r p s b) = 0) (h3 : ansX (tryX T r p s b) = -1) (h4 : nbI (T 0 2) (fun s => r (8 * p + s)) b ≠ -1) : innS T r p s (f + 1) b t = innS T r p s f (nbS (T 0 2) (fun s => r (8 * p + s)) b) (t + 1) := by
  show (if t = 100 then _ else if spX (tryX T r p s b) ≠ 0 then _ else if ansX (tryX T r p s b) ≠ -1 then _ else if nbI (T 0 2) (fun s => r (8 * p + s)) b = -1 then _ else _) = _
  rw [if_neg h, if_neg (fun q => q h2), if_neg (fun q => q h3), if_neg h4]
abbrev poS : List Nat := 126 :: 127 :: skS
section
variable {G : HX} {d : Nat} {I : Mem} {P : Ptr} {T : Tn}
theorem c_X12_fills {f m p : Int} {b : Rw} (hW : WP P) (hT : MT I T) (hF : WF T) (hr : RC (I 98)) (hp : 0 ≤ p ∧ p < 6) (hf : 0 ≤ f ∧ f ≤ T 0 2) (hm : 0 ≤ m) (hb : ∀ s, 0 ≤ s → s < f → I 126 s = b s) : Cv G mX12_fills d 0 0 [.inr (.inl 91), .inl f, .inl m, .inl p] NO I P (qI NO (fun r I' P' => P' = P ∧ Fr [126] [] I I' ∧ (∀ s, 0 ≤ s → s < T 0 2 → I' 126 s = fillS (T 0 2) (fun s => I 98 (8 * p + s)) f m b s) ∧ ((r = 1 ∧ remS (T 0 2) (fun s => I 98 (8 * p + s)) m (T 0 2 - f) = 0) ∨ (r = 0 ∧ remS (T 0 2) (fun s => I 98 (8 * p + s)) m (T 0 2 - f) ≠ 0)))) := by
  have f2 := hF.2.1
  refine x_enter mfX12_fills rfl (Nat.le_of_ble_eq_true rfl) (fun _ => ?_)
  refine x_rng 2 rfl (fun hrm => ?_)
  obtain ⟨hrm1, hrm2⟩ := hrm
  have hL : ∀ (j : Nat) (s : Int) (K : Mem), (s + 1).toNat < j → f - 1 ≤ s → s < T 0 2 → (∀ c, K 126 c = if s < c ∧ c < T 0 2 then min (I 98 (8 * p + c)) (remS (T 0 2) (fun s => I 98 (8 * p + s)) m (T 0 2 - 1 - c)) else I 126 c) → (∀ q, q ≠ 126 → K q = I q) → V G mX12_fills d 0 0 11 [some (.inr (.inl 91)), some (.inl (f)), none, some (.inl (p)), some (.inl (remS (T 0 2) (fun s => I 98 (8 * p + s)) m (T 0 2 - 1 - s))), some (.inl (s)), none] [] NO K P (qI NO (fun r I' P' => P' = P ∧ Fr [126] [] I I' ∧ (∀ s, 0 ≤ s → s < T 0 2 → I' 126 s = fillS (T 0 2) (fun s => I 98 (8 * p + s)) f m b s) ∧ ((r = 1 ∧ remS (T 0 2) (fun s => I 98 (8 * p + s)) m (T 0 2 - f) = 0) ∨ (r = 0 ∧ remS (T 0 2) (fun s => I 98 (8 * p + s)) m (T 0 2 - f) ≠ 0)))) := by
    intro j
    induction j with
    | zero => intro s K hj; omega
    | succ j ih =>
      intro s K hj hs hs2 hK hKo
      have hbd := remS_bd (so := T 0 2) (fu := fun s => I 98 (8 * p + s)) (m := m) (i := T 0 2 - 1 - s) hm (by omega) (fun t t0 t1 => (hr (8 * p + t) (by omega) (by omega)).1)
      have e98 : K 98 = I 98 := hKo 98 (by decide)
      have es : s - 1 < T 0 2 → remS (T 0 2) (fun s => I 98 (8 * p + s)) m (T 0 2 - 1 - (s - 1)) = remS (T 0 2) (fun s => I 98 (8 * p + s)) m (T 0 2 - 1 - s) - min (I 98 (8 * p + s)) (remS (T 0 2) (fun s => I 98 (8 * p + s)) m (T 0 2 - 1 - s)) := fun _ => by
        rw [show T 0 2 - 1 - (s - 1) = T 0 2 - 1 - s + 1 by omega, remS_s (by omega)]
        show _ - min (I 98 (8 * p + (T 0 2 - 1 - (T 0 2 - 1 - s)))) _ = _
        rw [show T 0 2 - 1 - (T 0 2 - 1 - s) = s by omega]
      have fin : s < f → remS (T 0 2) (fun s => I 98 (8 * p + s)) m (T 0 2 - f) = remS (T 0 2) (fun s => I 98 (8 * p + s)) m (T 0 2 - 1 - s) := fun q => by rw [show T 0 2 - f = T 0 2 - 1 - s by omega]
      obtain ⟨l, hl⟩ : ∃ l, l = remS (T 0 2) (fun s => I 98 (8 * p + s)) m (T 0 2 - 1 - s) := ⟨_, rfl⟩
      rw [← hl] at hbd es fin ⊢
      have h98 : f ≤ s → 0 ≤ I 98 (8 * p + s) ∧ I 98 (8 * p + s) ≤ 960 := fun q => hr (8 * p + s) (by omega) (by omega)
      have e9 : K 98 (8 * p + s) = I 98 (8 * p + s) := by rw [e98]
      have hres : ∀ r : Int, s < f → (r = 1 ∧ l = 0) ∨ (r = 0 ∧ l ≠ 0) → P = P ∧ Fr [126] [] I K ∧ (∀ s, 0 ≤ s → s < T 0 2 → K 126 s = fillS (T 0 2) (fun s => I 98 (8 * p + s)) f m b s) ∧ ((r = 1 ∧ remS (T 0 2) (fun s => I 98 (8 * p + s)) m (T 0 2 - f) = 0) ∨ (r = 0 ∧ remS (T 0 2) (fun s => I 98 (8 * p + s)) m (T 0 2 - f) ≠ 0)) := fun r q hh => by
        refine ⟨rfl, ⟨fun a _ ha => hKo a (fun e => ha (by rw [e]; decide)), fun k _ => by rw [hKo 91 (by decide)]⟩, fun t t0 t1 => ?_, by rw [fin q]; exact hh⟩
        unfold fillS
        rw [hK]
        by_cases e : f ≤ t
        · rw [if_pos (by omega), if_pos e]
        · rw [if_neg (by omega), if_neg e]; exact hb t t0 (by omega)
      have nx : ∀ w, w = min (I 98 (8 * p + s)) l → f ≤ s → V G mX12_fills d 0 0 11 [some (.inr (.inl 91)), some (.inl (f)), none, some (.inl (p)), some (.inl (l - w)), some (.inl (s - 1)), none] [] NO (uI K 126 s w) P (qI NO (fun r I' P' => P' = P ∧ Fr [126] [] I I' ∧ (∀ s, 0 ≤ s → s < T 0 2 → I' 126 s = fillS (T 0 2) (fun s => I 98 (8 * p + s)) f m b s) ∧ ((r = 1 ∧ remS (T 0 2) (fun s => I 98 (8 * p + s)) m (T 0 2 - f) = 0) ∨ (r = 0 ∧ remS (T 0 2) (fun s => I 98 (8 * p + s)) m (T 0 2 - f) ≠ 0)))) := fun w hw q => by
        have := ih (s - 1) (uI K 126 s w) (by omega) (by omega) (by omega) (fun c => by
          rw [uI_eq]
          by_cases ec : c = s
          · rw [ec, u1_eq, if_pos (by omega), ← hl]; exact hw
          · rw [u1_ne ec, hK]
            by_cases e : s < c ∧ c < T 0 2
            · rw [if_pos e, if_pos (by omega)]
            · rw [if_neg e, if_neg (by omega)]) (fun q hq => by rw [uI_ne hq]; exact hKo q hq)
        rw [es (by omega), ← hw] at this
        exact this
      refine x_iload (i := 5) dX12_fills_11 rfl ?_
      refine x_iload_n (i := 1) dX12_fills_13 rfl rfl ?_
      refine x_icmp_lt (tgt := 75) dX12_fills_14 rfl (fun h14 => ?_) (fun h14 => ?_)
      · refine x_iload (i := 4) dX12_fills_75 rfl ?_
        refine x_if_ne (tgt := 84) dX12_fills_77 rfl (fun h77 => ?_) (fun h77 => ?_)
        · refine y_ic dX12_fills_84 ⟨by decide, by decide⟩ ?_
          refine x_zret dX12_fills_85 (by omega) rfl ?_
          first | exact hres 1 (by omega) (by omega) | exact hres 0 (by omega) (by omega)
        · refine y_ic dX12_fills_80 ⟨by decide, by decide⟩ ?_
          refine x_goto (tgt := 85) dX12_fills_81 rfl ?_
          refine x_zret dX12_fills_85 (by omega) rfl ?_
          first | exact hres 1 (by omega) (by omega) | exact hres 0 (by omega) (by omega)
      · have h98' := h98 (by omega)
        refine y_aln (i := 0) dX12_fills_17 at91.ne0 rfl rfl ?_
        refine y_getp (z := 14) (v := 98) dX12_fills_18 frX12_38 cfX12 at91 rfl rfl (wp (v := 98) hW rfl rfl (by decide)) ?_
        refine y_bi dX12_fills_21 ⟨by decide, by decide⟩ ?_
        refine x_iload_n (i := 3) dX12_fills_23 rfl rfl ?_
        refine x_imul dX12_fills_24 ⟨by omega, by omega⟩ ?_
        refine x_iload (i := 5) dX12_fills_25 rfl ?_
        refine x_iadd dX12_fills_27 ⟨by omega, by omega⟩ ?_
        refine x_iald dX12_fills_28 ar98 ⟨by omega, by omega⟩ ?_
        refine x_iload (i := 4) dX12_fills_29 rfl ?_
        refine x_icmp_ge (tgt := 49) dX12_fills_31 rfl (fun h31 => ?_) (fun h31 => ?_)
        · refine x_iload (i := 4) dX12_fills_49 rfl ?_
          refine x_istore (i := 6) dX12_fills_51 rfl (Nat.le_of_ble_eq_true rfl) ?_
          refine y_aln (i := 0) dX12_fills_53 at91.ne0 rfl rfl ?_
          refine y_getp (z := 68) (v := 126) dX12_fills_54 frX12_127 cfX12 at91 rfl rfl (wp (v := 126) hW rfl rfl (by decide)) ?_
          refine x_iload (i := 5) dX12_fills_57 rfl ?_
          refine x_iload (i := 6) dX12_fills_59 rfl ?_
          refine x_iast dX12_fills_61 ar126 ⟨by omega, by omega⟩ ?_
          refine x_iload (i := 4) dX12_fills_62 rfl ?_
          refine x_iload (i := 6) dX12_fills_64 rfl ?_
          refine x_isub dX12_fills_66 ⟨by omega, by omega⟩ ?_
          refine x_istore (i := 4) dX12_fills_67 rfl (Nat.le_of_ble_eq_true rfl) ?_
          refine x_iinc dX12_fills_69 rfl ⟨by omega, by omega⟩ rfl (Nat.le_of_ble_eq_true rfl) ?_
          refine x_goto (tgt := 11) dX12_fills_72 rfl ?_
          refine x_keep [1, 1, 0, 1, 1, 1, 0] ?_
          first | exact nx l (by omega) (by omega) | exact nx (K 98 (8 * p + s)) (by omega) (by omega)
        · refine y_aln (i := 0) dX12_fills_34 at91.ne0 rfl rfl ?_
          refine y_getp (z := 14) (v := 98) dX12_fills_35 frX12_38 cfX12 at91 rfl rfl (wp (v := 98) hW rfl rfl (by decide)) ?_
          refine y_bi dX12_fills_38 ⟨by decide, by decide⟩ ?_
          refine x_iload_n (i := 3) dX12_fills_40 rfl rfl ?_
          refine x_imul dX12_fills_41 ⟨by omega, by omega⟩ ?_
          refine x_iload (i := 5) dX12_fills_42 rfl ?_
          refine x_iadd dX12_fills_44 ⟨by omega, by omega⟩ ?_
          refine x_iald dX12_fills_45 ar98 ⟨by omega, by omega⟩ ?_
          refine x_goto (tgt := 51) dX12_fills_46 rfl ?_
          refine x_istore (i := 6) dX12_fills_51 rfl (Nat.le_of_ble_eq_true rfl) ?_
          refine y_aln (i := 0) dX12_fills_53 at91.ne0 rfl rfl ?_
          refine y_getp (z := 68) (v := 126) dX12_fills_54 frX12_127 cfX12 at91 rfl rfl (wp (v := 126) hW rfl rfl (by decide)) ?_
          refine x_iload (i := 5) dX12_fills_57 rfl ?_
          refine x_iload (i := 6) dX12_fills_59 rfl ?_
          refine x_iast dX12_fills_61 ar126 ⟨by omega, by omega⟩ ?_
          refine x_iload (i := 4) dX12_fills_62 rfl ?_
          refine x_iload (i := 6) dX12_fills_64 rfl ?_
          refine x_isub dX12_fills_66 ⟨by omega, by omega⟩ ?_
          refine x_istore (i := 4) dX12_fills_67 rfl (Nat.le_of_ble_eq_true rfl) ?_
          refine x_iinc dX12_fills_69 rfl ⟨by omega, by omega⟩ rfl (Nat.le_of_ble_eq_true rfl) ?_
          refine x_goto (tgt := 11) dX12_fills_72 rfl ?_
          refine x_keep [1, 1, 0, 1, 1, 1, 0] ?_
          first | exact nx l (by omega) (by omega) | exact nx (K 98 (8 * p + s)) (by omega) (by omega)
  have e2 : I 91 2 = T 0 2 := hT.1 2 (by decide) (by decide)
  refine x_iload_n (i := 2) dX12_fills_0 rfl rfl ?_
  refine x_istore (i := 4) dX12_fills_1 rfl (Nat.le_of_ble_eq_true rfl) ?_
  refine y_aln (i := 0) dX12_fills_3 at91.ne0 rfl rfl ?_
  refine y_geti (z := 2) dX12_fills_4 frX12_7 cfX12 at91 rfl rfl ?_
  rw [e2]
  refine y_ic dX12_fills_7 ⟨by decide, by decide⟩ ?_
  refine x_isub dX12_fills_8 ⟨by omega, by omega⟩ ?_
  refine x_istore (i := 5) dX12_fills_9 rfl (Nat.le_of_ble_eq_true rfl) ?_
  refine x_keep [1, 1, 0, 1, 1, 1, 0] ?_
  have := hL _ (T 0 2 - 1) I (Nat.lt_succ_self _) (by omega) (by omega) (fun c => by rw [if_neg (by omega)]) (fun _ _ => rfl)
  rw [show T 0 2 - 1 - (T 0 2 - 1) = 0 by omega, remS_0] at this
  exact this
theorem c_X12_nextBag {p : Int} {b : Rw} (hW : WP P) (hT : MT I T) (hF : WF T) (hr : RC (I 98)) (hp : 0 ≤ p ∧ p < 6) (hb : BG (T 0 2) (fun s => I 98 (8 * p + s)) b) (hK : ∀ s, 0 ≤ s → s < T 0 2 → I 126 s = b s) : Cv G mX12_nextBag (d + 1) 0 0 [.inr (.inl 91), .inl p] NO I P (qI NO (fun r I' P' => P' = P ∧ Fr [126] [] I I' ∧ ((r = 1 ∧ nbI (T 0 2) (fun s => I 98 (8 * p + s)) b ≠ -1 ∧ ∀ s, 0 ≤ s → s < T 0 2 → I' 126 s = nbS (T 0 2) (fun s => I 98 (8 * p + s)) b s) ∨ (r = 0 ∧ nbI (T 0 2) (fun s => I 98 (8 * p + s)) b = -1)))) := by
  have f2 := hF.2.1
  have e2 : I 91 2 = T 0 2 := hT.1 2 (by decide) (by decide)
  refine x_enter mfX12_nextBag rfl (Nat.le_of_ble_eq_true rfl) (fun _ => ?_)
  have hlb : ∀ i, 0 ≤ i → i ≤ T 0 2 → (0 ≤ latS (T 0 2) b i ∧ latS (T 0 2) b i ≤ latS (T 0 2) (fun s => I 98 (8 * p + s)) i) ∧ latS (T 0 2) (fun s => I 98 (8 * p + s)) i ≤ 960 * i := fun i i0 i1 => ⟨latS_le hb ⟨i0, i1⟩, (sumN_bd (f := fun j => I 98 (8 * p + (T 0 2 - 1 - j))) (n := i) (lo := 0) (hi := 960) i0 (fun j j0 j1 => hr (8 * p + (T 0 2 - 1 - j)) (by omega) (by omega))).2⟩
  have hL : ∀ (j : Nat) (s : Int), (s + 1).toNat < j → -1 ≤ s → s ≤ T 0 2 - 2 → (∀ x, s < x → x < T 0 2 → ¬ (0 < latS (T 0 2) b (T 0 2 - 1 - x) ∧ b x < I 98 (8 * p + x))) → V G mX12_nextBag (d + 1) 0 0 19 [some (.inr (.inl 91)), some (.inl (p)), some (.inl (latS (T 0 2) b (T 0 2 - 1 - s))), some (.inl (s))] [] NO I P (qI NO (fun r I' P' => P' = P ∧ Fr [126] [] I I' ∧ ((r = 1 ∧ nbI (T 0 2) (fun s => I 98 (8 * p + s)) b ≠ -1 ∧ ∀ s, 0 ≤ s → s < T 0 2 → I' 126 s = nbS (T 0 2) (fun s => I 98 (8 * p + s)) b s) ∨ (r = 0 ∧ nbI (T 0 2) (fun s => I 98 (8 * p + s)) b = -1)))) := by
    intro j
    induction j with
    | zero => intro s hj; omega
    | succ j ih =>
      intro s hj hs hs2 hno
      have hl := hlb (T 0 2 - 1 - s) (by omega) (by omega)
      have es : 0 ≤ s → latS (T 0 2) b (T 0 2 - 1 - (s - 1)) = latS (T 0 2) b (T 0 2 - 1 - s) + b s := fun _ => by
        rw [show T 0 2 - 1 - (s - 1) = T 0 2 - 1 - s + 1 by omega, latS_s (by omega), show T 0 2 - 1 - (T 0 2 - 1 - s) = s by omega]
      have hcs : 0 ≤ s → (0 ≤ b s ∧ b s ≤ I 98 (8 * p + s)) ∧ I 98 (8 * p + s) ≤ 960 ∧ I 126 s = b s := fun q => ⟨hb s q (by omega), (hr (8 * p + s) (by omega) (by omega)).2, hK s q (by omega)⟩
      have hfound : 0 ≤ s → 0 < latS (T 0 2) b (T 0 2 - 1 - s) → b s < I 98 (8 * p + s) → nbI (T 0 2) (fun s => I 98 (8 * p + s)) b = s := fun q q1 q2 => lastS_is ⟨q, by omega⟩ ⟨q1, q2⟩ hno
      have hrem : remS (T 0 2) (fun s => I 98 (8 * p + s)) (latS (T 0 2) b (T 0 2 - 1 - s) - 1) (T 0 2 - (s + 1)) = 0 ∨ ¬ (0 ≤ s ∧ 0 < latS (T 0 2) b (T 0 2 - 1 - s)) := by
        by_cases q : 0 ≤ s ∧ 0 < latS (T 0 2) b (T 0 2 - 1 - s)
        · refine Or.inl ?_
          rw [remS_is (by omega) (by omega) (fun t t0 t1 => (hr (8 * p + t) (by omega) (by omega)).1), show T 0 2 - (s + 1) = T 0 2 - 1 - s by omega]
          omega
        · exact Or.inr q
      have hnb : 0 ≤ s → nbI (T 0 2) (fun s => I 98 (8 * p + s)) b = s → nbS (T 0 2) (fun s => I 98 (8 * p + s)) b = fillS (T 0 2) (fun s => I 98 (8 * p + s)) (s + 1) (latS (T 0 2) b (T 0 2 - 1 - s) - 1) (u1 b s (b s + 1)) := fun _ q => by unfold nbS; rw [q]
      obtain ⟨l, hl0⟩ : ∃ l, l = latS (T 0 2) b (T 0 2 - 1 - s) := ⟨_, rfl⟩
      rw [← hl0] at hl es hfound hrem hnb ⊢
      refine x_iload_n (i := 3) dX12_nextBag_19 rfl rfl ?_
      refine x_if_lt (tgt := 84) dX12_nextBag_20 rfl (fun h20 => ?_) (fun h20 => ?_)
      · refine y_ic dX12_nextBag_84 ⟨by decide, by decide⟩ ?_
        refine x_zret dX12_nextBag_85 (by omega) rfl ?_
        exact ⟨rfl, Fr.rf, Or.inr ⟨rfl, lastS_no (fun x x0 x1 => hno x (by omega) x1)⟩⟩
      · have hc := hcs (by omega)
        have es' := es (by omega)
        refine x_iload_n (i := 2) dX12_nextBag_23 rfl rfl ?_
        refine x_if_le (tgt := 69) dX12_nextBag_24 rfl (fun h24 => ?_) (fun h24 => ?_)
        · refine x_iload_n (i := 2) dX12_nextBag_69 rfl rfl ?_
          refine y_aln (i := 0) dX12_nextBag_70 at91.ne0 rfl rfl ?_
          refine y_getp (z := 68) (v := 126) dX12_nextBag_71 frX12_127 cfX12 at91 rfl rfl (wp (v := 126) hW rfl rfl (by decide)) ?_
          refine x_iload_n (i := 3) dX12_nextBag_74 rfl rfl ?_
          refine x_iald dX12_nextBag_75 ar126 ⟨by omega, by omega⟩ ?_
          rw [hc.2.2]
          refine x_iadd dX12_nextBag_76 ⟨by omega, by omega⟩ ?_
          refine x_istore_n (i := 2) dX12_nextBag_77 rfl rfl (Nat.le_of_ble_eq_true rfl) ?_
          refine x_iinc dX12_nextBag_78 rfl ⟨by omega, by omega⟩ rfl (Nat.le_of_ble_eq_true rfl) ?_
          refine x_goto (tgt := 19) dX12_nextBag_81 rfl ?_
          refine x_keep [1, 1, 1, 1] ?_
          have := ih (s - 1) (by omega) (by omega) (by omega) (fun x x0 x1 => by
            by_cases e : x = s
            · rw [e, ← hl0]; omega
            · exact hno x (by omega) x1)
          rw [es'] at this
          exact this
        · refine y_aln (i := 0) dX12_nextBag_27 at91.ne0 rfl rfl ?_
          refine y_getp (z := 68) (v := 126) dX12_nextBag_28 frX12_127 cfX12 at91 rfl rfl (wp (v := 126) hW rfl rfl (by decide)) ?_
          refine x_iload_n (i := 3) dX12_nextBag_31 rfl rfl ?_
          refine x_iald dX12_nextBag_32 ar126 ⟨by omega, by omega⟩ ?_
          refine y_aln (i := 0) dX12_nextBag_33 at91.ne0 rfl rfl ?_
          refine y_getp (z := 14) (v := 98) dX12_nextBag_34 frX12_38 cfX12 at91 rfl rfl (wp (v := 98) hW rfl rfl (by decide)) ?_
          refine y_bi dX12_nextBag_37 ⟨by decide, by decide⟩ ?_
          refine x_iload_n (i := 1) dX12_nextBag_39 rfl rfl ?_
          refine x_imul dX12_nextBag_40 ⟨by omega, by omega⟩ ?_
          refine x_iload_n (i := 3) dX12_nextBag_41 rfl rfl ?_
          refine x_iadd dX12_nextBag_42 ⟨by omega, by omega⟩ ?_
          refine x_iald dX12_nextBag_43 ar98 ⟨by omega, by omega⟩ ?_
          refine x_icmp_ge (tgt := 69) dX12_nextBag_44 rfl (fun h44 => ?_) (fun h44 => ?_)
          · refine x_iload_n (i := 2) dX12_nextBag_69 rfl rfl ?_
            refine y_aln (i := 0) dX12_nextBag_70 at91.ne0 rfl rfl ?_
            refine y_getp (z := 68) (v := 126) dX12_nextBag_71 frX12_127 cfX12 at91 rfl rfl (wp (v := 126) hW rfl rfl (by decide)) ?_
            refine x_iload_n (i := 3) dX12_nextBag_74 rfl rfl ?_
            refine x_iald dX12_nextBag_75 ar126 ⟨by omega, by omega⟩ ?_
            rw [hc.2.2]
            refine x_iadd dX12_nextBag_76 ⟨by omega, by omega⟩ ?_
            refine x_istore_n (i := 2) dX12_nextBag_77 rfl rfl (Nat.le_of_ble_eq_true rfl) ?_
            refine x_iinc dX12_nextBag_78 rfl ⟨by omega, by omega⟩ rfl (Nat.le_of_ble_eq_true rfl) ?_
            refine x_goto (tgt := 19) dX12_nextBag_81 rfl ?_
            refine x_keep [1, 1, 1, 1] ?_
            have := ih (s - 1) (by omega) (by omega) (by omega) (fun x x0 x1 => by
              by_cases e : x = s
              · rw [e, ← hl0]; omega
              · exact hno x (by omega) x1)
            rw [es'] at this
            exact this
          · refine y_aln (i := 0) dX12_nextBag_47 at91.ne0 rfl rfl ?_
            refine y_getp (z := 68) (v := 126) dX12_nextBag_48 frX12_127 cfX12 at91 rfl rfl (wp (v := 126) hW rfl rfl (by decide)) ?_
            refine x_iload_n (i := 3) dX12_nextBag_51 rfl rfl ?_
            refine x_dup2 dX12_nextBag_52 rfl rfl ?_
            refine x_iald dX12_nextBag_53 ar126 ⟨by omega, by omega⟩ ?_
            refine y_ic dX12_nextBag_54 ⟨by decide, by decide⟩ ?_
            refine x_iadd dX12_nextBag_55 ⟨by omega, by omega⟩ ?_
            rw [hc.2.2]
            have e98 : uI I 126 s (b s + 1) 98 = I 98 := uI_ne (by decide)
            refine x_iast dX12_nextBag_56 ar126 ⟨by omega, by omega⟩ ?_
            refine y_aln (i := 0) dX12_nextBag_57 at91.ne0 rfl rfl ?_
            refine x_iload_n (i := 3) dX12_nextBag_58 rfl rfl ?_
            refine y_ic dX12_nextBag_59 ⟨by decide, by decide⟩ ?_
            refine x_iadd dX12_nextBag_60 ⟨by omega, by omega⟩ ?_
            refine x_iload_n (i := 2) dX12_nextBag_61 rfl rfl ?_
            refine y_ic dX12_nextBag_62 ⟨by decide, by decide⟩ ?_
            refine x_isub dX12_nextBag_63 ⟨by omega, by omega⟩ ?_
            refine x_iload_n (i := 1) dX12_nextBag_64 rfl rfl ?_
            refine x_callVI (c_X12_fills (b := u1 b s (b s + 1)) hW (hT.fr (Fr.rf.ui (S := [126]) (F := []) (by decide) (by decide))) hF (by rw [e98]; exact hr) hp ⟨by omega, by omega⟩ (by omega) (fun t t0 t1 => by
              rw [uI_eq]
              unfold u1
              split
              · rfl
              · exact hK t t0 (by omega))) dX12_nextBag_65 lkX12_457 mfX12_fills cfX12 at91 rfl rfl rfl rfl (Nat.le_of_ble_eq_true rfl) (fun r65 I65 P65 hr65 hf65 => ?_)
            rw [e98] at hf65
            obtain ⟨rfl, fr65, v65, h65⟩ := hf65
            have hi := hfound (by omega) (by omega) (by omega)
            refine x_zret dX12_nextBag_68 (by omega) rfl ?_
            refine ⟨rfl, (Fr.rf.ui (by decide) (by decide)).tr fr65, Or.inl ⟨?_, by omega, fun t t0 t1 => ?_⟩⟩
            · rcases h65 with h | h
              · exact h.1
              · exact absurd (hrem.resolve_right (fun q => q ⟨by omega, by omega⟩)) h.2
            · rw [hnb (by omega) hi]; exact v65 t t0 t1
  have hK1 := hK (T 0 2 - 1) (by omega) (by omega)
  have hl1 : latS (T 0 2) b (T 0 2 - 1 - (T 0 2 - 2)) = b (T 0 2 - 1) := by
    rw [show T 0 2 - 1 - (T 0 2 - 2) = 0 + 1 by omega, latS_s (by decide), latS_0, Int.sub_zero, Int.zero_add]
  refine y_aln (i := 0) dX12_nextBag_0 at91.ne0 rfl rfl ?_
  refine y_getp (z := 68) (v := 126) dX12_nextBag_1 frX12_127 cfX12 at91 rfl rfl (wp (v := 126) hW rfl rfl (by decide)) ?_
  refine y_aln (i := 0) dX12_nextBag_4 at91.ne0 rfl rfl ?_
  refine y_geti (z := 2) dX12_nextBag_5 frX12_7 cfX12 at91 rfl rfl ?_
  rw [e2]
  refine y_ic dX12_nextBag_8 ⟨by decide, by decide⟩ ?_
  refine x_isub dX12_nextBag_9 ⟨by omega, by omega⟩ ?_
  refine x_iald dX12_nextBag_10 ar126 ⟨by omega, by omega⟩ ?_
  rw [hK1]
  refine x_istore_n (i := 2) dX12_nextBag_11 rfl rfl (Nat.le_of_ble_eq_true rfl) ?_
  refine y_aln (i := 0) dX12_nextBag_12 at91.ne0 rfl rfl ?_
  refine y_geti (z := 2) dX12_nextBag_13 frX12_7 cfX12 at91 rfl rfl ?_
  rw [e2]
  refine y_ic dX12_nextBag_16 ⟨by decide, by decide⟩ ?_
  refine x_isub dX12_nextBag_17 ⟨by omega, by omega⟩ ?_
  refine x_istore_n (i := 3) dX12_nextBag_18 rfl rfl (Nat.le_of_ble_eq_true rfl) ?_
  refine x_keep [1, 1, 1, 1] ?_
  have := hL _ (T 0 2 - 2) (Nat.lt_succ_self _) (by omega) (by omega) (fun x x0 x1 => by rw [show T 0 2 - 1 - x = 0 by omega, latS_0]; omega)
  rw [hl1] at this
  exact this
theorem c_X12_poor {p s : Int} (hW : WP P) (hT : MT I T) (hF : WF T) (hr : RW T (I 98)) : Cv G mX12_poor (d + 4) 0 0 [.inr (.inl 91), .inl p, .inl s] NO I P (qI NO (fun r I' P' => P' = P ∧ ((¬ okPS T p s ∧ r = 0 ∧ I' = uI (uI I 91 0 0) 91 0 1) ∨ (okPS T p s ∧ I' 91 0 = 0 ∧ (((pooS T (I 98) p s).1 ≠ 0 ∧ r = (if (pooS T (I 98) p s).1 = -2 then -2 else -1) ∧ Fr poS cmF I I') ∨ ((pooS T (I 98) p s).1 = 0 ∧ r = (pooS T (I 98) p s).2.2.2 ∧ I' 91 66 = 1 ∧ (∀ k, 0 ≤ k → k < T 0 2 → I' 125 k = (pooS T (I 98) p s).2.2.1 k) ∧ Fr (125 :: poS) (66 :: cmF) I I')))))) := by
  have hT0 : MT (uI I 91 0 0) T := hT.uf (by decide)
  have f1 := hF.1
  have f2 := hF.2.1
  have e98 : uI I 91 0 0 98 = I 98 := uI_ne (by decide)
  refine x_enter mfX12_poor rfl (Nat.le_of_ble_eq_true rfl) (fun _ => ?_)
  have hN : ∀ K : Mem, K = uI (uI I 91 0 0) 91 0 1 → ¬ okPS T p s → V G mX12_poor (d + 4) 0 0 21 [none, none, none, none, none, none, none, none] [] NO K P (qI NO (fun r I' P' => P' = P ∧ ((¬ okPS T p s ∧ r = 0 ∧ I' = uI (uI I 91 0 0) 91 0 1) ∨ (okPS T p s ∧ I' 91 0 = 0 ∧ (((pooS T (I 98) p s).1 ≠ 0 ∧ r = (if (pooS T (I 98) p s).1 = -2 then -2 else -1) ∧ Fr poS cmF I I') ∨ ((pooS T (I 98) p s).1 = 0 ∧ r = (pooS T (I 98) p s).2.2.2 ∧ I' 91 66 = 1 ∧ (∀ k, 0 ≤ k → k < T 0 2 → I' 125 k = (pooS T (I 98) p s).2.2.1 k) ∧ Fr (125 :: poS) (66 :: cmF) I I')))))) := fun K hK hno => by
    refine y_ic dX12_poor_21 ⟨by decide, by decide⟩ ?_
    refine x_iret dX12_poor_22 rfl ?_
    exact ⟨rfl, Or.inl ⟨hno, rfl, hK⟩⟩
  have hgo : okPS T p s → V G mX12_poor (d + 4) 0 0 23 [some (.inr (.inl 91)), some (.inl (p)), some (.inl (s)), none, none, none, none, none] [] NO (uI I 91 0 0) P (qI NO (fun r I' P' => P' = P ∧ ((¬ okPS T p s ∧ r = 0 ∧ I' = uI (uI I 91 0 0) 91 0 1) ∨ (okPS T p s ∧ I' 91 0 = 0 ∧ (((pooS T (I 98) p s).1 ≠ 0 ∧ r = (if (pooS T (I 98) p s).1 = -2 then -2 else -1) ∧ Fr poS cmF I I') ∨ ((pooS T (I 98) p s).1 = 0 ∧ r = (pooS T (I 98) p s).2.2.2 ∧ I' 91 66 = 1 ∧ (∀ k, 0 ≤ k → k < T 0 2 → I' 125 k = (pooS T (I 98) p s).2.2.1 k) ∧ Fr (125 :: poS) (66 :: cmF) I I')))))) := fun hok => by
    have hp := hok.1
    have hs := hok.2
    have hfu : ∀ t, 0 ≤ t → t < T 0 2 → 0 ≤ I 98 (8 * p + t) ∧ I 98 (8 * p + t) ≤ 960 := fun t t0 t1 => hr.rc (8 * p + t) (by omega) (by omega)
    have hab : 0 ≤ allB T (I 98) p ∧ allB T (I 98) p ≤ 960 * 8 := by
      have := sumN_bd (f := fun s => I 98 (8 * p + s)) (n := T 0 2) (lo := 0) (hi := 960) (by omega) hfu
      unfold allB
      omega
    have hall : latS (T 0 2) (fun s => I 98 (8 * p + s)) (T 0 2) = allB T (I 98) p := by
      unfold latS allB
      exact sumN_rev (f := fun s => I 98 (8 * p + s)) (by omega)
    have hLo : ∀ (j : Nat) (m t : Int) (b : Rw) (K : Mem), (allB T (I 98) p + 1 - m).toNat < j → 0 ≤ m → m ≤ allB T (I 98) p + 1 → pooN T (I 98) p s m = (-3, t, b, (pooN T (I 98) p s m).2.2.2) → (0 ≤ t ∧ t ≤ 100) → K 91 0 = 0 → K 91 56 = p → K 91 57 = s → K 91 58 = 300 → Fr poS cmF I K → V G mX12_poor (d + 4) 0 0 81 [some (.inr (.inl 91)), some (.inl (p)), none, some (.inl (allB T (I 98) p)), some (.inl (t)), some (.inl (m)), none, none] [] NO K P (qI NO (fun r I' P' => P' = P ∧ ((¬ okPS T p s ∧ r = 0 ∧ I' = uI (uI I 91 0 0) 91 0 1) ∨ (okPS T p s ∧ I' 91 0 = 0 ∧ (((pooS T (I 98) p s).1 ≠ 0 ∧ r = (if (pooS T (I 98) p s).1 = -2 then -2 else -1) ∧ Fr poS cmF I I') ∨ ((pooS T (I 98) p s).1 = 0 ∧ r = (pooS T (I 98) p s).2.2.2 ∧ I' 91 66 = 1 ∧ (∀ k, 0 ≤ k → k < T 0 2 → I' 125 k = (pooS T (I 98) p s).2.2.1 k) ∧ Fr (125 :: poS) (66 :: cmF) I I')))))) := by
      intro j
      induction j with
      | zero => intro m t b K hj; omega
      | succ j ih =>
        intro m t b K hj hm hm2 hN0 ht z0 k56 k57 k58 hFr
        have hTK := hT.fr hFr
        have k98 : K 98 = I 98 := hFr.1 98 (by decide) (by decide)
        have es : pooN T (I 98) p s (m + 1) = outB T (I 98) p s m (pooN T (I 98) p s m) := itN_s _ _ hm
        have hstop := fun (h1 : m ≤ allB T (I 98) p) (h2 : ∀ i, m + 1 ≤ i → i < allB T (I 98) p + 1 → outB T (I 98) p s i (pooN T (I 98) p s (m + 1)) = pooN T (I 98) p s (m + 1)) => itN_stop (f := fun m y => outB T (I 98) p s m y) (n := allB T (I 98) p + 1) (k := m + 1) (s := ((-3 : Int), (0 : Int), (fun _ => (0 : Int)), (0 : Int))) (x := pooN T (I 98) p s (m + 1)) ⟨by omega, by omega⟩ rfl h2
        have hfl := fun (hm3 : m ≤ allB T (I 98) p) => remS_is (so := T 0 2) (fu := fun s => I 98 (8 * p + s)) (m := m) hm (i := T 0 2) (by omega) (fun t t0 t1 => (hfu t (by omega) t1).1)
        obtain ⟨Z, hZ⟩ : ∃ Z, Z = innS T (I 98) p s 101 (fillS (T 0 2) (fun s => I 98 (8 * p + s)) 0 m b) t := ⟨_, rfl⟩
        have es2 : pooN T (I 98) p s (m + 1) = (Z.1, Z.2.1, Z.2.2, m) := by
          rw [es, hN0]
          unfold outB
          rw [if_neg (fun q => q rfl), hZ]
        have hfin : m ≤ allB T (I 98) p → Z.1 ≠ -3 → pooS T (I 98) p s = (Z.1, Z.2.1, Z.2.2, m) := fun hm3 hz => by
          have : pooS T (I 98) p s = pooN T (I 98) p s (m + 1) := hstop hm3 (fun i i0 i1 => by
            rw [es2]
            unfold outB
            rw [if_pos hz])
          rw [es2] at this
          exact this
        have hI : m ≤ allB T (I 98) p → ∀ (f : Nat) (b : Rw) (t more : Int) (K : Mem), ((more = 1 ∧ 101 ≤ (f : Int) + t ∧ Z = innS T (I 98) p s f b t ∧ (∀ k, 0 ≤ k → k < T 0 2 → K 126 k = b k) ∧ BG (T 0 2) (fun s => I 98 (8 * p + s)) b) ∨ (more = 0 ∧ Z = (-3, t, b))) → (0 ≤ t ∧ t ≤ 100) → K 91 0 = 0 → K 91 56 = p → K 91 57 = s → K 91 58 = 300 → Fr poS cmF I K → V G mX12_poor (d + 4) 0 0 97 [some (.inr (.inl 91)), some (.inl (p)), none, some (.inl (allB T (I 98) p)), some (.inl (t)), some (.inl (m)), some (.inl (more)), none] [] NO K P (qI NO (fun r I' P' => P' = P ∧ ((¬ okPS T p s ∧ r = 0 ∧ I' = uI (uI I 91 0 0) 91 0 1) ∨ (okPS T p s ∧ I' 91 0 = 0 ∧ (((pooS T (I 98) p s).1 ≠ 0 ∧ r = (if (pooS T (I 98) p s).1 = -2 then -2 else -1) ∧ Fr poS cmF I I') ∨ ((pooS T (I 98) p s).1 = 0 ∧ r = (pooS T (I 98) p s).2.2.2 ∧ I' 91 66 = 1 ∧ (∀ k, 0 ≤ k → k < T 0 2 → I' 125 k = (pooS T (I 98) p s).2.2.1 k) ∧ Fr (125 :: poS) (66 :: cmF) I I')))))) := by
          intro hm3 f
          have hex : ∀ (b : Rw) (t : Int) (K : Mem), Z = (-3, t, b) → (0 ≤ t ∧ t ≤ 100) → K 91 0 = 0 → K 91 56 = p → K 91 57 = s → K 91 58 = 300 → Fr poS cmF I K → V G mX12_poor (d + 4) 0 0 251 [some (.inr (.inl 91)), some (.inl (p)), none, some (.inl (allB T (I 98) p)), some (.inl (t)), some (.inl (m)), none, none] [] NO K P (qI NO (fun r I' P' => P' = P ∧ ((¬ okPS T p s ∧ r = 0 ∧ I' = uI (uI I 91 0 0) 91 0 1) ∨ (okPS T p s ∧ I' 91 0 = 0 ∧ (((pooS T (I 98) p s).1 ≠ 0 ∧ r = (if (pooS T (I 98) p s).1 = -2 then -2 else -1) ∧ Fr poS cmF I I') ∨ ((pooS T (I 98) p s).1 = 0 ∧ r = (pooS T (I 98) p s).2.2.2 ∧ I' 91 66 = 1 ∧ (∀ k, 0 ≤ k → k < T 0 2 → I' 125 k = (pooS T (I 98) p s).2.2.1 k) ∧ Fr (125 :: poS) (66 :: cmF) I I')))))) := fun b t K hz ht z0 k56 k57 k58 hFr => by
            refine x_iinc dX12_poor_251 rfl ⟨by omega, by omega⟩ rfl (Nat.le_of_ble_eq_true rfl) ?_
            refine x_goto (tgt := 81) dX12_poor_254 rfl ?_
            refine x_keep [1, 1, 0, 1, 1, 1, 0, 0] ?_
            exact ih (m + 1) t b K (by omega) (by omega) (by omega) (by rw [es2, hz]) ht z0 k56 k57 k58 hFr
          induction f with
          | zero =>
            intro b t more K hc ht z0 k56 k57 k58 hFr
            have hc0 := hc.resolve_left (fun q => by have := q.2.1; omega)
            refine x_iload (i := 6) dX12_poor_97 rfl ?_
            refine x_if_eq (tgt := 251) dX12_poor_99 rfl (fun h99 => ?_) (fun h99 => ?_)
            · skip
              refine x_keep [1, 1, 0, 1, 1, 1, 0, 0] ?_
              exact hex b t K hc0.2 ht z0 k56 k57 k58 hFr
            · exact absurd hc0.1 h99
          | succ f ihf =>
            intro b t more K hc ht z0 k56 k57 k58 hFr
            have hS : more = 1 → t < 100 → (∀ k, 0 ≤ k → k < T 0 2 → K 126 k = b k) → BG (T 0 2) (fun s => I 98 (8 * p + s)) b → Z = innS T (I 98) p s (f + 1) b t → 101 ≤ (((f + 1 : Nat) : Int)) + t → ∀ (j : Nat) (k : Int) (K : Mem), (T 0 2 - k).toNat < j → 0 ≤ k → k ≤ T 0 2 → (∀ c, 0 ≤ c → c < 48 → K 127 c = if 8 * p ≤ c ∧ c < 8 * p + k then b (c - 8 * p) else I 98 c) → (∀ k, 0 ≤ k → k < T 0 2 → K 126 k = b k) → K 91 0 = 0 → K 91 56 = p → K 91 57 = s → K 91 58 = 300 → Fr poS cmF I K → V G mX12_poor (d + 4) 0 0 130 [some (.inr (.inl 91)), some (.inl (p)), none, some (.inl (allB T (I 98) p)), some (.inl (t + 1)), some (.inl (m)), none, some (.inl (k))] [] NO K P (qI NO (fun r I' P' => P' = P ∧ ((¬ okPS T p s ∧ r = 0 ∧ I' = uI (uI I 91 0 0) 91 0 1) ∨ (okPS T p s ∧ I' 91 0 = 0 ∧ (((pooS T (I 98) p s).1 ≠ 0 ∧ r = (if (pooS T (I 98) p s).1 = -2 then -2 else -1) ∧ Fr poS cmF I I') ∨ ((pooS T (I 98) p s).1 = 0 ∧ r = (pooS T (I 98) p s).2.2.2 ∧ I' 91 66 = 1 ∧ (∀ k, 0 ≤ k → k < T 0 2 → I' 125 k = (pooS T (I 98) p s).2.2.1 k) ∧ Fr (125 :: poS) (66 :: cmF) I I')))))) := by
              intro hm1 ht9 _ hBG hZf hf9 j
              induction j with
              | zero => intro k K hj; omega
              | succ j ihk =>
                intro k K hj hk hk2 hc7 hc6 z0 k56 k57 k58 hFr
                have hTK := hT.fr hFr
                have e2 : K 91 2 = T 0 2 := hTK.1 2 (by decide) (by decide)
                have hRW := bagR_RW hF hr hp hBG
                have hxo : XOK T 300 (tryX T (I 98) p s b) := goN_ok hF hRW (by decide)
                have hX : WX K p (8 * p + s) 300 := ⟨k56, k58, ⟨by decide, by decide⟩, Or.inr ⟨hp.1, by omega, by omega, by omega, by omega⟩⟩
                have hre : T 0 2 ≤ k → RE (K 127) (bagR T (I 98) p b) := fun q c c0 c1 => by
                  rw [hc7 c c0 c1, show k = T 0 2 by omega]
                  rfl
                have hbagL : ansX (tryX T (I 98) p s b) ≠ -1 → spX (tryX T (I 98) p s b) = 0 → ∀ (j : Nat) (k : Int) (K : Mem), (8 - k).toNat < j → 0 ≤ k → k ≤ 8 → (∀ i, 0 ≤ i → i < k → i < T 0 2 → K 125 i = b i) → (∀ k, 0 ≤ k → k < T 0 2 → K 126 k = b k) → K 91 0 = 0 → K 91 66 = 1 → Fr (125 :: poS) (66 :: cmF) I K → V G mX12_poor (d + 4) 0 0 198 [some (.inr (.inl 91)), none, none, none, none, some (.inl (m)), none, some (.inl (k))] [] NO K P (qI NO (fun r I' P' => P' = P ∧ ((¬ okPS T p s ∧ r = 0 ∧ I' = uI (uI I 91 0 0) 91 0 1) ∨ (okPS T p s ∧ I' 91 0 = 0 ∧ (((pooS T (I 98) p s).1 ≠ 0 ∧ r = (if (pooS T (I 98) p s).1 = -2 then -2 else -1) ∧ Fr poS cmF I I') ∨ ((pooS T (I 98) p s).1 = 0 ∧ r = (pooS T (I 98) p s).2.2.2 ∧ I' 91 66 = 1 ∧ (∀ k, 0 ≤ k → k < T 0 2 → I' 125 k = (pooS T (I 98) p s).2.2.1 k) ∧ Fr (125 :: poS) (66 :: cmF) I I')))))) := by
                  intro ha hsp j
                  induction j with
                  | zero => intro k K hj; omega
                  | succ j ihb =>
                    intro k K hj hk hk2 hb5 hb6 z0 z66 hFr
                    have hTK := hT.fr hFr
                    have e2 : K 91 2 = T 0 2 := hTK.1 2 (by decide) (by decide)
                    refine x_iload (i := 7) dX12_poor_198 rfl ?_
                    refine y_bi dX12_poor_200 ⟨by decide, by decide⟩ ?_
                    refine x_icmp_ge (tgt := 238) dX12_poor_202 rfl (fun h202 => ?_) (fun h202 => ?_)
                    · refine x_iload (i := 5) dX12_poor_238 rfl ?_
                      refine x_iret dX12_poor_240 rfl ?_
                      refine ⟨rfl, Or.inr ⟨hok, z0, Or.inr ?_⟩⟩
                      have hz : Z = (0, t + 1, b) := by rw [hZf]; exact innS_an (by omega) hsp ha
                      rw [hfin hm3 (by rw [hz]; exact (by decide : (0 : Int) ≠ -3)), hz]
                      exact ⟨rfl, rfl, z66, fun i i0 i1 => hb5 i i0 (by omega) i1, hFr⟩
                    · refine y_aln (i := 0) dX12_poor_205 at91.ne0 rfl rfl ?_
                      refine y_getp (z := 67) (v := 125) dX12_poor_206 frX12_124 cfX12 at91 rfl rfl (wp (v := 125) hW rfl rfl (by decide)) ?_
                      refine x_iload (i := 7) dX12_poor_209 rfl ?_
                      refine x_iload (i := 7) dX12_poor_211 rfl ?_
                      refine y_aln (i := 0) dX12_poor_213 at91.ne0 rfl rfl ?_
                      refine y_geti (z := 2) dX12_poor_214 frX12_7 cfX12 at91 rfl rfl ?_
                      refine x_icmp_ge (tgt := 230) dX12_poor_217 rfl (fun h217 => ?_) (fun h217 => ?_)
                      · refine y_ic dX12_poor_230 ⟨by decide, by decide⟩ ?_
                        refine x_iast dX12_poor_231 ar125 ⟨by omega, by omega⟩ ?_
                        refine x_iinc dX12_poor_232 rfl ⟨by omega, by omega⟩ rfl (Nat.le_of_ble_eq_true rfl) ?_
                        refine x_goto (tgt := 198) dX12_poor_235 rfl ?_
                        refine x_keep [1, 0, 0, 0, 0, 1, 0, 1] ?_
                        refine ihb (k + 1) _ (by omega) (by omega) (by omega) (fun i i0 i1 i2 => ?_) (fun i i0 i1 => by rw [uI_ne (by decide)]; exact hb6 i i0 i1) (by rw [uI_ne (by decide)]; exact z0) (by rw [uI_ne (by decide)]; exact z66) (hFr.ui (by decide) (by decide))
                        rw [uI_eq]
                        by_cases e : i = k
                        · rw [e, u1_eq]
                          first | exact absurd i2 (by omega) | exact hb6 k hk (by omega)
                        · rw [u1_ne e]; exact hb5 i i0 (by omega) i2
                      · refine y_aln (i := 0) dX12_poor_220 at91.ne0 rfl rfl ?_
                        refine y_getp (z := 68) (v := 126) dX12_poor_221 frX12_127 cfX12 at91 rfl rfl (wp (v := 126) hW rfl rfl (by decide)) ?_
                        refine x_iload (i := 7) dX12_poor_224 rfl ?_
                        refine x_iald dX12_poor_226 ar126 ⟨by omega, by omega⟩ ?_
                        refine x_goto (tgt := 231) dX12_poor_227 rfl ?_
                        refine x_iast dX12_poor_231 ar125 ⟨by omega, by omega⟩ ?_
                        refine x_iinc dX12_poor_232 rfl ⟨by omega, by omega⟩ rfl (Nat.le_of_ble_eq_true rfl) ?_
                        refine x_goto (tgt := 198) dX12_poor_235 rfl ?_
                        refine x_keep [1, 0, 0, 0, 0, 1, 0, 1] ?_
                        refine ihb (k + 1) _ (by omega) (by omega) (by omega) (fun i i0 i1 i2 => ?_) (fun i i0 i1 => by rw [uI_ne (by decide)]; exact hb6 i i0 i1) (by rw [uI_ne (by decide)]; exact z0) (by rw [uI_ne (by decide)]; exact z66) (hFr.ui (by decide) (by decide))
                        rw [uI_eq]
                        by_cases e : i = k
                        · rw [e, u1_eq]
                          first | exact absurd i2 (by omega) | exact hb6 k hk (by omega)
                        · rw [u1_ne e]; exact hb5 i i0 (by omega) i2
                refine x_iload (i := 7) dX12_poor_130 rfl ?_
                refine y_aln (i := 0) dX12_poor_132 at91.ne0 rfl rfl ?_
                refine y_geti (z := 2) dX12_poor_133 frX12_7 cfX12 at91 rfl rfl ?_
                refine x_icmp_ge (tgt := 164) dX12_poor_136 rfl (fun h136 => ?_) (fun h136 => ?_)
                · refine y_aln (i := 0) dX12_poor_164 at91.ne0 rfl rfl ?_
                  refine y_aln (i := 0) dX12_poor_165 at91.ne0 rfl rfl ?_
                  refine y_getp (z := 69) (v := 127) dX12_poor_166 frX12_130 cfX12 at91 rfl rfl (wp (v := 127) hW rfl rfl (by decide)) ?_
                  refine x_callVV (c_X12_searches hW hTK hF hX ar127 (hre (by omega)) hRW (by decide)) dX12_poor_169 lkX12_450 mfX12_searches cfX12 at91 rfl rfl rfl rfl (Nat.le_of_ble_eq_true rfl) (fun n169 I169 P169 hf169 => ?_)
                  obtain ⟨rfl, rfl, mx169, fr169⟩ := hf169
                  have hFr1 : Fr poS cmF I I169 := hFr.tr (fr169.mo (by decide) (by decide))
                  have z1 : I169 91 0 = 0 := (fr169.2 0 (by decide)).trans z0
                  have a1 : I169 91 59 = ansX (tryX T (I 98) p s b) := mx169.2.2.1
                  have a2 : I169 91 60 = spX (tryX T (I 98) p s b) := mx169.2.2.2
                  have c1 : ∀ k, 0 ≤ k → k < T 0 2 → I169 126 k = b k := fun i i0 i1 => by rw [fr169.1 126 (by decide) (by decide)]; exact hc6 i i0 i1
                  have y98 : I169 98 = I 98 := hFr1.1 98 (by decide) (by decide)
                  refine y_aln (i := 0) dX12_poor_172 at91.ne0 rfl rfl ?_
                  refine y_geti (z := 60) dX12_poor_173 frX12_414 cfX12 at91 rfl rfl ?_
                  refine x_if_eq (tgt := 182) dX12_poor_176 rfl (fun h176 => ?_) (fun h176 => ?_)
                  · refine y_aln (i := 0) dX12_poor_182 at91.ne0 rfl rfl ?_
                    refine y_geti (z := 59) dX12_poor_183 frX12_427 cfX12 at91 rfl rfl ?_
                    refine y_ic dX12_poor_186 ⟨by decide, by decide⟩ ?_
                    refine x_icmp_eq (tgt := 241) dX12_poor_187 rfl (fun h187 => ?_) (fun h187 => ?_)
                    · refine y_aln (i := 0) dX12_poor_241 at91.ne0 rfl rfl ?_
                      refine x_iload_n (i := 1) dX12_poor_242 rfl rfl ?_
                      refine x_callVI (c_X12_nextBag (b := b) hW (hT.fr hFr1) hF (by rw [y98]; exact hr.rc) (by omega) (by rw [y98]; exact hBG) c1) dX12_poor_243 lkX12_460 mfX12_nextBag cfX12 at91 rfl rfl rfl rfl (Nat.le_of_ble_eq_true rfl) (fun r243 I243 P243 hr243 hf243 => ?_)
                      rw [y98] at hf243
                      obtain ⟨rfl, fr243, h243⟩ := hf243
                      have y0 : I243 91 0 = 0 := (fr243.2 0 (by decide)).trans z1
                      have y1 : I243 91 56 = p := (fr243.2 56 (by decide)).trans ((fr169.2 56 (by decide)).trans k56)
                      have y2 : I243 91 57 = s := (fr243.2 57 (by decide)).trans ((fr169.2 57 (by decide)).trans k57)
                      have y3 : I243 91 58 = 300 := (fr243.2 58 (by decide)).trans ((fr169.2 58 (by decide)).trans k58)
                      have hFr2 : Fr poS cmF I I243 := hFr1.tr (fr243.mo (by decide) (by decide))
                      refine x_istore (i := 6) dX12_poor_246 rfl (Nat.le_of_ble_eq_true rfl) ?_
                      refine x_goto (tgt := 97) dX12_poor_248 rfl ?_
                      refine x_keep [1, 1, 0, 1, 1, 1, 1, 0] ?_
                      refine ihf (if r243 = 1 then nbS (T 0 2) (fun s => I 98 (8 * p + s)) b else b) (t + 1) r243 I243 ?_ (by omega) y0 y1 y2 y3 hFr2
                      rcases h243 with ⟨q1, q2, q3⟩ | ⟨q1, q2⟩
                      · rw [if_pos q1]
                        exact Or.inl ⟨q1, by omega, by rw [hZf]; exact innS_go (by omega) (by omega) (by omega) q2, q3, nbS_BG hBG q2⟩
                      · rw [if_neg (by omega)]
                        exact Or.inr ⟨q1, by rw [hZf]; exact innS_no (by omega) (by omega) (by omega) q2⟩
                    · refine y_aln (i := 0) dX12_poor_190 at91.ne0 rfl rfl ?_
                      refine y_ic dX12_poor_191 ⟨by decide, by decide⟩ ?_
                      refine y_putz (z := 66) dX12_poor_192 frX12_335 cfX12 at91 rfl rfl rfl (by omega) ?_
                      refine y_ic dX12_poor_195 ⟨by decide, by decide⟩ ?_
                      refine x_istore (i := 7) dX12_poor_196 rfl (Nat.le_of_ble_eq_true rfl) ?_
                      refine x_keep [1, 0, 0, 0, 0, 1, 0, 1] ?_
                      exact hbagL (by omega) (by omega) _ 0 _ (Nat.lt_succ_self _) (by decide) (by decide) (fun i i0 i1 => by omega) (fun i i0 i1 => by rw [uI_ne (by decide)]; exact c1 i i0 i1) (by rw [uI_eq, u1_ne (by decide)]; exact z1) (by rw [uI_eq, u1_eq]) ((hFr1.mo (by decide) (by decide)).uf (by decide))
                  · refine y_bi dX12_poor_179 ⟨by decide, by decide⟩ ?_
                    refine x_iret dX12_poor_181 rfl ?_
                    have hz : Z = (-2, t + 1, b) := by rw [hZf]; exact innS_sp (by omega) (by omega)
                    refine ⟨rfl, Or.inr ⟨hok, z1, Or.inl ?_⟩⟩
                    rw [hfin hm3 (by rw [hz]; exact (by decide : (-2 : Int) ≠ -3)), hz]
                    exact ⟨(by decide : (-2 : Int) ≠ 0), (if_pos rfl).symm, hFr1⟩
                · refine y_aln (i := 0) dX12_poor_139 at91.ne0 rfl rfl ?_
                  refine y_getp (z := 69) (v := 127) dX12_poor_140 frX12_130 cfX12 at91 rfl rfl (wp (v := 127) hW rfl rfl (by decide)) ?_
                  refine y_bi dX12_poor_143 ⟨by decide, by decide⟩ ?_
                  refine x_iload_n (i := 1) dX12_poor_145 rfl rfl ?_
                  refine x_imul dX12_poor_146 ⟨by omega, by omega⟩ ?_
                  refine x_iload (i := 7) dX12_poor_147 rfl ?_
                  refine x_iadd dX12_poor_149 ⟨by omega, by omega⟩ ?_
                  refine y_aln (i := 0) dX12_poor_150 at91.ne0 rfl rfl ?_
                  refine y_getp (z := 68) (v := 126) dX12_poor_151 frX12_127 cfX12 at91 rfl rfl (wp (v := 126) hW rfl rfl (by decide)) ?_
                  refine x_iload (i := 7) dX12_poor_154 rfl ?_
                  refine x_iald dX12_poor_156 ar126 ⟨by omega, by omega⟩ ?_
                  rw [hc6 k hk (by omega)]
                  refine x_iast dX12_poor_157 ar127 ⟨by omega, by omega⟩ ?_
                  refine x_iinc dX12_poor_158 rfl ⟨by omega, by omega⟩ rfl (Nat.le_of_ble_eq_true rfl) ?_
                  refine x_goto (tgt := 130) dX12_poor_161 rfl ?_
                  refine x_keep [1, 1, 0, 1, 1, 1, 0, 1] ?_
                  refine ihk (k + 1) _ (by omega) (by omega) (by omega) (fun c c0 c1 => ?_) (fun i i0 i1 => by rw [uI_ne (by decide)]; exact hc6 i i0 i1) (by rw [uI_ne (by decide)]; exact z0) (by rw [uI_ne (by decide)]; exact k56) (by rw [uI_ne (by decide)]; exact k57) (by rw [uI_ne (by decide)]; exact k58) (hFr.ui (by decide) (by decide))
                  rw [uI_eq]
                  by_cases e : c = 8 * p + k
                  · rw [e, u1_eq, if_pos (by omega), show 8 * p + k - 8 * p = k by omega]
                  · rw [u1_ne e, hc7 c c0 c1]
                    by_cases q : 8 * p ≤ c ∧ c < 8 * p + k
                    · rw [if_pos q, if_pos (by omega)]
                    · rw [if_neg q, if_neg (by omega)]
            refine x_iload (i := 6) dX12_poor_97 rfl ?_
            refine x_if_eq (tgt := 251) dX12_poor_99 rfl (fun h99 => ?_) (fun h99 => ?_)
            · have hc0 := hc.resolve_left (fun q => by have := q.1; omega)
              refine x_keep [1, 1, 0, 1, 1, 1, 0, 0] ?_
              exact hex b t K hc0.2 ht z0 k56 k57 k58 hFr
            · have hc1 := hc.resolve_right (fun q => by have := q.1; omega)
              refine x_iload (i := 4) dX12_poor_102 rfl ?_
              refine y_bi dX12_poor_104 ⟨by decide, by decide⟩ ?_
              refine x_icmp_ne (tgt := 112) dX12_poor_106 rfl (fun h106 => ?_) (fun h106 => ?_)
              · refine x_iinc dX12_poor_112 rfl ⟨by omega, by omega⟩ rfl (Nat.le_of_ble_eq_true rfl) ?_
                refine y_aln (i := 0) dX12_poor_115 at91.ne0 rfl rfl ?_
                refine y_aln (i := 0) dX12_poor_116 at91.ne0 rfl rfl ?_
                refine y_getp (z := 14) (v := 98) dX12_poor_117 frX12_38 cfX12 at91 rfl rfl (wp (v := 98) hW rfl rfl (by decide)) ?_
                refine y_aln (i := 0) dX12_poor_120 at91.ne0 rfl rfl ?_
                refine y_getp (z := 69) (v := 127) dX12_poor_121 frX12_130 cfX12 at91 rfl rfl (wp (v := 127) hW rfl rfl (by decide)) ?_
                refine x_callVV (c_X12_copies ar98 ar127 (by decide) (by decide) (by decide)) dX12_poor_124 lkX12_328 mfX12_copies cfX12 at91 rfl rfl rfl rfl (Nat.le_of_ble_eq_true rfl) (fun n124 I124 P124 hf124 => ?_)
                obtain ⟨rfl, hI124, rfl⟩ := hf124
                have y98 : K 98 = I 98 := hFr.1 98 (by decide) (by decide)
                refine y_ic dX12_poor_127 ⟨by decide, by decide⟩ ?_
                refine x_istore (i := 7) dX12_poor_128 rfl (Nat.le_of_ble_eq_true rfl) ?_
                refine x_keep [1, 1, 0, 1, 1, 1, 0, 1] ?_
                rw [hI124]
                exact hS hc1.1 (by omega) hc1.2.2.2.1 hc1.2.2.2.2 hc1.2.2.1 hc1.2.1 _ 0 _ (Nat.lt_succ_self _) (by decide) (by omega) (fun c c0 c1 => by rw [uA_eq, if_pos (by omega), if_neg (by omega), y98]) (fun i i0 i1 => by rw [uA_ne (by decide)]; exact hc1.2.2.2.1 i i0 i1) (by rw [uA_ne (by decide)]; exact z0) (by rw [uA_ne (by decide)]; exact k56) (by rw [uA_ne (by decide)]; exact k57) (by rw [uA_ne (by decide)]; exact k58) (hFr.ua (by decide) (by decide))
              · refine y_bi dX12_poor_109 ⟨by decide, by decide⟩ ?_
                refine x_iret dX12_poor_111 rfl ?_
                have hz : Z = (-2, 100, b) := by rw [hc1.2.2.1, show t = 100 by omega]; exact innS_100
                refine ⟨rfl, Or.inr ⟨hok, z0, Or.inl ?_⟩⟩
                rw [hfin hm3 (by rw [hz]; exact (by decide : (-2 : Int) ≠ -3)), hz]
                exact ⟨(by decide : (-2 : Int) ≠ 0), (if_pos rfl).symm, hFr⟩
        refine x_iload (i := 5) dX12_poor_81 rfl ?_
        refine x_iload_n (i := 3) dX12_poor_83 rfl rfl ?_
        refine x_icmp_gt (tgt := 257) dX12_poor_84 rfl (fun h84 => ?_) (fun h84 => ?_)
        · refine y_ic dX12_poor_257 ⟨by decide, by decide⟩ ?_
          refine x_iret dX12_poor_258 rfl ?_
          have hz : pooS T (I 98) p s = (-3, t, b, (pooN T (I 98) p s m).2.2.2) := by
            unfold pooS
            rw [show allB T (I 98) p + 1 = m by omega]
            exact hN0
          refine ⟨rfl, Or.inr ⟨hok, z0, Or.inl ?_⟩⟩
          rw [hz]
          exact ⟨(by decide : (-3 : Int) ≠ 0), (if_neg (by decide : ¬ (-3 : Int) = -2)).symm, hFr⟩
        · have hfl' := hfl (by omega)
          refine y_aln (i := 0) dX12_poor_87 at91.ne0 rfl rfl ?_
          refine y_ic dX12_poor_88 ⟨by decide, by decide⟩ ?_
          refine x_iload (i := 5) dX12_poor_89 rfl ?_
          refine x_iload_n (i := 1) dX12_poor_91 rfl rfl ?_
          refine x_callVI (c_X12_fills (b := b) hW hTK hF (by rw [k98]; exact hr.rc) (by omega) ⟨by decide, by omega⟩ hm (fun i i0 i1 => by omega)) dX12_poor_92 lkX12_457 mfX12_fills cfX12 at91 rfl rfl rfl rfl (Nat.le_of_ble_eq_true rfl) (fun r92 I92 P92 hr92 hf92 => ?_)
          rw [k98] at hf92
          obtain ⟨rfl, fr92, v92, h92⟩ := hf92
          rw [Int.sub_zero, hfl', hall] at h92
          have r92' : r92 = 1 := by omega
          refine x_istore (i := 6) dX12_poor_95 rfl (Nat.le_of_ble_eq_true rfl) ?_
          refine x_keep [1, 1, 0, 1, 1, 1, 1, 0] ?_
          exact hI (by omega) 101 (fillS (T 0 2) (fun s => I 98 (8 * p + s)) 0 m b) t r92 I92 (Or.inl ⟨r92', by omega, hZ, v92, fillS_BG hm (fun t t0 t1 => (hfu t t0 t1).1) (fun t t0 t1 _ => by omega)⟩) ht ((fr92.2 0 (by decide)).trans z0) ((fr92.2 56 (by decide)).trans k56) ((fr92.2 57 (by decide)).trans k57) ((fr92.2 58 (by decide)).trans k58) (hFr.tr (fr92.mo (by decide) (by decide)))
    have hA : ∀ (j : Nat) (k : Int), (T 0 2 - k).toNat < j → 0 ≤ k → k ≤ T 0 2 → V G mX12_poor (d + 4) 0 0 28 [some (.inr (.inl 91)), some (.inl (p)), some (.inl (s)), some (.inl (sumN (fun s => I 98 (8 * p + s)) k)), some (.inl (k)), none, none, none] [] NO (uI I 91 0 0) P (qI NO (fun r I' P' => P' = P ∧ ((¬ okPS T p s ∧ r = 0 ∧ I' = uI (uI I 91 0 0) 91 0 1) ∨ (okPS T p s ∧ I' 91 0 = 0 ∧ (((pooS T (I 98) p s).1 ≠ 0 ∧ r = (if (pooS T (I 98) p s).1 = -2 then -2 else -1) ∧ Fr poS cmF I I') ∨ ((pooS T (I 98) p s).1 = 0 ∧ r = (pooS T (I 98) p s).2.2.2 ∧ I' 91 66 = 1 ∧ (∀ k, 0 ≤ k → k < T 0 2 → I' 125 k = (pooS T (I 98) p s).2.2.1 k) ∧ Fr (125 :: poS) (66 :: cmF) I I')))))) := by
      intro j
      induction j with
      | zero => intro k hj; omega
      | succ j ih =>
        intro k hj hk hk2
        have e2 : uI I 91 0 0 91 2 = T 0 2 := hT0.1 2 (by decide) (by decide)
        have hbd := sumN_bd (f := fun s => I 98 (8 * p + s)) (n := k) (lo := 0) (hi := 960) hk (fun t t0 t1 => hfu t t0 (by omega))
        have es := sumN_s (fun s => I 98 (8 * p + s)) hk
        refine x_iload (i := 4) dX12_poor_28 rfl ?_
        refine y_aln (i := 0) dX12_poor_30 at91.ne0 rfl rfl ?_
        refine y_geti (z := 2) dX12_poor_31 frX12_7 cfX12 at91 rfl rfl ?_
        refine x_icmp_ge (tgt := 58) dX12_poor_34 rfl (fun h34 => ?_) (fun h34 => ?_)
        · refine y_aln (i := 0) dX12_poor_58 at91.ne0 rfl rfl ?_
          refine x_iload_n (i := 1) dX12_poor_59 rfl rfl ?_
          refine y_puti (z := 56) dX12_poor_60 frX12_421 cfX12 at91 rfl rfl rfl ?_
          refine y_aln (i := 0) dX12_poor_63 at91.ne0 rfl rfl ?_
          refine x_iload_n (i := 2) dX12_poor_64 rfl rfl ?_
          refine y_puti (z := 57) dX12_poor_65 frX12_424 cfX12 at91 rfl rfl rfl ?_
          refine y_aln (i := 0) dX12_poor_68 at91.ne0 rfl rfl ?_
          refine y_si dX12_poor_69 ⟨by decide, by decide⟩ ?_
          refine y_puti (z := 58) dX12_poor_72 frX12_411 cfX12 at91 rfl rfl rfl ?_
          refine y_ic dX12_poor_75 ⟨by decide, by decide⟩ ?_
          refine x_istore (i := 4) dX12_poor_76 rfl (Nat.le_of_ble_eq_true rfl) ?_
          refine y_ic dX12_poor_78 ⟨by decide, by decide⟩ ?_
          refine x_istore (i := 5) dX12_poor_79 rfl (Nat.le_of_ble_eq_true rfl) ?_
          refine x_keep [1, 1, 0, 1, 1, 1, 0, 0] ?_
          have := hLo _ 0 0 (fun _ => 0) (uI (uI (uI (uI I 91 0 0) 91 56 p) 91 57 s) 91 58 300) (Nat.lt_succ_self _) (by decide) (by omega) rfl ⟨by decide, by decide⟩ (by rw [uI_eq, u1_ne (by decide), uI_eq, u1_ne (by decide), uI_eq, u1_ne (by decide), uI_eq, u1_eq]) (by rw [uI_eq, u1_ne (by decide), uI_eq, u1_ne (by decide), uI_eq, u1_eq]) (by rw [uI_eq, u1_ne (by decide), uI_eq, u1_eq]) (by rw [uI_eq, u1_eq]) ((((Fr.rf.uf (by decide)).uf (by decide)).uf (by decide)).uf (by decide))
          have e9 : allB T (I 98) p = sumN (fun s => I 98 (8 * p + s)) k := by unfold allB; rw [show T 0 2 = k by omega]
          rw [e9] at this
          exact this
        · have hck := hfu k hk (by omega)
          refine x_iload_n (i := 3) dX12_poor_37 rfl rfl ?_
          refine y_aln (i := 0) dX12_poor_38 at91.ne0 rfl rfl ?_
          refine y_getp (z := 14) (v := 98) dX12_poor_39 frX12_38 cfX12 at91 rfl rfl (wp (v := 98) hW rfl rfl (by decide)) ?_
          refine y_bi dX12_poor_42 ⟨by decide, by decide⟩ ?_
          refine x_iload_n (i := 1) dX12_poor_44 rfl rfl ?_
          refine x_imul dX12_poor_45 ⟨by omega, by omega⟩ ?_
          refine x_iload (i := 4) dX12_poor_46 rfl ?_
          refine x_iadd dX12_poor_48 ⟨by omega, by omega⟩ ?_
          refine x_iald dX12_poor_49 ar98 ⟨by omega, by omega⟩ ?_
          rw [e98]
          refine x_iadd dX12_poor_50 ⟨by omega, by omega⟩ ?_
          refine x_istore_n (i := 3) dX12_poor_51 rfl rfl (Nat.le_of_ble_eq_true rfl) ?_
          refine x_iinc dX12_poor_52 rfl ⟨by omega, by omega⟩ rfl (Nat.le_of_ble_eq_true rfl) ?_
          refine x_goto (tgt := 28) dX12_poor_55 rfl ?_
          refine x_keep [1, 1, 1, 1, 1, 0, 0, 0] ?_
          have := ih (k + 1) (by omega) (by omega) (by omega)
          rw [es] at this
          exact this
    refine y_ic dX12_poor_23 ⟨by decide, by decide⟩ ?_
    refine x_istore_n (i := 3) dX12_poor_24 rfl rfl (Nat.le_of_ble_eq_true rfl) ?_
    refine y_ic dX12_poor_25 ⟨by decide, by decide⟩ ?_
    refine x_istore (i := 4) dX12_poor_26 rfl (Nat.le_of_ble_eq_true rfl) ?_
    refine x_keep [1, 1, 1, 1, 1, 0, 0, 0] ?_
    exact hA _ 0 (Nat.lt_succ_self _) (by decide) (by omega)
  refine y_aln (i := 0) dX12_poor_0 at91.ne0 rfl rfl ?_
  refine y_ic dX12_poor_1 ⟨by decide, by decide⟩ ?_
  refine y_puti (z := 0) dX12_poor_2 frX12_184 cfX12 at91 rfl rfl rfl ?_
  refine y_aln (i := 0) dX12_poor_5 at91.ne0 rfl rfl ?_
  refine x_iload_n (i := 1) dX12_poor_6 rfl rfl ?_
  refine x_callVI (c_X12_isPerson hW hT0 z_0) dX12_poor_7 lkX12_362 mfX12_isPerson cfX12 at91 rfl rfl rfl rfl (Nat.le_of_ble_eq_true rfl) (fun r7 I7 P7 hr7 hf7 => ?_)
  obtain ⟨rfl, hr7⟩ := hf7
  refine x_if_eq (tgt := 21) dX12_poor_10 rfl (fun h10 => ?_) (fun h10 => ?_)
  · obtain ⟨-, no, hI7⟩ := hr7.resolve_left (fun q => by have := q.1; omega)
    refine x_keep [0, 0, 0, 0, 0, 0, 0, 0] ?_
    first | exact hN _ hI7 (fun q => no q.1) | exact hN _ hI15 (fun q => no q.2)
  · obtain ⟨-, op, hI7⟩ := hr7.resolve_right (fun q => by have := q.1; omega)
    rw [hI7]
    refine y_aln (i := 0) dX12_poor_13 at91.ne0 rfl rfl ?_
    refine x_iload_n (i := 2) dX12_poor_14 rfl rfl ?_
    refine x_callVI (c_X12_isSort hW hT0 z_0) dX12_poor_15 lkX12_365 mfX12_isSort cfX12 at91 rfl rfl rfl rfl (Nat.le_of_ble_eq_true rfl) (fun r15 I15 P15 hr15 hf15 => ?_)
    obtain ⟨rfl, hr15⟩ := hf15
    refine x_if_ne (tgt := 23) dX12_poor_18 rfl (fun h18 => ?_) (fun h18 => ?_)
    · obtain ⟨-, os, hI15⟩ := hr15.resolve_right (fun q => by have := q.1; omega)
      rw [hI15]
      refine x_keep [1, 1, 1, 0, 0, 0, 0, 0] ?_
      exact hgo ⟨op, os⟩
    · obtain ⟨-, no, hI15⟩ := hr15.resolve_left (fun q => by have := q.1; omega)
      refine x_keep [0, 0, 0, 0, 0, 0, 0, 0] ?_
      first | exact hN _ hI7 (fun q => no q.1) | exact hN _ hI15 (fun q => no q.2)
end

