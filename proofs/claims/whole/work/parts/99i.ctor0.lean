/-! ===== before the constructors ===== -/
abbrev PEn : Type := Nat × Int × Nat
def chP : List PEn → Ptr → Ptr
  | [], P => P
  | e :: L, P => chP L (uP P e.1 e.2.1 e.2.2)
theorem chP_app {M : List PEn} : ∀ {L : List PEn} {P : Ptr}, chP (L ++ M) P = chP M (chP L P)
  | [], _ => rfl
  | e :: L, P => chP_app (L := L) (P := uP P e.1 e.2.1 e.2.2)
def ZI (n : Nat) (I : Mem) : Prop := ∀ a, n < a → ∀ k, I a k = 0
def ZP (n : Nat) (P : Ptr) : Prop := ∀ a, n < a → ∀ k, P a k = 0
theorem ZI.mo {n m : Nat} {I : Mem} (h : ZI n I) (hm : n ≤ m) : ZI m I := fun a ha => h a (by omega)
theorem ZP.mo {n m : Nat} {P : Ptr} (h : ZP n P) (hm : n ≤ m) : ZP m P := fun a ha => h a (by omega)
theorem ZI.u {n a : Nat} {i v : Int} {I : Mem} (h : ZI n I) (ha : a ≤ n) : ZI n (uI I a i v) := fun b hb k => by rw [uI_ne (by omega)]; exact h b hb k
theorem ZP.u {n a v : Nat} {i : Int} {P : Ptr} (h : ZP n P) (ha : a ≤ n) : ZP n (uP P a i v) := fun b hb k => by rw [uP_ne (by omega)]; exact h b hb k
theorem ZP.ch {n : Nat} : ∀ {L : List PEn} {P : Ptr}, ZP n P → (∀ e ∈ L, e.1 ≤ n) → ZP n (chP L P)
  | [], _, h, _ => h
  | e :: L, _, h, hL => ZP.ch (L := L) (h.u (hL e List.mem_cons_self)) (fun x hx => hL x (List.mem_cons_of_mem _ hx))
theorem ZP.fc {S : Nat → Prop} {n m : Nat} {I J : Mem} (h : ZI n I) (hf : Fc S I J) (hm : n ≤ m) (hs : ∀ a, m < a → ¬ S a) : ZI m J := fun a ha k => by rw [hf a (hs a ha)]; exact h a (by omega) k
def T0 : Tn := fun i j => if i = 0 then (if j = 2 then 1 else if j = 3 then 2 else if j = 4 then -1 else 0) else 0
theorem WF0 : WF T0 := by
  have e1 : T0 0 1 = 0 := rfl
  have e5 : T0 0 5 = 0 := rfl
  have e6 : T0 0 6 = 0 := rfl
  refine ⟨by decide, by decide, by decide, by decide, by decide, by decide, by decide, fun p s p0 p1 => ?_, fun p p0 p1 => ?_, fun p p0 p1 => ?_, fun p k p0 p1 => ?_, fun t j t0 t1 => ?_, fun t t0 t1 => ?_, fun m j m0 m1 => ?_, fun m m0 m1 => ?_⟩ <;> omega
def R67 : List PEn := [(67, 0, 68), (67, 1, 69), (67, 2, 70), (67, 3, 71), (67, 4, 72), (67, 5, 73), (67, 6, 74), (67, 7, 75), (67, 8, 76)]
theorem uR67 {P : Ptr} (h : ∀ k, P 67 k = 0) : uR P 67 9 = chP R67 P := by
  funext b k
  by_cases hb : b = 67
  · subst hb
    show (if (67 : Nat) = 67 then fun k : Int => if 0 ≤ k ∧ k < ((9 : Nat) : Int) then 67 + 1 + k.toNat else 0 else P 67) k = _
    rw [if_pos rfl]
    by_cases hk : 0 ≤ k ∧ k < 9
    · rw [if_pos (show 0 ≤ k ∧ k < ((9 : Nat) : Int) from hk)]
      obtain rfl | rfl | rfl | rfl | rfl | rfl | rfl | rfl | rfl : k = 0 ∨ k = 1 ∨ k = 2 ∨ k = 3 ∨ k = 4 ∨ k = 5 ∨ k = 6 ∨ k = 7 ∨ k = 8 := by omega
      all_goals rfl
    · rw [if_neg (show ¬ (0 ≤ k ∧ k < ((9 : Nat) : Int)) from hk)]
      show 0 = u1 (u1 (u1 (u1 (u1 (u1 (u1 (u1 (u1 (P 67) 0 68) 1 69) 2 70) 3 71) 4 72) 5 73) 6 74) 7 75) 8 76 k
      rw [u1_ne (by omega), u1_ne (by omega), u1_ne (by omega), u1_ne (by omega), u1_ne (by omega), u1_ne (by omega), u1_ne (by omega), u1_ne (by omega), u1_ne (by omega), h]
  · rw [uR_ne hb]
    show P b k = chP R67 P b k
    unfold R67
    simp only [chP]
    rw [uP_ne hb, uP_ne hb, uP_ne hb, uP_ne hb, uP_ne hb, uP_ne hb, uP_ne hb, uP_ne hb, uP_ne hb]
theorem t0_fin {t : Nat} {I J I1 I2 : Mem} (hJ : Fc (fun a => t ≤ a ∧ a ≤ t + 18) I J) (hF : Fc (sC t) J I1) (h4 : I1 t 0 = 0 ∧ I1 t 1 = 1 ∧ I1 t 2 = 0 ∧ I1 t 3 = 0) (g0 : I1 (t + 13) 0 = 2) (g1 : I1 (t + 13) 1 = -1) (g2 : I1 (t + 13) 2 = 0)
    (hF2 : Fc (sL (t + 13)) I1 I2) (hl : I2 (t + 13) = u1 (I1 (t + 13)) 3 (OFN T0)) (hO : ∀ o, 0 ≤ o → o < OFN T0 → CLo I2 (t + 13) T0 o) : Fc (fun a => t ≤ a ∧ a ≤ t + 18) I I2 ∧ CA I2 t T0 ∧ CL I2 (t + 13) T0 := by
  have e1 : T0 0 1 = 0 := rfl
  have e5 : T0 0 5 = 0 := rfl
  have e6 : T0 0 6 = 0 := rfl
  have et : I2 t = I1 t := hF2 t (by show ¬ (t + 13 ≤ t ∧ t ≤ t + 13 + 5); omega)
  refine ⟨(hJ.tr (hF.mo (fun a ha => ?_))).tr (hF2.mo (fun a ha => ?_)), ⟨by rw [et]; exact h4.1, by rw [et]; exact h4.2.1, by rw [et]; exact h4.2.2.1, by rw [et]; exact h4.2.2.2, fun c c0 c1 => ?_, fun p p0 p1 => ?_, fun p k p0 p1 => ?_, fun x x0 x1 => ?_, fun m m0 m1 => ?_⟩, ⟨?_, ?_, ?_, ?_, hO⟩⟩
  · show t ≤ a ∧ a ≤ t + 18
    have ha' : a = t ∨ a = t + 1 ∨ a = t + 2 ∨ a = t + 3 ∨ a = t + 4 ∨ a = t + 13 := ha
    omega
  · have ha' : t + 13 ≤ a ∧ a ≤ t + 13 + 5 := ha
    show t ≤ a ∧ a ≤ t + 18
    omega
  · omega
  · omega
  · omega
  · omega
  · omega
  · rw [hl, u1_ne (by decide)]; exact g0
  · rw [hl, u1_ne (by decide)]; exact g1
  · rw [hl, u1_ne (by decide)]; exact g2
  · rw [hl, u1_eq]
/-- what a chain of pointers says of a place -/
def lkQ (a : Nat) (z : Int) : List PEn → Option Nat → Option Nat
  | [], r => r
  | e :: L, r => lkQ a z L (if e.1 = a ∧ e.2.1 = z then some e.2.2 else r)
def lkP (L : List PEn) (a : Nat) (z : Int) : Option Nat := lkQ a z L none
theorem lkQ_same (a : Nat) (z : Int) (x y : Nat) : ∀ (L : List PEn) (v : Nat), (lkQ a z L (some v)).getD x = (lkQ a z L (some v)).getD y
  | [], _ => rfl
  | e :: L, v => by
    show (lkQ a z L (if e.1 = a ∧ e.2.1 = z then some e.2.2 else some v)).getD x = (lkQ a z L (if e.1 = a ∧ e.2.1 = z then some e.2.2 else some v)).getD y
    by_cases h : e.1 = a ∧ e.2.1 = z
    · rw [if_pos h]; exact lkQ_same a z x y L e.2.2
    · rw [if_neg h]; exact lkQ_same a z x y L v
theorem chP_aux (a : Nat) (z : Int) : ∀ (L : List PEn) (P : Ptr) (r : Option Nat), r.getD (P a z) = P a z → chP L P a z = (lkQ a z L r).getD (P a z)
  | [], _, _, h => h.symm
  | e :: L, P, r, h => by
    show chP L (uP P e.1 e.2.1 e.2.2) a z = (lkQ a z L (if e.1 = a ∧ e.2.1 = z then some e.2.2 else r)).getD (P a z)
    by_cases he : e.1 = a ∧ e.2.1 = z
    · obtain ⟨h1, h2⟩ := he
      rw [if_pos ⟨h1, h2⟩]
      have hv : uP P e.1 e.2.1 e.2.2 a z = e.2.2 := by rw [h1, uP_eq, h2]; exact if_pos rfl
      rw [chP_aux a z L _ (some e.2.2) hv.symm]
      exact lkQ_same a z _ _ L e.2.2
    · rw [if_neg he]
      have hv : uP P e.1 e.2.1 e.2.2 a z = P a z := by
        by_cases h1 : a = e.1
        · subst h1
          rw [uP_eq]
          exact if_neg (fun q => he ⟨rfl, q.symm⟩)
        · rw [uP_ne h1]
      rw [chP_aux a z L _ r (by rw [hv]; exact h), hv]
theorem chP_at {L : List PEn} {P : Ptr} {a v : Nat} {z : Int} (h : lkP L a z = some v) : chP L P a z = v := by
  rw [chP_aux a z L P none rfl]
  show (lkP L a z).getD _ = v
  rw [h]
  rfl
theorem CA.eq {I J : Mem} {t : Nat} {T : Tn} (h : CA I t T) (hn : ∀ a, t ≤ a → a ≤ t + 12 → J a = I a) : CA J t T := by
  unfold CA
  rw [hn t (by omega) (by omega), hn (t + 2) (by omega) (by omega), hn (t + 3) (by omega) (by omega), hn (t + 4) (by omega) (by omega), hn (t + 5) (by omega) (by omega), hn (t + 6) (by omega) (by omega), hn (t + 7) (by omega) (by omega), hn (t + 8) (by omega) (by omega), hn (t + 9) (by omega) (by omega), hn (t + 10) (by omega) (by omega), hn (t + 11) (by omega) (by omega), hn (t + 12) (by omega) (by omega)]
  exact h
theorem CL.eq {I J : Mem} {l : Nat} {T : Tn} (h : CL I l T) (hn : ∀ a, l ≤ a → a ≤ l + 5 → J a = I a) : CL J l T := by
  unfold CL CLo
  rw [hn l (by omega) (by omega), hn (l + 1) (by omega) (by omega), hn (l + 2) (by omega) (by omega), hn (l + 3) (by omega) (by omega), hn (l + 4) (by omega) (by omega), hn (l + 5) (by omega) (by omega)]
  exact h
theorem x11_fin {I A B J : Mem} (hA : Fc (fun a => 3 ≤ a ∧ a ≤ 21) I A) (hB : Fc (fun a => 22 ≤ a ∧ a ≤ 40) A B) (hCA : CA A 3 T0) (hCL : CL A 16 T0) (hJ : J = uI (uI (uI B 1 4 (-1)) 50 0 2) 50 1 (-1)) : Fc (fun a => a = 1 ∨ (3 ≤ a ∧ a ≤ 40) ∨ a = 50) I J ∧ J 1 = u1 (I 1) 4 (-1) ∧ CA J 3 T0 ∧ CL J 16 T0 := by
  subst hJ
  have h0 : ∀ a, a ≠ 1 → a ≠ 50 → uI (uI (uI B 1 4 (-1)) 50 0 2) 50 1 (-1) a = B a := fun a h1 h5 => by rw [uI_ne h5, uI_ne h5, uI_ne h1]
  refine ⟨fun a ha => ?_, ?_, hCA.eq (fun a a0 a1 => ?_), hCL.eq (fun a a0 a1 => ?_)⟩
  · rw [h0 a (fun q => ha (Or.inl q)) (fun q => ha (Or.inr (Or.inr q))), hB a (fun q => ha (Or.inr (Or.inl ⟨by omega, q.2⟩))), hA a (fun q => ha (Or.inr (Or.inl ⟨q.1, by omega⟩)))]
  · rw [uI_ne (by decide), uI_ne (by decide), uI_eq, hB 1 (by omega), hA 1 (by omega)]
  · rw [h0 a (by omega) (by omega), hB a (by omega)]
  · rw [h0 a (by omega) (by omega), hB a (by omega)]
