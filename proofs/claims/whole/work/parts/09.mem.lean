/-! ===== rules on fields and arrays ===== -/
/-- the object a is there, of kind ci -/
def AT (n a ci : Nat) : Prop := (KD a).1 = ci ∧ 1 ≤ a ∧ a ≤ n
/-- the array a is there, of kind t and length N -/
def AR (n a t N : Nat) : Prop := KD a = (t, N) ∧ 1 ≤ a ∧ a ≤ n
theorem AT.ne0 {n a ci : Nat} (h : AT n a ci) : a ≠ 0 := Nat.ne_of_gt h.2.1
theorem AR.ne0 {n a t N : Nat} (h : AR n a t N) : a ≠ 0 := Nat.ne_of_gt h.2.1
def isRT : FieldType → Bool
  | .object _ => true
  | .array _ => true
  | _ => false
def isIT : FieldType → Bool
  | .int => true
  | .boolean => true
  | _ => false
theorem ent_ob {G : CX} {I : Mem} {P : Ptr} {a ci : Nat} (h : (KD a).1 = ci) (hc : ci < 13) : ent G I P a = .inr (ci, (List.range (NFl ci)).map (fun k => fvl G (fTy ci k) I P a k)) := by
  subst h
  exact if_pos hc
theorem ent_i {G : CX} {I : Mem} {P : Ptr} {a N : Nat} (t : Nat) (ht : t = 0 ∨ t = 2 ∨ t = 3) (h : KD a = (20 + t, N)) : ent G I P a = .inl (G.ac t, N, .inl (fun j => oI (I a (j : Int)))) := by
  unfold ent
  rw [h]
  rcases ht with rfl | rfl | rfl <;> rfl
theorem ent_l {G : CX} {I : Mem} {P : Ptr} {a N : Nat} (h : KD a = (21, N)) : ent G I P a = .inl (G.ac 1, N, .inr (.inl (fun j => oL (I a (j : Int))))) := by
  unfold ent
  rw [h]
  rfl
theorem ent_q {G : CX} {I : Mem} {P : Ptr} {a N : Nat} (h : KD a = (24, N)) : ent G I P a = .inl (G.ac 4, N, .inr (.inr (.inr (.inr (fun j => if P a (j : Int) = 0 then none else some (adr G (P a (j : Int)))))))) := by
  unfold ent
  rw [h]
  rfl
theorem LG_ob {a ci k : Nat} (h : (KD a).1 = ci) (hc : ci < 13) (ht : isIT (fTy ci k) = true) : ¬ LG a (k : Int) := by
  rintro (q | ⟨-, q⟩)
  · rw [h] at q; omega
  · rw [h, Int.toNat_natCast] at q
    rw [q] at ht
    cases ht
theorem LG_i {a t N : Nat} (ht : t = 0 ∨ t = 2 ∨ t = 3) (h : KD a = (20 + t, N)) (i : Int) : ¬ LG a i := by
  rintro (q | ⟨q, -⟩)
  · rw [h] at q; have q : 20 + t = 21 := q; omega
  · rw [h] at q; exact absurd q (Nat.not_lt.mpr (Nat.le_trans (by decide : 13 ≤ 20) (Nat.le_add_right _ _)))
theorem LG_q {a N : Nat} (h : KD a = (24, N)) (i : Int) : ¬ LG a i := by
  rintro (q | ⟨q, -⟩)
  · rw [h] at q; have q : 24 = 21 := q; omega
  · rw [h] at q; have q : 24 < 13 := q; omega
theorem rp_at {G : CX} {n : Nat} {I : Mem} {P : Ptr} {H : Heap} (h : Rp G n I P H) {a : Nat} (h1 : 1 ≤ a) (h2 : a ≤ n) : (wld G n I P)[a - 1]? = some (adr G a, ent G I P a) := wld_at h1 h2 (Nat.lt_of_le_of_lt h.2.2.1 (by decide))
theorem fld_at {G : CX} {I : Mem} {P : Ptr} {a ci k : Nat} (hk : k < NFl ci) : ((List.range (NFl ci)).map (fun k => fvl G (fTy ci k) I P a k))[k]? = some (fvl G (fTy ci k) I P a k) := by
  rw [List.getElem?_map, List.getElem?_range hk]
  rfl
theorem fvl_i {G : CX} {I : Mem} {P : Ptr} {a k : Nat} {ty : FieldType} (h : isIT ty = true) : fvl G ty I P a k = .int (oI (I a (k : Int))) := by
  cases ty <;> first | rfl | cases h
theorem fvl_r {G : CX} {I : Mem} {P : Ptr} {a k : Nat} {ty : FieldType} (h : isRT ty = true) : fvl G ty I P a k = rvl G (P a (k : Int)) := by
  cases ty <;> first | rfl | cases h
theorem CF.at {ci : Nat} (hc : CF ci) : vwCl[ci]? = some ((cT ci).1, (cT ci).2.1, (cT ci).2.2) := hc.1
theorem CF.lt {ci : Nat} (hc : CF ci) : ci < 13 := (List.getElem?_eq_some_iff.mp hc.1).1
section VM
variable {G : HX} {Y : MI} {d kc ks pc : Nat} {lv : LV} {st : List AV} {n : Nat} {I : Mem} {P : Ptr} {Q : QT}
theorem x_geti {idx ci k a : Nat} (hd : decode Y.2.1 pc = .ok (.getfield idx, 3)) (hf : FR Y.1.cls idx ci k) (hc : CF ci) (hA : AT n a ci) (ht : isIT (fTy ci k) = true := by rfl) (kk : V G Y d kc ks (pc + 3) lv (.inl (I a (k : Int)) :: st) n I P Q) : V G Y d kc ks pc lv (.inr (.inl a) :: st) n I P Q := by
  intro p e R s m args below meth c H locs cells slots mc ms ls h
  have hk := h.1
  have hR := h.2.2.2.2.1
  have e2 : conc G.1 (.inr (.inl a)) = .ref (adr G.1 a) := rvl_pos hA.ne0
  rw [List.map_cons, e2]
  have h1 := rp_at hR hA.2.1 hA.2.2
  rw [ent_ob hA.1 hc.lt] at h1
  refine va_get (C := (cT ci).1) (T := (cT ci).2.1) (N := (cT ci).2.2) hk.1 hk.2.1 hk.2.2.2.2.1 hc.2.1 hk.2.2.2.2.2.1 hk.2.2.2.2.2.2.2.2.2.2.2.2.1 hR.1 (a - 1) h1 hc.at k hf.1 (hk.2.2.2.2.1 _ hf.2) (fun _ q => q) (fld_at hf.1) hd ?_
  rw [fvl_i ht]
  exact kk p e R s m args below meth c H locs cells slots mc ms ls (h.st1 (ok_c (v := .inl (I a (k : Int))) ((hR.2.1 a k).1 (LG_ob hA.1 hc.lt ht)) (ok_t h.2.2.2.1)))
theorem x_getl {idx ci k a : Nat} (hd : decode Y.2.1 pc = .ok (.getfield idx, 3)) (hf : FR Y.1.cls idx ci k) (hc : CF ci) (hA : AT n a ci) (ht : fTy ci k = .long := by rfl) (kk : V G Y d kc ks (pc + 3) lv (.inr (.inr (I a (k : Int))) :: st) n I P Q) : V G Y d kc ks pc lv (.inr (.inl a) :: st) n I P Q := by
  intro p e R s m args below meth c H locs cells slots mc ms ls h
  have hk := h.1
  have hR := h.2.2.2.2.1
  have e2 : conc G.1 (.inr (.inl a)) = .ref (adr G.1 a) := rvl_pos hA.ne0
  rw [List.map_cons, e2]
  have h1 := rp_at hR hA.2.1 hA.2.2
  rw [ent_ob hA.1 hc.lt] at h1
  refine va_get (C := (cT ci).1) (T := (cT ci).2.1) (N := (cT ci).2.2) hk.1 hk.2.1 hk.2.2.2.2.1 hc.2.1 hk.2.2.2.2.2.1 hk.2.2.2.2.2.2.2.2.2.2.2.2.1 hR.1 (a - 1) h1 hc.at k hf.1 (hk.2.2.2.2.1 _ hf.2) (fun _ q => q) (fld_at hf.1) hd ?_
  rw [ht]
  exact kk p e R s m args below meth c H locs cells slots mc ms ls (h.st1 (ok_c (v := .inr (.inr (I a (k : Int)))) ((hR.2.1 a k).2) (ok_t h.2.2.2.1)))
theorem x_getp {idx ci k a v : Nat} (hd : decode Y.2.1 pc = .ok (.getfield idx, 3)) (hf : FR Y.1.cls idx ci k) (hc : CF ci) (hA : AT n a ci) (hp : P a (k : Int) = v) (ht : isRT (fTy ci k) = true := by rfl) (kk : V G Y d kc ks (pc + 3) lv (.inr (.inl v) :: st) n I P Q) : V G Y d kc ks pc lv (.inr (.inl a) :: st) n I P Q := by
  intro p e R s m args below meth c H locs cells slots mc ms ls h
  have hk := h.1
  have hR := h.2.2.2.2.1
  have e2 : conc G.1 (.inr (.inl a)) = .ref (adr G.1 a) := rvl_pos hA.ne0
  rw [List.map_cons, e2]
  have h1 := rp_at hR hA.2.1 hA.2.2
  rw [ent_ob hA.1 hc.lt] at h1
  refine va_get (C := (cT ci).1) (T := (cT ci).2.1) (N := (cT ci).2.2) hk.1 hk.2.1 hk.2.2.2.2.1 hc.2.1 hk.2.2.2.2.2.1 hk.2.2.2.2.2.2.2.2.2.2.2.2.1 hR.1 (a - 1) h1 hc.at k hf.1 (hk.2.2.2.2.1 _ hf.2) (fun _ q => q) (fld_at hf.1) hd ?_
  rw [fvl_r ht, hp]
  exact kk p e R s m args below meth c H locs cells slots mc ms ls (h.st1 (ok_c (v := .inr (.inl v)) trivial (ok_t h.2.2.2.1)))
theorem vpV_map {N : Nat} {g : Nat → Value} {j : Nat} (hj : j < N) : vp_V ((List.range N).map g) j = g j := by
  show ((List.range N).map g).getD j .null = g j
  rw [List.getD_eq_getElem?_getD, List.getElem?_map, List.getElem?_range hj]
  rfl
/-- the world behind a store into a field -/
theorem put_rp {ci k a : Nat} {I' : Mem} {P' : Ptr} {v : AV} {H H' : Heap} {cell : Cell} (hc : CF ci) (hA : AT n a ci) (hk : k < NFl ci) (hR : Rp G.1 n I P H) (hap : ∀ x y, x < NFl ci → y < NFl ci → x ≠ y → (G.1.D.2 ci) x ≠ (G.1.D.2 ci) y)
    (q2 : cell.cls = G.1.D.1 ci) (q3 : cell.vm = .none) (q4 : ∀ j, j < NFl ci → cell.slots[G.1.D.2 ci j]? = some (vp_V ((List.range (NFl ci)).map (fun k => fvl G.1 (fTy ci k) I P a k)) j))
    (hoff : ∀ b, b ≠ a → I' b = I b ∧ P' b = P b) (hon : ∀ j, j < NFl ci → fvl G.1 (fTy ci j) I' P' a j = if j = k then conc G.1 v else fvl G.1 (fTy ci j) I P a j) (hG : RG I → RG I')
    (e1 : H'[adr G.1 a]? = some (cell.setSlot (G.1.D.2 ci k) (conc G.1 v))) (e2 : H'.size = H.size) (e3 : ∀ q : Nat, q ≠ adr G.1 a → H'[q]? = H[q]?) : Rp G.1 n I' P' H' := by
  have h1 := rp_at hR hA.2.1 hA.2.2
  refine ⟨?_, hG hR.2.1, hR.2.2.1, by rw [e2]; exact hR.2.2.2.1, by rw [e2]; exact hR.2.2.2.2⟩
  rw [← wld_set hA.2.1 (Nat.lt_of_le_of_lt hR.2.2.1 (by decide)) hoff]
  refine hR.1.set (wld_D _ _ _ _) h1 ?_ e3
  rw [ent_ob hA.1 hc.lt]
  refine ⟨_, hc.at, t_OB.to (V := updV (vp_V ((List.range (NFl ci)).map (fun k => fvl G.1 (fTy ci k) I P a k))) k (conc G.1 v)) ⟨_, e1, q2, q3, t_set q4 hap hk _⟩ (fun j hj => ?_)⟩
  rw [vpV_map hj, hon j hj]
  unfold updV
  split
  · rfl
  · exact vpV_map hj
theorem put_core {idx ci k a : Nat} {I' : Mem} {P' : Ptr} {v : AV} (hd : decode Y.2.1 pc = .ok (.putfield idx, 3)) (hf : FR Y.1.cls idx ci k) (hc : CF ci) (hA : AT n a ci) (hfin : ((cT ci).2.1 k).2.2.2 = false)
    (hn : narrow (fTy ci k) (conc G.1 v) = conc G.1 v) (hfit : fits (fTy ci k) (conc G.1 v) = true) (hoff : ∀ b, b ≠ a → I' b = I b ∧ P' b = P b) (hon : ∀ j, j < NFl ci → fvl G.1 (fTy ci j) I' P' a j = if j = k then conc G.1 v else fvl G.1 (fTy ci j) I P a j) (hG : RG I → RG I') (kk : V G Y d kc ks (pc + 3) lv st n I' P' Q) : V G Y d kc ks pc lv (v :: .inr (.inl a) :: st) n I P Q := by
  intro p e R s m args below meth c H locs cells slots mc ms ls h
  obtain ⟨hk, hb, hL, hS, hR, hSS, hbs⟩ := id h
  have ea : conc G.1 (.inr (.inl a)) = .ref (adr G.1 a) := rvl_pos hA.ne0
  rw [List.map_cons, List.map_cons, ea]
  have h1 := rp_at hR hA.2.1 hA.2.2
  rw [ent_ob hA.1 hc.lt] at h1
  have hKK := hk.2.2.2.2.2.2.2.2.2.2.2.2.1
  have hts := hk.2.2.2.2.1
  have hap := va_apart (own := Y.1.cls) (ci := ci) hts hc.2.1 (fTy ci) hc.2.2.1 hc.2.2.2 hKK hc.at
  obtain ⟨r, g1, cell, q1, q2, q3, q4⟩ := hR.1 (a - 1) _ h1
  have hr : r = ((cT ci).1, (cT ci).2.1, (cT ci).2.2) := Option.some.inj (g1.symm.trans hc.at)
  subst hr
  obtain ⟨hSl, hfc, kC, hkC, hkind⟩ := hKK.1 ci _ hc.at
  obtain ⟨cf, kf, fi, f, hi, hsl⟩ := hSl k hf.1
  have hst := (u_facts hfc hkC (u_lays hts hc.2.1 hf.1) hi).1
  have hlay := hts _ (hc.2.1 _ (u_in_lay hf.1))
  unfold u_lay at hlay
  rw [if_neg (by rw [hfin]; decide)] at hlay
  have h6 := u_store hfc hkC hkind hlay hi (hc.2.2.1 k hf.1) hn hfit
  refine W.putK hk.1 hk.2.1 (f := f) ⟨hk.2.2.2.2.2.1, hts _ hf.2, ⟨_, _, _, hi⟩, hst⟩ (by rw [q2]; exact h6) q1 q3 (by rw [hsl]; exact k2_hasslot (q4 k hf.1)) rfl rfl hd fun H' e1 e2 e3 => ?_
  rw [hsl] at e1 ⊢
  exact kk p e R s m args below meth c H' _ cells slots mc ms ls ⟨hk, hb, hL, ok_t (ok_t hS), put_rp hc hA hf.1 hR hap q2 q3 q4 hoff hon hG e1 e2 e3, hSS.put e2 e3 ((wld_D G.1 n I P).2 _ _ h1), hbs⟩
theorem putF_core {idx ci k a : Nat} {I' : Mem} {P' : Ptr} {v : AV} (hd : decode Y.2.1 pc = .ok (.putfield idx, 3)) (hf : FR Y.1.cls idx ci k) (hc : CF ci) (hA : AT n a ci) (hfin : ((cT ci).2.1 k).2.2.2 = true ∧ Y.1.name = "<init>" ∧ ((cT ci).2.1 k).1 = Y.1.cls)
    (hn : narrow (fTy ci k) (conc G.1 v) = conc G.1 v) (hfit : fits (fTy ci k) (conc G.1 v) = true) (hoff : ∀ b, b ≠ a → I' b = I b ∧ P' b = P b) (hon : ∀ j, j < NFl ci → fvl G.1 (fTy ci j) I' P' a j = if j = k then conc G.1 v else fvl G.1 (fTy ci j) I P a j) (hG : RG I → RG I') (kk : V G Y d kc ks (pc + 3) lv st n I' P' Q) : V G Y d kc ks pc lv (v :: .inr (.inl a) :: st) n I P Q := by
  intro p e R s m args below meth c H locs cells slots mc ms ls h
  obtain ⟨hk, hb, hL, hS, hR, hSS, hbs⟩ := id h
  have ea : conc G.1 (.inr (.inl a)) = .ref (adr G.1 a) := rvl_pos hA.ne0
  rw [List.map_cons, List.map_cons, ea]
  have h1 := rp_at hR hA.2.1 hA.2.2
  rw [ent_ob hA.1 hc.lt] at h1
  have hKK := hk.2.2.2.2.2.2.2.2.2.2.2.2.1
  have hts := hk.2.2.2.2.1
  have hap := va_apart (own := Y.1.cls) (ci := ci) hts hc.2.1 (fTy ci) hc.2.2.1 hc.2.2.2 hKK hc.at
  obtain ⟨r, g1, cell, q1, q2, q3, q4⟩ := hR.1 (a - 1) _ h1
  have hr : r = ((cT ci).1, (cT ci).2.1, (cT ci).2.2) := Option.some.inj (g1.symm.trans hc.at)
  subst hr
  obtain ⟨hSl, hfc, kC, hkC, hkind⟩ := hKK.1 ci _ hc.at
  obtain ⟨cf, kf, fi, f, hi, hsl⟩ := hSl k hf.1
  have hst := (u_facts hfc hkC (u_lays hts hc.2.1 hf.1) hi).1
  have hlay := hts _ (hc.2.1 _ (u_in_lay hf.1))
  unfold u_lay at hlay
  rw [if_pos hfin.1] at hlay
  have hcf : m.cls = cf := by
    obtain ⟨_, _, c', _, _, _, -, -, hf', -, -, -, hown2, -⟩ := Cond.laysFinal_spec hlay
    have e1 : c' = cf := by have := hi.symm.trans hf'; simp at this; exact this.1.symm
    rw [hfin.2.2] at hown2
    rw [← e1]; exact Option.some.inj (hk.2.2.2.2.2.1.symm.trans hown2)
  have h6 := u_fits hfc hkC hkind (Or.inr hlay) hi (hc.2.2.1 k hf.1) hn hfit
  refine W.putFinK hk.1 hk.2.1 hk.2.2.2.2.2.1 (hts _ hf.2) hi hst hcf (hk.2.2.2.2.2.2.2.2.1.trans hfin.2.1) (by rw [q2]; exact h6) q1 q3 (by rw [hsl]; exact k2_hasslot (q4 k hf.1)) rfl rfl hd fun H' e1 e2 e3 => ?_
  rw [hsl] at e1 ⊢
  exact kk p e R s m args below meth c H' _ cells slots mc ms ls ⟨hk, hb, hL, ok_t (ok_t hS), put_rp hc hA hf.1 hR hap q2 q3 q4 hoff hon hG e1 e2 e3, hSS.put e2 e3 ((wld_D G.1 n I P).2 _ _ h1), hbs⟩
theorem nw_i {ty : FieldType} {x : Int} (ht : ty = .int ∨ (ty = .boolean ∧ (x = 0 ∨ x = 1))) : narrow ty (.int (oI x)) = .int (oI x) ∧ fits ty (.int (oI x)) = true := by
  rcases ht with rfl | ⟨rfl, rfl | rfl⟩ <;> exact ⟨rfl, rfl⟩
theorem on_i {G : CX} {ci k a : Nat} {I : Mem} {P : Ptr} {x : Int} (ht : isIT (fTy ci k) = true) (j : Nat) : fvl G (fTy ci j) (uI I a (k : Int) x) P a j = if j = k then conc G (.inl x) else fvl G (fTy ci j) I P a j := by
  by_cases e : j = k
  · subst e
    rw [if_pos rfl, fvl_i ht, uI_eq, u1_eq]
    rfl
  · rw [if_neg e]
    unfold fvl
    rw [uI_eq, u1_ne (by omega)]
theorem on_l {G : CX} {ci k a : Nat} {I : Mem} {P : Ptr} {x : Int} (ht : fTy ci k = .long) (j : Nat) : fvl G (fTy ci j) (uI I a (k : Int) x) P a j = if j = k then conc G (.inr (.inr x)) else fvl G (fTy ci j) I P a j := by
  by_cases e : j = k
  · subst e
    rw [if_pos rfl, ht]
    show Value.long (oL (uI I a (j : Int) x a (j : Int))) = _
    rw [uI_eq, u1_eq]
    rfl
  · rw [if_neg e]
    unfold fvl
    rw [uI_eq, u1_ne (by omega)]
theorem on_r {G : CX} {ci k a : Nat} {I : Mem} {P : Ptr} {v : Nat} (ht : isRT (fTy ci k) = true) (j : Nat) : fvl G (fTy ci j) I (uP P a (k : Int) v) a j = if j = k then conc G (.inr (.inl v)) else fvl G (fTy ci j) I P a j := by
  by_cases e : j = k
  · subst e
    rw [if_pos rfl, fvl_r ht, uP_eq, u1_eq]
    rfl
  · rw [if_neg e]
    unfold fvl
    rw [uP_eq, u1_ne (by omega)]
theorem x_puti {idx ci k a : Nat} {x : Int} (hd : decode Y.2.1 pc = .ok (.putfield idx, 3)) (hf : FR Y.1.cls idx ci k) (hc : CF ci) (hA : AT n a ci) (ht : fTy ci k = .int := by rfl) (hfin : ((cT ci).2.1 k).2.2.2 = false := by rfl) (kk : V G Y d kc ks (pc + 3) lv st n (uI I a (k : Int) x) P Q) : V G Y d kc ks pc lv (.inl x :: .inr (.inl a) :: st) n I P Q := by
  refine x_top (fun hr => ?_)
  obtain ⟨h1, h2⟩ := nw_i (ty := fTy ci k) (x := x) (Or.inl ht)
  exact put_core (v := .inl x) hd hf hc hA hfin h1 h2 (fun b hb => ⟨uI_ne hb, rfl⟩) (fun j _ => on_i (by rw [ht]; rfl) j) (fun h => h.uI hr) kk
theorem x_putz {idx ci k a : Nat} {x : Int} (hd : decode Y.2.1 pc = .ok (.putfield idx, 3)) (hf : FR Y.1.cls idx ci k) (hc : CF ci) (hA : AT n a ci) (hx : x = 0 ∨ x = 1) (ht : fTy ci k = .boolean := by rfl) (hfin : ((cT ci).2.1 k).2.2.2 = false := by rfl) (kk : V G Y d kc ks (pc + 3) lv st n (uI I a (k : Int) x) P Q) : V G Y d kc ks pc lv (.inl x :: .inr (.inl a) :: st) n I P Q := by
  refine x_top (fun hr => ?_)
  obtain ⟨h1, h2⟩ := nw_i (ty := fTy ci k) (x := x) (Or.inr ⟨ht, hx⟩)
  exact put_core (v := .inl x) hd hf hc hA hfin h1 h2 (fun b hb => ⟨uI_ne hb, rfl⟩) (fun j _ => on_i (by rw [ht]; rfl) j) (fun h => h.uI hr) kk
theorem x_topl {x : Int} (k : rng64 x → V G Y d kc ks pc lv (.inr (.inr x) :: st) n I P Q) : V G Y d kc ks pc lv (.inr (.inr x) :: st) n I P Q := fun p e R s m args below meth c H locs cells slots mc ms ls hh => k (ok_h hh.2.2.2.1) p e R s m args below meth c H locs cells slots mc ms ls hh
theorem x_putl {idx ci k a : Nat} {x : Int} (hd : decode Y.2.1 pc = .ok (.putfield idx, 3)) (hf : FR Y.1.cls idx ci k) (hc : CF ci) (hA : AT n a ci) (ht : fTy ci k = .long := by rfl) (hfin : ((cT ci).2.1 k).2.2.2 = false := by rfl) (kk : V G Y d kc ks (pc + 3) lv st n (uI I a (k : Int) x) P Q) : V G Y d kc ks pc lv (.inr (.inr x) :: .inr (.inl a) :: st) n I P Q := by
  refine x_topl (fun hr => ?_)
  exact put_core (v := .inr (.inr x)) hd hf hc hA hfin (by rw [ht]; rfl) (by rw [ht]; rfl) (fun b hb => ⟨uI_ne hb, rfl⟩) (fun j _ => on_l ht j) (fun h => rgUIL h (Or.inr ⟨by rw [hA.1]; exact hc.lt, by rw [hA.1, Int.toNat_natCast]; exact ht⟩) hr) kk
theorem nw_r {ty : FieldType} {v : Nat} {G : CX} (ht : isRT ty = true) : narrow ty (conc G (.inr (.inl v))) = conc G (.inr (.inl v)) ∧ fits ty (conc G (.inr (.inl v))) = true := by
  show narrow ty (rvl G v) = rvl G v ∧ fits ty (rvl G v) = true
  unfold rvl
  cases ty <;> first | (cases ht; done) | (split <;> exact ⟨rfl, rfl⟩)
theorem x_putp {idx ci k a v : Nat} (hd : decode Y.2.1 pc = .ok (.putfield idx, 3)) (hf : FR Y.1.cls idx ci k) (hc : CF ci) (hA : AT n a ci) (ht : isRT (fTy ci k) = true := by rfl) (hfin : ((cT ci).2.1 k).2.2.2 = false := by rfl) (kk : V G Y d kc ks (pc + 3) lv st n I (uP P a (k : Int) v) Q) : V G Y d kc ks pc lv (.inr (.inl v) :: .inr (.inl a) :: st) n I P Q := by
  obtain ⟨h1, h2⟩ := nw_r (v := v) (G := G.1) ht
  exact put_core (v := .inr (.inl v)) hd hf hc hA hfin h1 h2 (fun b hb => ⟨rfl, uP_ne hb⟩) (fun j _ => on_r ht j) (fun h => h) kk
theorem x_putpF {idx ci k a v : Nat} (hd : decode Y.2.1 pc = .ok (.putfield idx, 3)) (hf : FR Y.1.cls idx ci k) (hc : CF ci) (hA : AT n a ci) (ht : isRT (fTy ci k) = true := by rfl) (hfin : ((cT ci).2.1 k).2.2.2 = true ∧ Y.1.name = "<init>" ∧ ((cT ci).2.1 k).1 = Y.1.cls := by exact ⟨rfl, rfl, rfl⟩) (kk : V G Y d kc ks (pc + 3) lv st n I (uP P a (k : Int) v) Q) : V G Y d kc ks pc lv (.inr (.inl v) :: .inr (.inl a) :: st) n I P Q := by
  obtain ⟨h1, h2⟩ := nw_r (v := v) (G := G.1) ht
  exact putF_core (v := .inr (.inl v)) hd hf hc hA hfin h1 h2 (fun b hb => ⟨rfl, uP_ne hb⟩) (fun j _ => on_r ht j) (fun h => h) kk
theorem x_iald {a N : Nat} {i : Int} (hd : decode Y.2.1 pc = .ok (.iaload, 1)) (hA : AR n a 20 N) (hi : 0 ≤ i ∧ i < (N : Int)) (kk : V G Y d kc ks (pc + 1) lv (.inl (I a i) :: st) n I P Q) : V G Y d kc ks pc lv (.inl i :: .inr (.inl a) :: st) n I P Q := by
  intro p e R s m args below meth c H locs cells slots mc ms ls h
  have hk := h.1
  have hR := h.2.2.2.2.1
  have ri : rng i := ok_h h.2.2.2.1
  have e2 : conc G.1 (.inr (.inl a)) = .ref (adr G.1 a) := rvl_pos hA.ne0
  rw [List.map_cons, List.map_cons, e2]
  have h1 := rp_at hR hA.2.1 hA.2.2
  rw [ent_i 0 (by decide) hA.1] at h1
  refine va_iald hk.1 hk.2.1 hk.2.2.2.2.2.2.2.2.2.2.2.2.1 hR.1 (a - 1) 0 h1 rfl (oI_in hi ri) hd ?_
  rw [oI_clamp ri, Int.toNat_of_nonneg hi.1]
  exact kk p e R s m args below meth c H locs cells slots mc ms ls (h.st1 (ok_c (v := .inl (I a i)) ((hR.2.1 a i).1 (LG_i (t := 0) (by decide) hA.1 i)) (ok_t (ok_t h.2.2.2.1))))
theorem x_bald {a N : Nat} {i : Int} (hd : decode Y.2.1 pc = .ok (.baload, 1)) (hA : AR n a 22 N) (hi : 0 ≤ i ∧ i < (N : Int)) (kk : V G Y d kc ks (pc + 1) lv (.inl (I a i) :: st) n I P Q) : V G Y d kc ks pc lv (.inl i :: .inr (.inl a) :: st) n I P Q := by
  intro p e R s m args below meth c H locs cells slots mc ms ls h
  have hk := h.1
  have hR := h.2.2.2.2.1
  have ri : rng i := ok_h h.2.2.2.1
  have e2 : conc G.1 (.inr (.inl a)) = .ref (adr G.1 a) := rvl_pos hA.ne0
  rw [List.map_cons, List.map_cons, e2]
  have h1 := rp_at hR hA.2.1 hA.2.2
  rw [ent_i 2 (by decide) hA.1] at h1
  refine va_bald hk.1 hk.2.1 hk.2.2.2.2.2.2.2.2.2.2.2.2.1 hR.1 (a - 1) 2 h1 rfl (oI_in hi ri) hd ?_
  rw [oI_clamp ri, Int.toNat_of_nonneg hi.1]
  exact kk p e R s m args below meth c H locs cells slots mc ms ls (h.st1 (ok_c (v := .inl (I a i)) ((hR.2.1 a i).1 (LG_i (t := 2) (by decide) hA.1 i)) (ok_t (ok_t h.2.2.2.1))))
theorem x_zald {a N : Nat} {i : Int} (hd : decode Y.2.1 pc = .ok (.baload, 1)) (hA : AR n a 23 N) (hi : 0 ≤ i ∧ i < (N : Int)) (kk : V G Y d kc ks (pc + 1) lv (.inl (I a i) :: st) n I P Q) : V G Y d kc ks pc lv (.inl i :: .inr (.inl a) :: st) n I P Q := by
  intro p e R s m args below meth c H locs cells slots mc ms ls h
  have hk := h.1
  have hR := h.2.2.2.2.1
  have ri : rng i := ok_h h.2.2.2.1
  have e2 : conc G.1 (.inr (.inl a)) = .ref (adr G.1 a) := rvl_pos hA.ne0
  rw [List.map_cons, List.map_cons, e2]
  have h1 := rp_at hR hA.2.1 hA.2.2
  rw [ent_i 3 (by decide) hA.1] at h1
  refine va_zald hk.1 hk.2.1 hk.2.2.2.2.2.2.2.2.2.2.2.2.1 hR.1 (a - 1) 3 h1 rfl (oI_in hi ri) hd ?_
  rw [oI_clamp ri, Int.toNat_of_nonneg hi.1]
  exact kk p e R s m args below meth c H locs cells slots mc ms ls (h.st1 (ok_c (v := .inl (I a i)) ((hR.2.1 a i).1 (LG_i (t := 3) (by decide) hA.1 i)) (ok_t (ok_t h.2.2.2.1))))
theorem x_lald {a N : Nat} {i : Int} (hd : decode Y.2.1 pc = .ok (.laload, 1)) (hA : AR n a 21 N) (hi : 0 ≤ i ∧ i < (N : Int)) (kk : V G Y d kc ks (pc + 1) lv (.inr (.inr (I a i)) :: st) n I P Q) : V G Y d kc ks pc lv (.inl i :: .inr (.inl a) :: st) n I P Q := by
  intro p e R s m args below meth c H locs cells slots mc ms ls h
  have hk := h.1
  have hR := h.2.2.2.2.1
  have ri : rng i := ok_h h.2.2.2.1
  have e2 : conc G.1 (.inr (.inl a)) = .ref (adr G.1 a) := rvl_pos hA.ne0
  rw [List.map_cons, List.map_cons, e2]
  have h1 := rp_at hR hA.2.1 hA.2.2
  rw [ent_l hA.1] at h1
  refine va_lald hk.1 hk.2.1 hk.2.2.2.2.2.2.2.2.2.2.2.2.1 hR.1 (a - 1) 1 h1 rfl (oI_in hi ri) hd ?_
  rw [oI_clamp ri, Int.toNat_of_nonneg hi.1]
  exact kk p e R s m args below meth c H locs cells slots mc ms ls (h.st1 (ok_c (v := .inr (.inr (I a i))) ((hR.2.1 a i).2) (ok_t (ok_t h.2.2.2.1))))
theorem x_aald {a N v : Nat} {i : Int} (hd : decode Y.2.1 pc = .ok (.aaload, 1)) (hA : AR n a 24 N) (hi : 0 ≤ i ∧ i < (N : Int)) (hp : P a i = v) (hv : v ≠ 0) (kk : V G Y d kc ks (pc + 1) lv (.inr (.inl v) :: st) n I P Q) : V G Y d kc ks pc lv (.inl i :: .inr (.inl a) :: st) n I P Q := by
  intro p e R s m args below meth c H locs cells slots mc ms ls h
  have hk := h.1
  have hR := h.2.2.2.2.1
  have ri : rng i := ok_h h.2.2.2.1
  have e2 : conc G.1 (.inr (.inl a)) = .ref (adr G.1 a) := rvl_pos hA.ne0
  have e3 : conc G.1 (.inr (.inl v)) = .ref (adr G.1 v) := rvl_pos hv
  rw [List.map_cons, List.map_cons, e2]
  have h1 := rp_at hR hA.2.1 hA.2.2
  rw [ent_q hA.1] at h1
  have hlt : (oI i).toNatClampNeg < N := by rw [oI_clamp ri]; omega
  have hin := oI_in hi ri
  refine W.aald (v := .ref (adr G.1 v)) (ty := .array .int) hk.1 hk.2.1 (hR.1 _ _ h1) ((hk.2.2.2.2.2.2.2.2.2.2.2.2.1.2 4 _ rfl).1 N (fun j => va_rf (if P a (j : Int) = 0 then none else some (adr G.1 (P a (j : Int)))))) rfl (fun q => by cases q) (by show ¬ (oI i < 0 ∨ (arrV _ _ _).slots.size ≤ _); rw [arrV_size]; exact hin) ?_ rfl rfl hd ?_
  · show (arrV _ _ _).slots[_]? = _
    rw [arrV_read _ _ hlt, oI_clamp ri]
    show some (va_rf (if P a ((i.toNat : Nat) : Int) = 0 then none else some (adr G.1 (P a ((i.toNat : Nat) : Int))))) = _
    rw [Int.toNat_of_nonneg hi.1, hp, if_neg hv]
    rfl
  · have e4 := kk p e R s m args below meth c H locs cells slots mc ms ls (h.st1 (ok_c (v := .inr (.inl v)) trivial (ok_t (ok_t h.2.2.2.1))))
    rw [List.map_cons, e3] at e4
    exact e4
theorem x_alen {a t N : Nat} (ht : t = 0 ∨ t = 2 ∨ t = 3) (hd : decode Y.2.1 pc = .ok (.arraylength, 1)) (hA : AR n a (20 + t) N) (hN : (N : Int) < 2147483648) (kk : V G Y d kc ks (pc + 1) lv (.inl (N : Int) :: st) n I P Q) : V G Y d kc ks pc lv (.inr (.inl a) :: st) n I P Q := by
  intro p e R s m args below meth c H locs cells slots mc ms ls h
  have hk := h.1
  have hR := h.2.2.2.2.1
  have e2 : conc G.1 (.inr (.inl a)) = .ref (adr G.1 a) := rvl_pos hA.ne0
  rw [List.map_cons, e2]
  have h1 := rp_at hR hA.2.1 hA.2.2
  rw [ent_i t ht hA.1] at h1
  have hty : ∃ ty, (tys G.1)[t]? = some (G.1.ac t, ty) := by rcases ht with rfl | rfl | rfl <;> exact ⟨_, rfl⟩
  obtain ⟨ty, hty⟩ := hty
  refine va_alen hk.1 hk.2.1 hk.2.2.2.2.2.2.2.2.2.2.2.2.1 hR.1 (a - 1) t h1 hty (v := oI (N : Int)) (oI_nat N).symm hd ?_
  exact kk p e R s m args below meth c H locs cells slots mc ms ls (h.st1 (ok_c (v := .inl (N : Int)) ⟨by omega, hN⟩ (ok_t h.2.2.2.1)))
/-- the world behind a store into an array -/
theorem ast_rp {a : Nat} {I' : Mem} {H H' : Heap} {e1 : va_E} (h1 : 1 ≤ a) (h2 : a ≤ n) (hR : Rp G.1 n I P H) (hoff : ∀ b, b ≠ a → I' b = I b) (hent : ent G.1 I' P a = e1) (hat : va_at G.1.D vwCl (adr G.1 a, e1) H') (hG : RG I → RG I') (e2 : H'.size = H.size) (e3 : ∀ q : Nat, q ≠ adr G.1 a → H'[q]? = H[q]?) : Rp G.1 n I' P H' := by
  refine ⟨?_, hG hR.2.1, hR.2.2.1, by rw [e2]; exact hR.2.2.2.1, by rw [e2]; exact hR.2.2.2.2⟩
  rw [← wld_set h1 (Nat.lt_of_le_of_lt hR.2.2.1 (by decide)) (fun b hb => ⟨hoff b hb, rfl⟩), hent]
  exact hR.1.set (wld_D _ _ _ _) (rp_at hR h1 h2) hat e3
theorem updV_u1 {f : Int → Int} {i x : Int} (hi : 0 ≤ i) (g : Int → Value) : (fun j : Nat => g (u1 f i x (j : Int))) = updV (fun j : Nat => g (f (j : Int))) i.toNat (g x) := by
  funext j
  unfold u1 updV
  by_cases e : (j : Int) = i
  · rw [if_pos e, if_pos (by omega)]
  · rw [if_neg e, if_neg (by omega)]
theorem x_iast {a N : Nat} {i x : Int} (hd : decode Y.2.1 pc = .ok (.iastore, 1)) (hA : AR n a 20 N) (hi : 0 ≤ i ∧ i < (N : Int)) (kk : V G Y d kc ks (pc + 1) lv st n (uI I a i x) P Q) : V G Y d kc ks pc lv (.inl x :: .inl i :: .inr (.inl a) :: st) n I P Q := by
  intro p e R s m args below meth c H locs cells slots mc ms ls h
  obtain ⟨hk, hb, hL, hS, hR, hSS, hbs⟩ := id h
  have rx : rng x := ok_h hS
  have ri : rng i := ok_h (ok_t hS)
  have e2 : conc G.1 (.inr (.inl a)) = .ref (adr G.1 a) := rvl_pos hA.ne0
  rw [List.map_cons, List.map_cons, List.map_cons, e2]
  have h1 := rp_at hR hA.2.1 hA.2.2
  rw [ent_i 0 (by decide) hA.1] at h1
  have hin := oI_in hi ri
  refine W.iast hk.1 hk.2.1 (hR.1 _ _ h1) ((hk.2.2.2.2.2.2.2.2.2.2.2.2.1.2 0 _ rfl).1 N (fun j => .int (oI (I a (j : Int))))) (fun q => by cases q) (by show ¬ (oI i < 0 ∨ (arrV _ _ _).slots.size ≤ _); rw [arrV_size]; exact hin) rfl rfl hd fun H1 e9 z oq => ?_
  refine kk p e R s m args below meth c H1 _ cells slots mc ms ls ⟨hk, hb, hL, ok_t (ok_t (ok_t hS)), ast_rp hA.2.1 hA.2.2 hR (fun b hb => uI_ne hb) (ent_i 0 (by decide) hA.1) ?_ (fun h => h.uI rx) z oq, hSS.put z oq ((wld_D G.1 n I P).2 _ _ h1), hbs⟩
  show H1[adr G.1 a]? = some (arrV _ _ (fun j : Nat => .int (oI (uI I a i x a (j : Int)))))
  rw [e9]
  show some ((arrV _ _ (fun j : Nat => .int (oI (I a (j : Int))))).setSlot _ _) = _
  rw [arrV_store, oI_clamp ri, uI_eq, updV_u1 hi.1 (fun z => .int (oI (z)))]
theorem x_zast {a N : Nat} {i x : Int} (hd : decode Y.2.1 pc = .ok (.bastore, 1)) (hA : AR n a 23 N) (hi : 0 ≤ i ∧ i < (N : Int)) (hx : x = 0 ∨ x = 1) (kk : V G Y d kc ks (pc + 1) lv st n (uI I a i x) P Q) : V G Y d kc ks pc lv (.inl x :: .inl i :: .inr (.inl a) :: st) n I P Q := by
  intro p e R s m args below meth c H locs cells slots mc ms ls h
  obtain ⟨hk, hb, hL, hS, hR, hSS, hbs⟩ := id h
  have rx : rng x := ok_h hS
  have ri : rng i := ok_h (ok_t hS)
  have e2 : conc G.1 (.inr (.inl a)) = .ref (adr G.1 a) := rvl_pos hA.ne0
  rw [List.map_cons, List.map_cons, List.map_cons, e2]
  have h1 := rp_at hR hA.2.1 hA.2.2
  rw [ent_i 3 (by decide) hA.1] at h1
  have hin := oI_in hi ri
  refine W.zast hk.1 hk.2.1 (hR.1 _ _ h1) ((hk.2.2.2.2.2.2.2.2.2.2.2.2.1.2 3 _ rfl).1 N (fun j => .int (oI (I a (j : Int))))) (fun q => by cases q) (by show ¬ (oI i < 0 ∨ (arrV _ _ _).slots.size ≤ _); rw [arrV_size]; exact hin) rfl rfl hd fun H1 e9 z oq => ?_
  refine kk p e R s m args below meth c H1 _ cells slots mc ms ls ⟨hk, hb, hL, ok_t (ok_t (ok_t hS)), ast_rp hA.2.1 hA.2.2 hR (fun b hb => uI_ne hb) (ent_i 3 (by decide) hA.1) ?_ (fun h => h.uI rx) z oq, hSS.put z oq ((wld_D G.1 n I P).2 _ _ h1), hbs⟩
  show H1[adr G.1 a]? = some (arrV _ _ (fun j : Nat => .int (oI (uI I a i x a (j : Int)))))
  rw [e9, (nw_i (ty := .boolean) (x := x) (Or.inr ⟨rfl, hx⟩)).1]
  show some ((arrV _ _ (fun j : Nat => .int (oI (I a (j : Int))))).setSlot _ _) = _
  rw [arrV_store, oI_clamp ri, uI_eq, updV_u1 hi.1 (fun z => .int (oI (z)))]
theorem nw_b {x : Int} (h : -128 ≤ x ∧ x < 128) : narrow .byte (.int (oI x)) = .int (oI x) := by
  show Value.int (oI x).toInt8.toInt32 = _
  rw [Int32.toInt8_ofInt, b8 h]
theorem x_bast {a N : Nat} {i x : Int} (hd : decode Y.2.1 pc = .ok (.bastore, 1)) (hA : AR n a 22 N) (hi : 0 ≤ i ∧ i < (N : Int)) (hx : -128 ≤ x ∧ x < 128) (kk : V G Y d kc ks (pc + 1) lv st n (uI I a i x) P Q) : V G Y d kc ks pc lv (.inl x :: .inl i :: .inr (.inl a) :: st) n I P Q := by
  intro p e R s m args below meth c H locs cells slots mc ms ls h
  obtain ⟨hk, hb, hL, hS, hR, hSS, hbs⟩ := id h
  have rx : rng x := ok_h hS
  have ri : rng i := ok_h (ok_t hS)
  have e2 : conc G.1 (.inr (.inl a)) = .ref (adr G.1 a) := rvl_pos hA.ne0
  rw [List.map_cons, List.map_cons, List.map_cons, e2]
  have h1 := rp_at hR hA.2.1 hA.2.2
  rw [ent_i 2 (by decide) hA.1] at h1
  have hin := oI_in hi ri
  refine W.bast hk.1 hk.2.1 (hR.1 _ _ h1) ((hk.2.2.2.2.2.2.2.2.2.2.2.2.1.2 2 _ rfl).1 N (fun j => .int (oI (I a (j : Int))))) (fun q => by cases q) (by show ¬ (oI i < 0 ∨ (arrV _ _ _).slots.size ≤ _); rw [arrV_size]; exact hin) rfl rfl hd fun H1 e9 z oq => ?_
  refine kk p e R s m args below meth c H1 _ cells slots mc ms ls ⟨hk, hb, hL, ok_t (ok_t (ok_t hS)), ast_rp hA.2.1 hA.2.2 hR (fun b hb => uI_ne hb) (ent_i 2 (by decide) hA.1) ?_ (fun h => h.uI rx) z oq, hSS.put z oq ((wld_D G.1 n I P).2 _ _ h1), hbs⟩
  show H1[adr G.1 a]? = some (arrV _ _ (fun j : Nat => .int (oI (uI I a i x a (j : Int)))))
  rw [e9, nw_b hx]
  show some ((arrV _ _ (fun j : Nat => .int (oI (I a (j : Int))))).setSlot _ _) = _
  rw [arrV_store, oI_clamp ri, uI_eq, updV_u1 hi.1 (fun z => .int (oI (z)))]
theorem x_last {a N : Nat} {i x : Int} (hd : decode Y.2.1 pc = .ok (.lastore, 1)) (hA : AR n a 21 N) (hi : 0 ≤ i ∧ i < (N : Int)) (kk : V G Y d kc ks (pc + 1) lv st n (uI I a i x) P Q) : V G Y d kc ks pc lv (.inr (.inr x) :: .inl i :: .inr (.inl a) :: st) n I P Q := by
  intro p e R s m args below meth c H locs cells slots mc ms ls h
  obtain ⟨hk, hb, hL, hS, hR, hSS, hbs⟩ := id h
  have rx : rng64 x := ok_h hS
  have ri : rng i := ok_h (ok_t hS)
  have e2 : conc G.1 (.inr (.inl a)) = .ref (adr G.1 a) := rvl_pos hA.ne0
  rw [List.map_cons, List.map_cons, List.map_cons, e2]
  have h1 := rp_at hR hA.2.1 hA.2.2
  rw [ent_l hA.1] at h1
  have hin := oI_in hi ri
  refine W.last hk.1 hk.2.1 (hR.1 _ _ h1) ((hk.2.2.2.2.2.2.2.2.2.2.2.2.1.2 1 _ rfl).1 N (fun j => .long (oL (I a (j : Int))))) (fun q => by cases q) (by show ¬ (oI i < 0 ∨ (arrV _ _ _).slots.size ≤ _); rw [arrV_size]; exact hin) rfl rfl hd fun H1 e9 z oq => ?_
  refine kk p e R s m args below meth c H1 _ cells slots mc ms ls ⟨hk, hb, hL, ok_t (ok_t (ok_t hS)), ast_rp hA.2.1 hA.2.2 hR (fun b hb => uI_ne hb) (ent_l hA.1) ?_ (fun h => rgUIL h (Or.inl (by rw [hA.1])) rx) z oq, hSS.put z oq ((wld_D G.1 n I P).2 _ _ h1), hbs⟩
  show H1[adr G.1 a]? = some (arrV _ _ (fun j : Nat => .long (oL (uI I a i x a (j : Int)))))
  rw [e9]
  show some ((arrV _ _ (fun j : Nat => .long (oL (I a (j : Int))))).setSlot _ _) = _
  rw [arrV_store, oI_clamp ri, uI_eq, updV_u1 hi.1 (fun z => .long (oL (z)))]
theorem bs_le {H : Heap} (h : va_P G.1.D vwCl (wld G.1 n I P) H) (hn : n < 1000) (h0 : G.1.bs ≤ H.size) : G.1.bs + n ≤ H.size := by
  cases n with
  | zero => exact h0
  | succ k =>
    have h1 := wld_at (G := G.1) (n := k + 1) (I := I) (P := P) (a := k + 1) (by omega) (by omega) hn
    have h2 := (h _ _ h1).lt
    have h3 : (adr G.1 (k + 1)) < H.size := h2
    rw [adr_ob (by omega)] at h3
    omega
theorem nfw (d : Nat) (h : 2 ≤ d) : ((([] : List AV).map (conc G.1)).map fun v => v.category).sum + (nativeFrameWords "java/lang/System" "arraycopy" 5 + 11) ≤ 80 * d := by
  have h1 : nativeFrameWords "java/lang/System" "arraycopy" 5 + 11 ≤ 160 := by decide +kernel
  show 0 + _ ≤ _
  omega
/-- System.arraycopy of ints between two arrays -/
theorem x_copy {own : String} {idx a b N M : Nat} {sp dp z : Int} (hd : decode Y.2.1 pc = .ok (.invokestatic idx, 3)) (hlink : Cond.methodLink Y.1.cls idx arraycopyName ∈ TW) (hnO : n = NO) (hA : AR n a 20 N) (hB : AR n b 20 M) (h1 : 0 ≤ sp) (h2 : 0 ≤ dp) (h3 : 0 ≤ z) (h4 : sp + z ≤ (N : Int)) (h5 : dp + z ≤ (M : Int)) (hst : st = []) (h20 : 2 ≤ d)
    (kk : V G Y d kc ks (pc + 3) lv st n (uA I b (fun j => if dp ≤ j ∧ j < dp + z then I a (sp + (j - dp)) else I b j)) P Q) : V G Y d kc ks pc lv (.inl z :: .inl dp :: .inr (.inl b) :: .inl sp :: .inr (.inl a) :: st) n I P Q := by
  intro p e R s m args below meth c H locs cells slots mc ms ls h
  obtain ⟨hk, hb, hL, hS, hR, hSS, hbs⟩ := id h
  have rz : rng z := ok_h hS
  have rd : rng dp := ok_h (ok_t hS)
  have rs : rng sp := ok_h (ok_t (ok_t (ok_t hS)))
  have ea : conc G.1 (.inr (.inl a)) = .ref (adr G.1 a) := rvl_pos hA.ne0
  have eb : conc G.1 (.inr (.inl b)) = .ref (adr G.1 b) := rvl_pos hB.ne0
  rw [List.map_cons, List.map_cons, List.map_cons, List.map_cons, List.map_cons, ea, eb]
  have g1 := rp_at hR hA.2.1 hA.2.2
  have g2 := rp_at hR hB.2.1 hB.2.2
  rw [ent_i 0 (by decide) hA.1] at g1
  rw [ent_i 0 (by decide) hB.1] at g2
  have hts := hk.2.2.2.2.1
  have ng : ∀ x : Int, rng x → 0 ≤ x → ¬ oI x < 0 := fun x rx hx q => by
    have := (oI_lt rx rng_0).mp q
    omega
  subst hst
  refine va_copyi hk.1 hk.2.1 (hk.2.2.2.1.trans hL.sz.symm) hk.2.2.2.2.2.1 (hts _ hlink) (hts _ jc_nat) (hts _ jc_stat) (hts _ ini_java_lang_System) hk.2.2.2.2.2.2.2.2.2.2.2.2.1 hR.1 (wld_D _ _ _ _) hSS (a - 1) (b - 1) 0 0 g1 g2 rfl rfl rfl (ng _ rs h1) (ng _ rd h2) (ng _ rz h3) (by rw [oI_clamp rs, oI_clamp rz]; omega) (by rw [oI_clamp rd, oI_clamp rz]; omega) (fun _ _ => rfl) (Nat.le_trans (by omega) hk.2.2.2.2.2.2.2.2.2.1) (Nat.le_trans (nfw d h20) hk.2.2.2.2.2.2.2.2.2.2.1) hd (fun H1 locs1 P1 D1 S1 => ?_)
  have ent1 : (G.1.ac 0, M, .inl (va_cpy (fun j => oI (I a (j : Int))) (fun j => oI (I b (j : Int))) (oI sp).toNatClampNeg (oI dp).toNatClampNeg (oI z).toNatClampNeg)) = ((G.1.ac 0, M, .inl (fun j => oI (uA I b (fun j => if dp ≤ j ∧ j < dp + z then I a (sp + (j - dp)) else I b j) b (j : Int)))) : ClassId × vp_A) := by
    congr 2
    rw [oI_clamp rs, oI_clamp rd, oI_clamp rz, uA_eq]
    refine congrArg Sum.inl (funext fun k => ?_)
    unfold va_cpy
    by_cases hc : dp.toNat ≤ k ∧ k < dp.toNat + z.toNat
    · rw [if_pos hc, if_pos (by omega)]
      rw [show sp + ((k : Int) - dp) = ((sp.toNat + (k - dp.toNat) : Nat) : Int) by omega]
    · rw [if_neg hc, if_neg (by omega)]
  have hP1 : va_P G.1.D vwCl (wld G.1 n (uA I b (fun j => if dp ≤ j ∧ j < dp + z then I a (sp + (j - dp)) else I b j)) P) H1 := by
    rw [← wld_set hB.2.1 (Nat.lt_of_le_of_lt hR.2.2.1 (by decide)) (I := I) (P := P) (a := b) (fun x hx => ⟨uA_ne hx, rfl⟩), ent_i 0 (by decide) hB.1, ← ent1]
    exact P1
  refine kk p e R s m args below meth c H1 locs1 cells slots mc ms ls ⟨hk, hb, hL, ok_t (ok_t (ok_t (ok_t (ok_t hS)))), ⟨hP1, ?_, hR.2.2.1, bs_le hP1 (Nat.lt_of_le_of_lt hR.2.2.1 (by decide)) (Nat.le_trans hbs S1.1), fun q => absurd q (by rw [hnO]; exact Nat.lt_irrefl _)⟩, S1, hbs⟩
  refine hR.2.1.uA (fun j => ?_)
  split
  · exact (hR.2.1 a _).1 (LG_i (t := 0) (by decide) hA.1 _)
  · exact (hR.2.1 b _).1 (LG_i (t := 0) (by decide) hB.1 _)
end VM
