/-! ===== new objects, new arrays, constructors' calls ===== -/
section
variable {G : HX} {Y : MI} {d kc ks pc : Nat} {lv : LV} {st : List AV} {n : Nat} {I : Mem} {P : Ptr} {Q : QT}
theorem oiI : Cond.instanceMethod Lib.objectInit ∈ TW := tw1 31 (by decide +kernel) (by decide +kernel)
theorem oiC : Cond.code Lib.objectInit ⟨#[0xb1]⟩ 1 none ∈ TW := tw1 32 (by decide +kernel) (by decide +kernel)
theorem x_obj {idx a : Nat} (hd : decode Y.2.1 pc = .ok (.invokespecial idx, 3)) (hl : Cond.methodLink Y.1.cls idx Lib.objectInit ∈ TW) (ha : a ≠ 0) (hst : catA st ≤ 8) (h1 : 1 ≤ d) (k : V G Y d kc ks (pc + 3) lv st n I P Q) : V G Y d kc ks pc lv (.inr (.inl a) :: st) n I P Q := by
  intro p e R s m args below meth c H locs cells slots mc ms ls h
  have hk := h.1
  have e2 : conc G.1 (.inr (.inl a)) = .ref (adr G.1 a) := rvl_pos ha
  rw [List.map_cons, e2]
  have hts := hk.2.2.2.2.1
  have hd1 := hk.2.2.2.2.2.2.2.2.2.1
  have hd2 := hk.2.2.2.2.2.2.2.2.2.2.1
  have hsum := catA_sum (G := G.1) st
  refine W.objInit (g := F0 m pc ls (.ref (adr G.1 a) :: st.map (conc G.1))) hk.1 hk.2.1 hk.2.2.2.2.2.1 (hts _ hl) (hts _ oiI) (hts _ oiC) rfl (h.2.2.1.sz.trans hk.2.2.2.1.symm) rfl hd (by omega) (by rw [hsum]; show 2 * 0 + catA st + 12 ≤ R.locals; omega) ?_
  exact k p e R s m args below meth c H locs cells slots mc ms ls (h.st1 (ok_t h.2.2.2.1))
def okF (ci : Nat) : Bool := (List.range (NFl ci)).all (fun k => match fTy ci k with | .float => false | .double => false | _ => true)
theorem okF_at {ci j : Nat} (h : okF ci = true) (hj : j < NFl ci) {I : Mem} {P : Ptr} {a : Nat} {G : CX} (hI : ∀ k, I a k = 0) (hP : ∀ k, P a k = 0) : defaultValue (fTy ci j) = fvl G (fTy ci j) I P a j := by
  have h1 := List.all_eq_true.mp h j (List.mem_range.mpr hj)
  unfold fvl
  rw [hI, hP]
  revert h1
  cases fTy ci j with
  | float => intro h1; cases h1
  | double => intro h1; cases h1
  | _ => intro _; rfl
theorem x_new {idx ci a : Nat} (hd : decode Y.2.1 pc = .ok (.new idx, 3)) (hcl : Cond.classLink Y.1.cls idx (cT ci).1 ∈ TW) (his : Cond.instantiable (cT ci).1 (NFl ci) ∈ TW) (hin : Cond.initialized (cT ci).1 ∈ TW) (hc : CF ci) (hf : okF ci = true) (hkd : KD (n + 1) = (ci, NFl ci)) (ha : a = n + 1) (hn : n < NO) (hI : ∀ k, I (n + 1) k = 0) (hP : ∀ k, P (n + 1) k = 0)
    (kk : V G Y d kc ks (pc + 3) lv (.inr (.inl a) :: st) (n + 1) I P Q) : V G Y d (1 + kc) (NFl ci + ks) pc lv st n I P Q := by
  subst ha
  intro p e R s m args below meth c H locs cells slots mc ms ls h
  obtain ⟨hk, hb, hL, hS, hR, hSS, hbs⟩ := id h
  have hts := hk.2.2.2.2.1
  have hSE := hk.2.2.2.2.2.2.2.2.2.2.2
  have hKn := hSE.2.1.1 ci _ hc.at
  have hent : ent G.1 I P (n + 1) = .inr (ci, (List.range (NFl ci)).map (fun k => fvl G.1 (fTy ci k) I P (n + 1) k)) := by
    unfold ent
    rw [hkd]
    exact if_pos hc.lt
  have hsz := hR.2.2.2.2 hn
  refine W.newcK (g := F0 m pc ls (st.map (conc G.1))) hk.1 hk.2.1 hk.2.2.2.2.2.1 (hts _ hcl) (hts _ his) (hts _ hin) rfl hd (by omega) (by omega) hKn.2.1 rfl (fun H1 kC hkC e1 z1 o1 => ?_)
  have hfs : ∀ j, j < NFl ci → defaultValue (fTy ci j) = vp_V ((List.range (NFl ci)).map (fun k => fvl G.1 (fTy ci k) I P (n + 1) k)) j := fun j hj => by
    rw [okF_at (G := G.1) hf hj hI hP]
    unfold vp_V
    rw [List.getD_eq_getElem?_getD, List.getElem?_map, List.getElem?_range hj]
    rfl
  have hP1 : va_P G.1.D vwCl (wld G.1 (n + 1) I P) H1 := by
    rw [wld_push, hent]
    refine (hR.1.kept (fun k x hx => o1 x.1 ((hR.1 k x hx).lt))).app (fun k x hx => ?_)
    have hz : k < 1 := (List.getElem?_eq_some_iff.mp hx).1
    rw [show k = 0 by omega] at hx
    cases hx
    rw [← hsz]
    exact ⟨_, hc.at, (u_born (fTy ci) hts hc.2.1 hKn hkC e1 hc.2.2.1).to hfs⟩
  have e2 : conc G.1 (.inr (.inl (n + 1))) = .ref H.size := by
    rw [hsz]
    exact (rvl_pos (by omega)).trans (by rw [adr_ob (by unfold NO at hn; omega), Nat.add_sub_cancel])
  have h2 := kk p e R s m args below meth c H1 locs (cells + 1) (slots + NFl ci) mc ms ls ⟨hk, ⟨by omega, by omega, hb.2.2⟩, hL, ok_c trivial hS, ⟨hP1, hR.2.1, by omega, by omega, fun _ => by omega⟩, ⟨Nat.le_trans hSS.1 (by omega), fun x h1 h2 => (o1 x (Nat.lt_of_lt_of_le h1 hSS.1)).trans (hSS.2.1 x h1 h2), hSS.2.2⟩, hbs⟩
  rw [List.map_cons, e2] at h2
  exact h2
theorem x_newa {t N : Nat} {x : Int} {ty : FieldType} {at' : ArrayType} {a : Nat} (hd : decode Y.2.1 pc = .ok (.newarray at', 2)) (hty : newarray.typeOf at' = ty) (ht : t = 0 ∨ t = 2 ∨ t = 3) (htt : (tys G.1)[t]? = some (G.1.ac t, ty)) (hdv : defaultValue ty = .int 0) (hra : ∀ s c, va_RA s c ty → s.vm.findClass ("[" ++ ty.toString) = some c) (hw : Cond.arrayClass ty ∈ TW) (hkd : KD (n + 1) = (20 + t, N)) (hx : x = (N : Int)) (hN : N ≤ 48000) (hb4 : N * componentBytes ty ≤ 536870912) (ha : a = n + 1) (hn : n < NO) (hI : ∀ k, I (n + 1) k = 0)
    (kk : V G Y d kc ks (pc + 2) lv (.inr (.inl a) :: st) (n + 1) I P Q) : V G Y d (1 + kc) (N + ks) pc lv (.inl x :: st) n I P Q := by
  subst ha
  subst hx
  subst hty
  intro p e R s m args below meth c H locs cells slots mc ms ls h
  obtain ⟨hk, hb, hL, hS, hR, hSS, hbs⟩ := id h
  have hts := hk.2.2.2.2.1
  have hSE := hk.2.2.2.2.2.2.2.2.2.2.2
  have hsz := hR.2.2.2.2 hn
  have rN : rng (N : Int) := ⟨by omega, by omega⟩
  have e1' : conc G.1 (.inl (N : Int)) = .int (oI (N : Int)) := rfl
  rw [List.map_cons, e1']
  refine va_newaK (g := F0 m pc ls (.int (oI (N : Int)) :: st.map (conc G.1))) hk.1 hk.2.1 (hts _ hw) rfl hd rfl (by rw [show (0 : Int32) = oI 0 from rfl, oI_lt rN rng_0]; omega) (by rw [oI_clamp rN]; exact Int.toNat_natCast N) hb4 (by omega) (by omega) rfl (fun H1 cA c1 z1 o1 hAr hNm => ?_)
  have hcA : cA = G.1.ac t := Option.some.inj (hNm.symm.trans (hra _ _ (hSE.2.1.2 t _ htt).2))
  subst hcA
  have hP1 : va_P G.1.D vwCl (wld G.1 (n + 1) I P) H1 := by
    rw [wld_push, ent_i t ht hkd]
    refine (hR.1.kept (fun k x hx => o1 x.1 ((hR.1 k x hx).lt))).app (fun k x hx => ?_)
    have hz : k < 1 := (List.getElem?_eq_some_iff.mp hx).1
    rw [show k = 0 by omega] at hx
    cases hx
    rw [← hsz]
    show H1[H.size]? = some (vp_cell (G.1.ac t) (N, .inl _))
    rw [vp_cell_i, c1, hdv]
    refine congrArg some (congrArg (arrV (G.1.ac t) N) (funext fun j => ?_))
    show Value.int 0 = Value.int (oI (I (n + 1) (j : Int)))
    rw [hI]
    rfl
  have e2 : conc G.1 (.inr (.inl (n + 1))) = .ref H.size := by
    rw [hsz]
    exact (rvl_pos (by omega)).trans (by rw [adr_ob (by unfold NO at hn; omega), Nat.add_sub_cancel])
  have h2 := kk p e R s m args below meth c H1 locs (cells + 1) (slots + N) mc ms ls ⟨hk, ⟨by omega, by omega, hb.2.2⟩, hL, ok_c trivial (ok_t hS), ⟨hP1, hR.2.1, by omega, by omega, fun _ => by omega⟩, ⟨Nat.le_trans hSS.1 (by omega), fun x h1 h2 => (o1 x (Nat.lt_of_lt_of_le h1 hSS.1)).trans (hSS.2.1 x h1 h2), hSS.2.2⟩, hbs⟩
  rw [List.map_cons, e2] at h2
  exact h2
theorem acI : Cond.arrayClass .int ∈ TW := tw1 92 rfl (by decide +kernel)
theorem acB : Cond.arrayClass .byte ∈ TW := tw1 91 rfl (by decide +kernel)
theorem acZ : Cond.arrayClass .boolean ∈ TW := tw1 93 rfl (by decide +kernel)
theorem acJ : Cond.arrayClass .long ∈ TW := tw9 101 rfl (by decide +kernel)
theorem x_newI {N : Nat} {x : Int} {a : Nat} (hd : decode Y.2.1 pc = .ok (.newarray .int, 2)) (hkd : KD (n + 1) = (20, N)) (hx : x = (N : Int)) (hN : N ≤ 48000) (ha : a = n + 1) (hn : n < NO) (hI : ∀ k, I (n + 1) k = 0) (kk : V G Y d kc ks (pc + 2) lv (.inr (.inl a) :: st) (n + 1) I P Q) : V G Y d (1 + kc) (N + ks) pc lv (.inl x :: st) n I P Q :=
  x_newa (t := 0) (ty := .int) hd rfl (Or.inl rfl) rfl rfl (fun s c h => h) acI hkd hx hN (by show N * 4 ≤ 536870912; omega) ha hn hI kk
theorem x_newB {N : Nat} {x : Int} {a : Nat} (hd : decode Y.2.1 pc = .ok (.newarray .byte, 2)) (hkd : KD (n + 1) = (22, N)) (hx : x = (N : Int)) (hN : N ≤ 48000) (ha : a = n + 1) (hn : n < NO) (hI : ∀ k, I (n + 1) k = 0) (kk : V G Y d kc ks (pc + 2) lv (.inr (.inl a) :: st) (n + 1) I P Q) : V G Y d (1 + kc) (N + ks) pc lv (.inl x :: st) n I P Q :=
  x_newa (t := 2) (ty := .byte) hd rfl (Or.inr (Or.inl rfl)) rfl rfl (fun s c h => h) acB hkd hx hN (by show N * 1 ≤ 536870912; omega) ha hn hI kk
theorem x_newZ {N : Nat} {x : Int} {a : Nat} (hd : decode Y.2.1 pc = .ok (.newarray .boolean, 2)) (hkd : KD (n + 1) = (23, N)) (hx : x = (N : Int)) (hN : N ≤ 48000) (ha : a = n + 1) (hn : n < NO) (hI : ∀ k, I (n + 1) k = 0) (kk : V G Y d kc ks (pc + 2) lv (.inr (.inl a) :: st) (n + 1) I P Q) : V G Y d (1 + kc) (N + ks) pc lv (.inl x :: st) n I P Q :=
  x_newa (t := 3) (ty := .boolean) hd rfl (Or.inr (Or.inr rfl)) rfl rfl (fun s c h => h) acZ hkd hx hN (by show N * 1 ≤ 536870912; omega) ha hn hI kk
end
