/-! ===== the array of arrays ===== -/
theorem ouC (c : ClassId) (N h0 : Nat) : ∀ i : Nat, Jvm.Free.Multi.outerC c N h0 i = arrV c N (fun j => va_rf (if j < i then some (h0 + 1 + j) else none))
  | 0 => by
    show ({ cls := c, slots := Array.replicate N .null, vm := .none } : Cell) = _
    rw [arrV_new]
    exact congrArg (arrV c N) (funext fun j => by simp [va_rf])
  | i + 1 => by
    show (Jvm.Free.Multi.outerC c N h0 i).setSlot i (.ref (h0 + 1 + i)) = _
    rw [ouC c N h0 i, arrV_store]
    refine congrArg (arrV c N) (funext fun j => ?_)
    rcases Nat.lt_trichotomy j i with h | rfl | h
    · have e : j ≠ i := by omega
      simp [updV, e, h, Nat.lt_succ_of_lt h]
    · simp [updV, va_rf]
    · have e : j ≠ i := by omega
      have e2 : ¬ j < i := by omega
      have e3 : ¬ j < i + 1 := by omega
      simp [updV, e, e2, e3]
def uR (P : Ptr) (a N : Nat) : Ptr := fun b => if b = a then fun k => if 0 ≤ k ∧ k < (N : Int) then a + 1 + k.toNat else 0 else P b
theorem uR_ne {P : Ptr} {a N b : Nat} (h : b ≠ a) : uR P a N b = P b := if_neg h
theorem uR_eq {P : Ptr} {a N : Nat} (k : Nat) : uR P a N a (k : Int) = if k < N then a + 1 + k else 0 := by
  show (if a = a then fun k : Int => if 0 ≤ k ∧ k < (N : Int) then a + 1 + k.toNat else 0 else P a) (k : Int) = _
  rw [if_pos rfl]
  by_cases h : k < N
  · rw [if_pos h, if_pos ⟨by omega, by omega⟩, Int.toNat_natCast]
  · rw [if_neg h, if_neg (by omega)]
section
variable {G : HX} {Y : MI} {d kc ks pc : Nat} {lv : LV} {st : List AV} {n : Nat} {I : Mem} {P : Ptr} {Q : QT}
theorem wld_eq {G : CX} {n : Nat} {I : Mem} {P P' : Ptr} (h : ∀ a, 1 ≤ a → a ≤ n → P' a = P a) : wld G n I P' = wld G n I P := by
  unfold wld
  refine List.map_congr_left (fun j hj => ?_)
  have := List.mem_range.mp hj
  rw [ent_congr rfl (h (j + 1) (by omega) (by omega))]
theorem x_mna {idx a N M : Nat} {x y : Int} (hd : decode Y.2.1 pc = .ok (.multianewarray idx 2, 4)) (hcl : Cond.classLink Y.1.cls idx "[[I" ∈ TW) (hkd : KD (n + 1) = (24, N)) (hkr : ∀ i, i < N → KD (n + 1 + i + 1) = (20, M)) (hx : x = (N : Int)) (hy : y = (M : Int)) (hN : N ≤ 100) (hM : M ≤ 100) (ha : a = n + 1) (hn : n + 1 + N ≤ NO) (hI : ∀ b, n < b → ∀ k, I b k = 0)
    (kk : V G Y d kc ks (pc + 4) lv (.inr (.inl a) :: st) (n + 1 + N) I (uR P (n + 1) N) Q) : V G Y d (1 + N + kc) (N + N * M + ks) pc lv (.inl y :: .inl x :: st) n I P Q := by
  subst ha
  subst hx
  subst hy
  intro p e R s m args below meth c H locs cells slots mc ms ls h
  obtain ⟨hk, hb, hL, hS, hR, hSS, hbs⟩ := id h
  have hts := hk.2.2.2.2.1
  have hSE := hk.2.2.2.2.2.2.2.2.2.2.2
  have hsz := hR.2.2.2.2 (by omega)
  have rN : rng (N : Int) := ⟨by omega, by omega⟩
  have rM : rng (M : Int) := ⟨by omega, by omega⟩
  have cN : (oI (N : Int)).toNatClampNeg = N := by rw [oI_clamp rN]; exact Int.toNat_natCast N
  have cM : (oI (M : Int)).toNatClampNeg = M := by rw [oI_clamp rM]; exact Int.toNat_natCast M
  have e1' : (.inl (M : Int) :: .inl (N : Int) :: st : List AV).map (conc G.1) = .int (oI (M : Int)) :: .int (oI (N : Int)) :: st.map (conc G.1) := rfl
  rw [e1']
  intro T hT Xs
  obtain ⟨vm₁, cA, comp, -, fA, fC, hO, -, X', step⟩ := Xs.multianewarray2F (ty := .int) (index := idx) (own := Y.1.cls) hk.1 hk.2.2.2.2.2.1 (hts _ (show Cond.classLink Y.1.cls idx ("[" ++ (FieldType.array FieldType.int).toString) ∈ TW from hcl)) (over_vm rfl (hSE.2.2.1 _ (tv2 136 (by decide +kernel)) rfl)) (hts _ acI) (g := F0 m pc ls (.int (oI (M : Int)) :: .int (oI (N : Int)) :: st.map (conc G.1))) rfl (by rw [hk.2.1]; exact hd) rfl
    (by rw [show (0 : Int32) = oI 0 from rfl, oI_lt rN rng_0]; omega) (by rw [show (0 : Int32) = oI 0 from rfl, oI_lt rM rng_0]; omega) (by rw [cN]; omega) (by rw [cM]; show M * 4 ≤ 536870912; omega) (by rw [cM]; omega) rfl rfl (by rw [cN]; omega) (by rw [cN, cM]; omega)
  rw [cN, cM] at X' step
  have hcA : cA = G.1.ac 4 := Option.some.inj (fA.symm.trans (show s.vm.findClass ("[" ++ (FieldType.array FieldType.int).toString) = some (G.1.ac 4) from (hSE.2.1.2 4 _ rfl).2))
  have hcC : comp = G.1.ac 0 := Option.some.inj (fC.symm.trans (show s.vm.findClass ("[" ++ FieldType.int.toString) = some (G.1.ac 0) from (hSE.2.1.2 0 _ rfl).2))
  subst hcA
  subst hcC
  generalize hF : Jvm.Free.Multi.fill (T.setVm vm₁) (G.1.ac 4) (G.1.ac 0) N M (defaultValue .int) N = F at X' step
  have hTh : (T.setVm vm₁).heap = H := hT
  obtain ⟨f1, f2, -, -⟩ := Jvm.Free.Multi.fill_facts (T.setVm vm₁) (G.1.ac 4) (G.1.ac 0) N M (defaultValue .int) N
  rw [hF, hTh] at f1 f2
  have hold : ∀ x : Nat, x < H.size → F.heap[x]? = H[x]? := fun x hx => by
    have := Jvm.Free.Multi.fill_old (T.setVm vm₁) (G.1.ac 4) (G.1.ac 0) N M (defaultValue .int) (a := x) (by rw [hTh]; exact hx) N
    rw [hF, hTh] at this
    exact this
  have hrow : ∀ j : Nat, j < N → F.heap[H.size + 1 + j]? = some (vp_cell (G.1.ac 0) (M, .inl (fun j => oI 0))) := fun j hj => by
    have := Jvm.Free.Multi.fill_inner (T.setVm vm₁) (G.1.ac 4) (G.1.ac 0) N M (defaultValue .int) N j hj
    rw [hF, hTh] at this
    rw [this, vp_cell_i]
    exact congrArg some (show ({ cls := G.1.ac 0, slots := Array.replicate M (.int 0), vm := .none } : Cell) = _ by rw [arrV_new]; rfl)
  have hNO : NO < 1000 := by decide
  have hP0 : va_P G.1.D vwCl (wld G.1 n I (uR P (n + 1) N)) F.heap := by
    rw [wld_eq (fun b b1 b2 => uR_ne (by omega))]
    exact hR.1.kept (fun k x hx => hold x.1 ((hR.1 k x hx).lt))
  have hP1 : ∀ i, i ≤ N → va_P G.1.D vwCl (wld G.1 (n + 1 + i) I (uR P (n + 1) N)) F.heap := by
    intro i
    induction i with
    | zero =>
      intro _
      rw [Nat.add_zero, wld_push]
      refine hP0.app (fun k x hx => ?_)
      have hz : k < 1 := (List.getElem?_eq_some_iff.mp hx).1
      rw [show k = 0 by omega] at hx
      cases hx
      rw [← hsz, ent_q hkd]
      show F.heap[H.size]? = some (vp_cell (G.1.ac 4) (N, .inr (.inr (.inr (.inr _)))))
      rw [vp_cell_q, f2, ouC]
      refine congrArg some (congrArg (arrV (G.1.ac 4) N) (funext fun j => congrArg va_rf ?_))
      rw [uR_eq]
      by_cases hj : j < N
      · rw [if_pos hj, if_pos hj, if_neg (by omega), adr_ob (by omega), hsz]
        exact congrArg some (by omega)
      · rw [if_neg hj, if_neg hj, if_pos rfl]
    | succ i ih =>
      intro hi
      show va_P G.1.D vwCl (wld G.1 (n + 1 + i + 1) I (uR P (n + 1) N)) F.heap
      rw [wld_push]
      refine (ih (by omega)).app (fun k x hx => ?_)
      have hz : k < 1 := (List.getElem?_eq_some_iff.mp hx).1
      rw [show k = 0 by omega] at hx
      cases hx
      rw [ent_i 0 (Or.inl rfl) (hkr i (by omega)), show G.1.bs + (n + 1 + i) = H.size + 1 + i by omega]
      show F.heap[H.size + 1 + i]? = some (vp_cell (G.1.ac 0) (M, .inl _))
      rw [hrow i (by omega)]
      refine congrArg some (congrArg (fun f => vp_cell (G.1.ac 0) (M, .inl f)) (funext fun j => ?_))
      rw [hI _ (by omega)]
  have e2 : conc G.1 (.inr (.inl (n + 1))) = .ref H.size := by
    rw [hsz]
    exact (rvl_pos (by omega)).trans (by rw [adr_ob (by omega), Nat.add_sub_cancel])
  have h2 := kk p e R s m args below meth c F.heap locs (cells + 1 + N) (slots + N + N * M) mc ms ls ⟨hk, ⟨by omega, by omega, hb.2.2⟩, hL, ok_c trivial (ok_t (ok_t hS)), ⟨hP1 N (Nat.le_refl _), hR.2.1, hn, by omega, fun _ => by omega⟩, ⟨by have := hSS.1; omega, fun x h1 h2 => (hold x (Nat.lt_of_lt_of_le h1 hSS.1)).trans (hSS.2.1 x h1 h2), hSS.2.2⟩, hbs⟩
  rw [List.map_cons, e2] at h2
  obtain ⟨t, a1, b1⟩ := h2 F rfl X'
  refine ⟨t, step t ?_, b1⟩
  have e : T.heap.size = H.size := by rw [hT]
  rw [e]
  exact a1
end
