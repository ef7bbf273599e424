/-! ===== the world of all objects, what stays of the surroundings, the judgement V ===== -/
def fvl (G : CX) (ty : FieldType) (I : Mem) (P : Ptr) (a k : Nat) : Value := match ty with
  | .long => .long (oL (I a (k : Int)))
  | .object _ => rvl G (P a (k : Int))
  | .array _ => rvl G (P a (k : Int))
  | _ => .int (oI (I a (k : Int)))
def ent (G : CX) (I : Mem) (P : Ptr) (a : Nat) : va_E :=
  if (KD a).1 < 13 then .inr ((KD a).1, (List.range (NFl (KD a).1)).map (fun k => fvl G (fTy (KD a).1 k) I P a k))
  else if (KD a).1 = 21 then .inl (G.ac 1, (KD a).2, .inr (.inl (fun j => oL (I a (j : Int)))))
  else if (KD a).1 = 24 then .inl (G.ac 4, (KD a).2, .inr (.inr (.inr (.inr (fun j => if P a (j : Int) = 0 then none else some (adr G (P a (j : Int))))))))
  else .inl (G.ac ((KD a).1 - 20), (KD a).2, .inl (fun j => oI (I a (j : Int))))
theorem ent_congr {G : CX} {I I' : Mem} {P P' : Ptr} {a : Nat} (h1 : I' a = I a) (h2 : P' a = P a) : ent G I' P' a = ent G I P a := by
  have h3 : ∀ ty k, fvl G ty I' P' a k = fvl G ty I P a k := fun ty k => by unfold fvl; rw [h1, h2]
  unfold ent
  simp only [h1, h2, h3]
def wld (G : CX) (n : Nat) (I : Mem) (P : Ptr) : va_W := (List.range n).map (fun j => (G.bs + j, ent G I P (j + 1)))
abbrev tys (G : CX) : List (ClassId × FieldType) := [(G.ac 0, .int), (G.ac 1, .long), (G.ac 2, .byte), (G.ac 3, .boolean), (G.ac 4, .array .int)]
abbrev AA (G : CX) : Nat → Prop := fun q => G.bs ≤ q
theorem wld_at {G : CX} {n : Nat} {I : Mem} {P : Ptr} {a : Nat} (h1 : 1 ≤ a) (h2 : a ≤ n) (h3 : n < 1000) : (wld G n I P)[a - 1]? = some (adr G a, ent G I P a) := by
  unfold wld
  rw [List.getElem?_map, List.getElem?_range (by omega), adr_ob (by omega)]
  show some (_, _) = _
  rw [show a - 1 + 1 = a by omega]
theorem wld_set {G : CX} {n : Nat} {I I' : Mem} {P P' : Ptr} {a : Nat} (h1 : 1 ≤ a) (h3 : n < 1000) (h : ∀ b, b ≠ a → I' b = I b ∧ P' b = P b) : (wld G n I P).set (a - 1) (adr G a, ent G I' P' a) = wld G n I' P' := by
  apply List.ext_getElem?
  intro j
  by_cases e : j = a - 1
  · subst e
    by_cases hl : a - 1 < n
    · rw [List.getElem?_set_self (by simp [wld]; exact hl), wld_at h1 (by omega) h3]
    · rw [List.getElem?_eq_none (by simp [wld]; omega), List.getElem?_eq_none (by simp [wld]; omega)]
  · rw [List.getElem?_set_ne (Ne.symm e)]
    unfold wld
    rw [List.getElem?_map, List.getElem?_map]
    by_cases hl : j < n
    · rw [List.getElem?_range hl]
      obtain ⟨e1, e2⟩ := h (j + 1) (by omega)
      show some (_, _) = some (_, _)
      rw [ent_congr e1 e2]
    · rw [List.getElem?_eq_none (by simp; omega)]
      rfl
theorem wld_D (G : CX) (n : Nat) (I : Mem) (P : Ptr) : va_D (AA G) (wld G n I P) := by
  have key : ∀ (i : Nat) (p : Nat × va_E), (wld G n I P)[i]? = some p → p.1 = G.bs + i := fun i p h => by
    unfold wld at h
    rw [List.getElem?_map] at h
    by_cases hl : i < n
    · rw [List.getElem?_range hl] at h
      cases h
      rfl
    · rw [List.getElem?_eq_none (by simp; omega)] at h
      cases h
  refine ⟨fun i j p q hi hj he => ?_, fun k q hk => ?_⟩
  · have := key i p hi
    have := key j q hj
    omega
  · have := key k q hk
    show G.bs ≤ q.1
    omega
theorem wld_push (G : CX) (n : Nat) (I : Mem) (P : Ptr) : wld G (n + 1) I P = wld G n I P ++ [(G.bs + n, ent G I P (n + 1))] := by
  unfold wld
  rw [List.range_succ, List.map_append]
  rfl
-- memory's changes
def u1 {α : Type} (f : Int → α) (i : Int) (v : α) : Int → α := fun j => if j = i then v else f j
def uI (I : Mem) (a : Nat) (i : Int) (v : Int) : Mem := fun b => if b = a then u1 (I a) i v else I b
def uP (P : Ptr) (a : Nat) (i : Int) (v : Nat) : Ptr := fun b => if b = a then u1 (P a) i v else P b
def uA (I : Mem) (a : Nat) (f : Int → Int) : Mem := fun b => if b = a then f else I b
theorem u1_eq {α : Type} {f : Int → α} {i : Int} {v : α} : u1 f i v i = v := if_pos rfl
theorem u1_ne {α : Type} {f : Int → α} {i j : Int} {v : α} (h : j ≠ i) : u1 f i v j = f j := if_neg h
theorem uI_eq {I : Mem} {a : Nat} {i v : Int} : uI I a i v a = u1 (I a) i v := if_pos rfl
theorem uI_ne {I : Mem} {a b : Nat} {i v : Int} (h : b ≠ a) : uI I a i v b = I b := if_neg h
theorem uP_eq {P : Ptr} {a : Nat} {i : Int} {v : Nat} : uP P a i v a = u1 (P a) i v := if_pos rfl
theorem uP_ne {P : Ptr} {a b : Nat} {i : Int} {v : Nat} (h : b ≠ a) : uP P a i v b = P b := if_neg h
theorem uA_eq {I : Mem} {a : Nat} {f : Int → Int} : uA I a f a = f := if_pos rfl
theorem uA_ne {I : Mem} {a b : Nat} {f : Int → Int} (h : b ≠ a) : uA I a f b = I b := if_neg h
/-- the slots of long numbers -/
def LG (a : Nat) (i : Int) : Prop := (KD a).1 = 21 ∨ ((KD a).1 < 13 ∧ fTy (KD a).1 i.toNat = .long)
def RG (I : Mem) : Prop := ∀ a i, (¬ LG a i → rng (I a i)) ∧ rng64 (I a i)
theorem RG.uI {I : Mem} {a : Nat} {i v : Int} (h : RG I) (hv : rng v) : RG (uI I a i v) := fun b j => by
  by_cases e : b = a
  · subst e
    rw [uI_eq]
    by_cases e2 : j = i
    · subst e2
      rw [u1_eq]
      exact ⟨fun _ => hv, rng_64 hv⟩
    · rw [u1_ne e2]
      exact h b j
  · rw [uI_ne e]
    exact h b j
theorem rgUIL {I : Mem} {a : Nat} {i v : Int} (h : RG I) (hl : LG a i) (hv : rng64 v) : RG (uI I a i v) := fun b j => by
  by_cases e : b = a
  · subst e
    rw [uI_eq]
    by_cases e2 : j = i
    · subst e2
      rw [u1_eq]
      exact ⟨fun q => absurd hl q, hv⟩
    · rw [u1_ne e2]
      exact h b j
  · rw [uI_ne e]
    exact h b j
theorem RG.uA {I : Mem} {a : Nat} {f : Int → Int} (h : RG I) (hf : ∀ j, rng (f j)) : RG (uA I a f) := fun b j => by
  by_cases e : b = a
  · subst e
    rw [uA_eq]
    exact ⟨fun _ => hf j, rng_64 (hf j)⟩
  · rw [uA_ne e]
    exact h b j
def Rp (G : CX) (n : Nat) (I : Mem) (P : Ptr) (H : Heap) : Prop := va_P G.D vwCl (wld G n I P) H ∧ RG I ∧ n ≤ NO ∧ G.bs + n ≤ H.size ∧ (n < NO → H.size = G.bs + n)
-- the surroundings: what the class tables and old cells say, all through a run
abbrev sgN : String := "TwoForOne"
def isNestW : Cond → Bool
  | .methodLinkNest .. => true
  | .arrayOver _ => true
  | _ => false
def MSG : List (Nat × String) := [(113, "the tape has not so many bytes"), (171, "no such count"), (178, "no such person or sort"), (194, "no such person"), (203, "no such sort"), (208, "no such meeting"), (210, "a meeting has a first and a second one"), (224, "no such trade, or nothing of it"), (230, "the trade is not lawful"), (239, "no such trade"), (241, "no such person or tie"), (264, "no such step, or nothing of it"), (302, "no bag is kept, or no such sort"), (320, "no such two people"), (325, "0 to 60 days go by"), (330, "nothing such of the end"), (350, "no such meeting of an order"), (363, "no such person, or nothing of it"), (365, "1 to 10 days go by with him"), (371, "a share has a least worth and one of all"), (394, "no share is kept, or no such person or sort"), (399, "no such law, or nothing of it"), (404, "0 to 400 meetings of two people")]
def WRD : List String := ["sorts", "person", "has", "worth", "pair", "falls", "law", "spoon", "burns", "tie", "meet"]
def WRL : List Nat := [5, 6, 3, 5, 4, 5, 3, 5, 5, 3, 4]
def WRB : List (List Int32) := [[115, 111, 114, 116, 115], [112, 101, 114, 115, 111, 110], [104, 97, 115], [119, 111, 114, 116, 104], [112, 97, 105, 114], [102, 97, 108, 108, 115], [108, 97, 119], [115, 112, 111, 111, 110], [98, 117, 114, 110, 115], [116, 105, 101], [109, 101, 101, 116]]
/-- how long the script is, what it holds -/
abbrev SC : Type := Nat × (Nat → Int32)
def SE (G : CX) (X : SC) (U : State) (H : Heap) : Prop :=
  G.l.stackTraces = false ∧ va_K G.D vwCl (tys G) U ∧ (∀ w ∈ lw_tbl, isNestW w = true → va_Nw w U) ∧ vx_Zq Bundle.tN "UNASSIGNED_STACK" Bundle.steD (AA G) U H ∧ vx_Zq Bundle.tN "SUPPRESSED_SENTINEL" Bundle.listD (AA G) U H ∧
  (∀ q ∈ MSG, ∃ sa, vk_R RX11 q.1 q.2 sa U) ∧ (∀ j, j < 11 → vk_R RX9 (64 + 2 * j) (WRD.getD j "") (G.sp (1 + j)) U) ∧ vk_S 11 WRL WRB (fun j => G.sp (1 + j)) (fun j => G.sp (21 + j)) (AA G) U H ∧
  va_Z "java/lang/String" "COMPACT_STRINGS" "Z" (.int 1) (AA G) U H ∧ va_Z "jdk/internal/util/Preconditions" "SIOOBE_FORMATTER" "Ljava/util/function/BiFunction;" (rvl G (G.sp 41)) (AA G) U H ∧
  va_Nc "java/lang/IllegalArgumentException" "java/util/NoSuchElementException" U ∧ (va_X (G.sp 0) X.1 X.2 U H ∧ G.sp 0 < G.bs)
theorem over_vm {ty : FieldType} {A A' : Array Value} {u U : State} (h : u.vm = U.vm) (hb : (Cond.arrayOver ty).before A u = true) : (Cond.arrayOver ty).before A' U = true := by
  simp only [Cond.before, Cond.holds, Cond.value] at hb ⊢
  rw [← h]
  exact hb
theorem nw_over {ty : FieldType} {s U : State} (hv : s.vm.Alike U.vm) (h : va_Nw (.arrayOver ty) s) : va_Nw (.arrayOver ty) U :=
  over_vm (rfl : (s.setVm U.vm).vm = U.vm) ((Cond.arrayOver_setVmC hv ty).trans h)
theorem SE.go {G : CX} {X : SC} {s U : State} {H H1 : Heap} (h : SE G X s H) (hW : s.WarmedH U.vm) (hq : ∀ a : Nat, a < H.size → ¬ AA G a → H1[a]? = H[a]?) : SE G X U H1 := by
  obtain ⟨h0, h1, h2, h3, h4, h5, h6, h7, h8, h9, h10, h11, h12⟩ := h
  have hv := hW.alike
  refine ⟨h0, va_K.moved hv h1, fun w hw hn => ?_, (h3.moved hv).kept hq, (h4.moved hv).kept hq, fun q hm => ?_, fun j hj => (h6 j hj).warm hW, (h7.moved hv).kept hq, (h8.moved hv).kept hq, (h9.moved hv).kept hq, va_Nc.moved hv h10, (h11.moved hv).kept (hq _ ?_ ?_), h12⟩
  · have hx := h2 w hw hn
    cases w <;> first | (cases hn; done) | exact va_Nw.warmM hW hx | exact nw_over hv hx
  · obtain ⟨sa, hs⟩ := h5 q hm
    exact ⟨sa, hs.warm hW⟩
  · obtain ⟨scr, e1, -⟩ := h11
    exact (Array.getElem?_eq_some_iff.mp e1).1
  · exact Nat.not_le.mpr h12
theorem SE.same {G : CX} {X : SC} {s U : State} {H : Heap} (h : SE G X s H) (hv : U.vm = s.vm) : SE G X U H := by
  obtain ⟨h0, h1, h2, h3, h4, h5, h6, h7, h8, h9, h10, h11, h12⟩ := h
  have hA : s.vm.Alike U.vm := by rw [hv]; exact Vm.Alike.refl _
  exact ⟨h0, va_K.moved hA h1, fun w hw hn => (by have hx := h2 w hw hn; cases w <;> first | (cases hn; done) | exact va_Nw.same rfl hv.symm hx | exact over_vm hv.symm hx), h3.moved hA, h4.moved hA, fun q hm => (h5 q hm).elim fun sa hs => ⟨sa, hs.same hv⟩, fun j hj => (h6 j hj).same hv, h7.moved hA, h8.moved hA, h9.moved hA, va_Nc.moved hA h10, h11.moved hA, h12⟩
/-- outcome, objects there, memory, pointers -/
abbrev QT : Type := (Option AV ⊕ String) → Nat → Mem → Ptr → Prop
abbrev HX : Type := CX × SC
def QR (G : HX) (Q : QT) : Array Value → State → Outcome → State → Prop := fun _ st o t => ∃ (r : Option AV) (n : Nat) (I : Mem) (P : Ptr), o = .returned (r.map (conc G.1)) ∧ (∀ v, r = some v → avOK v) ∧ Q (.inl r) n I P ∧ Rp G.1 n I P t.heap ∧ va_F (AA G.1) st t
def XR (G : HX) (Q : QT) : String → State → State → Prop := fun E st t => ∃ (n : Nat) (I : Mem) (P : Ptr), Q (.inr E) n I P ∧ Rp G.1 n I P t.heap ∧ va_F (AA G.1) st t
def Ev (G : HX) (Y : MI) (d : Nat) (p : Program) (R : Room) (s : State) (m : MethodId) (args : Array Value) (meth : Method) (c : Code) : Prop :=
  p.tables.exec = Jvm.exec ∧ c.code = Y.2.1 ∧ meth.sig.returnType = Y.2.2.2.1 ∧ c.maxLocals = Y.2.2.1 ∧ (∀ w ∈ TW, w.before args s = true) ∧ s.vm.findClass Y.1.cls = some m.cls ∧ meth.locks = false ∧ c.exceptionTable.toList = tableOf Y.2.2.2.2 ∧ meth.name = Y.1.name ∧ d ≤ R.frames ∧ 80 * d ≤ R.locals ∧ SE G.1 G.2 s s.heap
def VH (G : HX) (Y : MI) (d kc ks : Nat) (lv : LV) (st : List AV) (n : Nat) (I : Mem) (P : Ptr) (p : Program) (R : Room) (s : State) (m : MethodId) (args : Array Value) (meth : Method) (c : Code) (H : Heap) (locs : List Loc) (cells slots mc ms : Nat) (ls : Array Slot) : Prop :=
  Ev G Y d p R s m args meth c ∧ (cells + kc ≤ mc ∧ slots + ks ≤ ms ∧ mc ≤ R.cells ∧ ms ≤ R.slots) ∧ VL G.1 Y.2.2.1 lv ls ∧ (∀ v ∈ st, avOK v) ∧ Rp G.1 n I P H ∧ va_S (AA G.1) s.heap H locs ∧ G.1.bs ≤ s.heap.size
def V (G : HX) (Y : MI) (d kc ks pc : Nat) (lv : LV) (st : List AV) (n : Nat) (I : Mem) (P : Ptr) (Q : QT) : Prop :=
  ∀ (p : Program) (e : Env) (R : Room) (s : State) (m : MethodId) (args : Array Value) (below : List Frame) (meth : Method) (c : Code) (H : Heap) (locs : List Loc) (cells slots mc ms : Nat) (ls : Array Slot),
    VH G Y d kc ks lv st n I P p R s m args meth c H locs cells slots mc ms ls →
    W p G.1.l e R s m args below meth c H locs cells slots (vx_MQ below (QR G Q) (XR G Q) args s mc ms (AA G.1)) (F0 m pc ls (st.map (conc G.1)))
section VV
variable {G : HX} {Y : MI} {d kc ks pc : Nat} {lv : LV} {st : List AV} {n : Nat} {I : Mem} {P : Ptr} {Q : QT}
theorem VH.s {lv' : LV} {st' : List AV} {p : Program} {R : Room} {s : State} {m : MethodId} {args : Array Value} {meth : Method} {c : Code} {H : Heap} {locs : List Loc} {cells slots mc ms : Nat} {ls ls' : Array Slot} (h : VH G Y d kc ks lv st n I P p R s m args meth c H locs cells slots mc ms ls) (hL : VL G.1 Y.2.2.1 lv' ls') (hS : ∀ v ∈ st', avOK v) : VH G Y d kc ks lv' st' n I P p R s m args meth c H locs cells slots mc ms ls' := ⟨h.1, h.2.1, hL, hS, h.2.2.2.2⟩
theorem VH.st1 {st' : List AV} {p : Program} {R : Room} {s : State} {m : MethodId} {args : Array Value} {meth : Method} {c : Code} {H : Heap} {locs : List Loc} {cells slots mc ms : Nat} {ls : Array Slot} (h : VH G Y d kc ks lv st n I P p R s m args meth c H locs cells slots mc ms ls) (hS : ∀ v ∈ st', avOK v) : VH G Y d kc ks lv st' n I P p R s m args meth c H locs cells slots mc ms ls := h.s h.2.2.1 hS
theorem ok_c {v : AV} {st : List AV} (h : avOK v) (hs : ∀ w ∈ st, avOK w) : ∀ w ∈ v :: st, avOK w := fun w hw => (List.mem_cons.mp hw).elim (fun e => e ▸ h) (hs w)
theorem ok_t {v : AV} {st : List AV} (hs : ∀ w ∈ v :: st, avOK w) : ∀ w ∈ st, avOK w := fun w hw => hs w (List.mem_cons_of_mem _ hw)
theorem ok_h {v : AV} {st : List AV} (hs : ∀ w ∈ v :: st, avOK w) : avOK v := hs v List.mem_cons_self
/-- fewer known values of the frame -/
theorem x_keep (kl : List Nat) (k : V G Y d kc ks pc (kpL kl lv) st n I P Q) : V G Y d kc ks pc lv st n I P Q := fun p e R s m args below meth c H locs cells slots mc ms ls h => k p e R s m args below meth c H locs cells slots mc ms ls (h.s (h.2.2.1.keep kl) h.2.2.2.1)
/-- what a frame's value's range says -/
theorem x_rng {x : Int} (i : Nat) (h : lk lv i = some (.inl x)) (k : rng x → V G Y d kc ks pc lv st n I P Q) : V G Y d kc ks pc lv st n I P Q := fun p e R s m args below meth c H locs cells slots mc ms ls hh => k (hh.2.2.1.ok h) p e R s m args below meth c H locs cells slots mc ms ls hh
/-- what the memory's ranges say -/
theorem x_mem (k : RG I → n ≤ NO → V G Y d kc ks pc lv st n I P Q) : V G Y d kc ks pc lv st n I P Q := fun p e R s m args below meth c H locs cells slots mc ms ls hh => k hh.2.2.2.2.1.2.1 hh.2.2.2.2.1.2.2.1 p e R s m args below meth c H locs cells slots mc ms ls hh
theorem x_top {x : Int} (k : rng x → V G Y d kc ks pc lv (.inl x :: st) n I P Q) : V G Y d kc ks pc lv (.inl x :: st) n I P Q := fun p e R s m args below meth c H locs cells slots mc ms ls hh => k (ok_h hh.2.2.2.1) p e R s m args below meth c H locs cells slots mc ms ls hh
theorem x_iconst {x : Int} (hr : rng x := by first | exact ⟨by decide, by decide⟩ | decide) (hd : decode Y.2.1 pc = .ok (.iconst x, 1)) (k : V G Y d kc ks (pc + 1) lv (.inl x :: st) n I P Q) : V G Y d kc ks pc lv st n I P Q := by
  intro p e R s m args below meth c H locs cells slots mc ms ls h
  refine lv_iconst h.1.1 h.1.2.1 hd rfl ?_
  exact k p e R s m args below meth c H locs cells slots mc ms ls (h.st1 (ok_c hr h.2.2.2.1))
theorem b8 {x : Int} (h : -128 ≤ x ∧ x < 128) : (Int8.ofInt x).toInt32 = oI x := by
  have h1 : (Int8.ofInt x).toInt = x := Int8.toInt_ofInt_of_le h.1 h.2
  have hr : rng x := ⟨by omega, by omega⟩
  exact Int32.toInt_inj.mp (by rw [Int8.toInt_toInt32, h1, oI_toInt hr])
theorem b16 {x : Int} (h : -32768 ≤ x ∧ x < 32768) : (Int16.ofInt x).toInt32 = oI x := by
  have h1 : (Int16.ofInt x).toInt = x := Int16.toInt_ofInt_of_le h.1 h.2
  have hr : rng x := ⟨by omega, by omega⟩
  exact Int32.toInt_inj.mp (by rw [Int16.toInt_toInt32, h1, oI_toInt hr])
theorem x_bipush {x : Int} (hr : -128 ≤ x ∧ x < 128 := by decide) (hd : decode Y.2.1 pc = .ok (.bipush x, 2)) (k : V G Y d kc ks (pc + 2) lv (.inl x :: st) n I P Q) : V G Y d kc ks pc lv st n I P Q := by
  intro p e R s m args below meth c H locs cells slots mc ms ls h
  refine lv_bipush h.1.1 h.1.2.1 hd (b8 hr) ?_
  exact k p e R s m args below meth c H locs cells slots mc ms ls (h.st1 (ok_c (show rng x from ⟨by omega, by omega⟩) h.2.2.2.1))
theorem x_sipush {x : Int} (hr : -32768 ≤ x ∧ x < 32768 := by decide) (hd : decode Y.2.1 pc = .ok (.sipush x, 3)) (k : V G Y d kc ks (pc + 3) lv (.inl x :: st) n I P Q) : V G Y d kc ks pc lv st n I P Q := by
  intro p e R s m args below meth c H locs cells slots mc ms ls h
  refine lv_sipush h.1.1 h.1.2.1 hd (b16 hr) ?_
  exact k p e R s m args below meth c H locs cells slots mc ms ls (h.st1 (ok_c (show rng x from ⟨by omega, by omega⟩) h.2.2.2.1))
theorem x_lconst {x : Fin 2} (hd : decode Y.2.1 pc = .ok (.lconst x, 1)) (k : V G Y d kc ks (pc + 1) lv (.inr (.inr ((x : Nat) : Int)) :: st) n I P Q) : V G Y d kc ks pc lv st n I P Q := by
  intro p e R s m args below meth c H locs cells slots mc ms ls h
  refine lv_lconst h.1.1 h.1.2.1 hd (Int64.ofInt_eq_ofNat).symm ?_
  exact k p e R s m args below meth c H locs cells slots mc ms ls (h.st1 (ok_c (show rng64 ((x : Nat) : Int) from ⟨by omega, by omega⟩) h.2.2.2.1))
theorem x_iload {x : Int} {i : Nat} (hd : decode Y.2.1 pc = .ok (.iload i, 2)) (hl : lk lv i = some (.inl x) := by rfl) (k : V G Y d kc ks (pc + 2) lv (.inl x :: st) n I P Q) : V G Y d kc ks pc lv st n I P Q := by
  intro p e R s m args below meth c H locs cells slots mc ms ls h
  refine lv_iload h.1.1 h.1.2.1 hd (h.2.2.1.at hl) ?_
  exact k p e R s m args below meth c H locs cells slots mc ms ls (h.st1 (ok_c (h.2.2.1.ok hl) h.2.2.2.1))
theorem x_iload_n {x : Int} {i : Nat} {j : Fin 4} (hd : decode Y.2.1 pc = .ok (.iload_n j, 1)) (hi : (j : Nat) = i := by rfl) (hl : lk lv i = some (.inl x) := by rfl) (k : V G Y d kc ks (pc + 1) lv (.inl x :: st) n I P Q) : V G Y d kc ks pc lv st n I P Q := by
  intro p e R s m args below meth c H locs cells slots mc ms ls h
  refine lv_iload_n h.1.1 h.1.2.1 hd hi (h.2.2.1.at hl) ?_
  exact k p e R s m args below meth c H locs cells slots mc ms ls (h.st1 (ok_c (h.2.2.1.ok hl) h.2.2.2.1))
theorem x_aload {x i : Nat} (hx : x ≠ 0 := by decide) (hd : decode Y.2.1 pc = .ok (.aload i, 2)) (hl : lk lv i = some (.inr (.inl x)) := by rfl) (k : V G Y d kc ks (pc + 2) lv (.inr (.inl x) :: st) n I P Q) : V G Y d kc ks pc lv st n I P Q := by
  intro p e R s m args below meth c H locs cells slots mc ms ls h
  have e1 := h.2.2.1.at hl
  have e2 : conc G.1 (.inr (.inl x)) = .ref (adr G.1 x) := rvl_pos hx
  rw [e2] at e1
  refine lv_aload h.1.1 h.1.2.1 hd e1 ?_
  have e3 := k p e R s m args below meth c H locs cells slots mc ms ls (h.st1 (ok_c (h.2.2.1.ok hl) h.2.2.2.1))
  rw [List.map_cons, e2] at e3
  exact e3
theorem x_aload_n {x i : Nat} {j : Fin 4} (hx : x ≠ 0 := by decide) (hd : decode Y.2.1 pc = .ok (.aload_n j, 1)) (hi : (j : Nat) = i := by rfl) (hl : lk lv i = some (.inr (.inl x)) := by rfl) (k : V G Y d kc ks (pc + 1) lv (.inr (.inl x) :: st) n I P Q) : V G Y d kc ks pc lv st n I P Q := by
  intro p e R s m args below meth c H locs cells slots mc ms ls h
  have e1 := h.2.2.1.at hl
  have e2 : conc G.1 (.inr (.inl x)) = .ref (adr G.1 x) := rvl_pos hx
  rw [e2] at e1
  refine lv_aload_n h.1.1 h.1.2.1 hd hi e1 ?_
  have e3 := k p e R s m args below meth c H locs cells slots mc ms ls (h.st1 (ok_c (h.2.2.1.ok hl) h.2.2.2.1))
  rw [List.map_cons, e2] at e3
  exact e3
theorem x_lload {x : Int} {i : Nat} (hd : decode Y.2.1 pc = .ok (.lload i, 2)) (hl : lk lv i = some (.inr (.inr x)) := by rfl) (k : V G Y d kc ks (pc + 2) lv (.inr (.inr x) :: st) n I P Q) : V G Y d kc ks pc lv st n I P Q := by
  intro p e R s m args below meth c H locs cells slots mc ms ls h
  refine lv_lload h.1.1 h.1.2.1 hd (h.2.2.1.at hl) ?_
  exact k p e R s m args below meth c H locs cells slots mc ms ls (h.st1 (ok_c (h.2.2.1.ok hl) h.2.2.2.1))
theorem x_lload_n {x : Int} {i : Nat} {j : Fin 4} (hd : decode Y.2.1 pc = .ok (.lload_n j, 1)) (hi : (j : Nat) = i := by rfl) (hl : lk lv i = some (.inr (.inr x)) := by rfl) (k : V G Y d kc ks (pc + 1) lv (.inr (.inr x) :: st) n I P Q) : V G Y d kc ks pc lv st n I P Q := by
  intro p e R s m args below meth c H locs cells slots mc ms ls h
  refine lv_lload_n h.1.1 h.1.2.1 hd hi (h.2.2.1.at hl) ?_
  exact k p e R s m args below meth c H locs cells slots mc ms ls (h.st1 (ok_c (h.2.2.1.ok hl) h.2.2.2.1))
theorem x_istore {x : Int} {i : Nat} (hd : decode Y.2.1 pc = .ok (.istore i, 2)) (hno : noL lv = true := by rfl) (hn : i < Y.2.2.1 := by decide) (k : V G Y d kc ks (pc + 2) (stL lv i (.inl x)) st n I P Q) : V G Y d kc ks pc lv (.inl x :: st) n I P Q := by
  intro p e R s m args below meth c H locs cells slots mc ms ls h
  refine lv_istore (nL := Y.2.2.1) h.1.1 h.1.2.1 hd h.2.2.1.has hn rfl (fun ls' hl' => ?_)
  exact k p e R s m args below meth c H locs cells slots mc ms ls' (h.s (h.2.2.1.store hno (ok_h h.2.2.2.1) hn hl') (ok_t h.2.2.2.1))
theorem x_istore_n {x : Int} {i : Nat} {j : Fin 4} (hd : decode Y.2.1 pc = .ok (.istore_n j, 1)) (hi : (j : Nat) = i := by rfl) (hno : noL lv = true := by rfl) (hn : i < Y.2.2.1 := by decide) (k : V G Y d kc ks (pc + 1) (stL lv i (.inl x)) st n I P Q) : V G Y d kc ks pc lv (.inl x :: st) n I P Q := by
  intro p e R s m args below meth c H locs cells slots mc ms ls h
  refine lv_istore_n (nL := Y.2.2.1) h.1.1 h.1.2.1 hd hi h.2.2.1.has hn rfl (fun ls' hl' => ?_)
  exact k p e R s m args below meth c H locs cells slots mc ms ls' (h.s (h.2.2.1.store hno (ok_h h.2.2.2.1) hn hl') (ok_t h.2.2.2.1))
theorem x_astore {x : Nat} {i : Nat} (hx : x ≠ 0 := by decide) (hd : decode Y.2.1 pc = .ok (.astore i, 2)) (hno : noL lv = true := by rfl) (hn : i < Y.2.2.1 := by decide) (k : V G Y d kc ks (pc + 2) (stL lv i (.inr (.inl x))) st n I P Q) : V G Y d kc ks pc lv (.inr (.inl x) :: st) n I P Q := by
  intro p e R s m args below meth c H locs cells slots mc ms ls h
  have e2 : conc G.1 (.inr (.inl x)) = .ref (adr G.1 x) := rvl_pos hx
  rw [List.map_cons, e2]
  refine lv_astore (nL := Y.2.2.1) h.1.1 h.1.2.1 hd h.2.2.1.has hn rfl (fun ls' hl' => ?_)
  exact k p e R s m args below meth c H locs cells slots mc ms ls' (h.s (h.2.2.1.store hno (ok_h h.2.2.2.1) hn (by rw [e2]; exact hl')) (ok_t h.2.2.2.1))
theorem x_astore_n {x : Nat} {i : Nat} {j : Fin 4} (hx : x ≠ 0 := by decide) (hd : decode Y.2.1 pc = .ok (.astore_n j, 1)) (hi : (j : Nat) = i := by rfl) (hno : noL lv = true := by rfl) (hn : i < Y.2.2.1 := by decide) (k : V G Y d kc ks (pc + 1) (stL lv i (.inr (.inl x))) st n I P Q) : V G Y d kc ks pc lv (.inr (.inl x) :: st) n I P Q := by
  intro p e R s m args below meth c H locs cells slots mc ms ls h
  have e2 : conc G.1 (.inr (.inl x)) = .ref (adr G.1 x) := rvl_pos hx
  rw [List.map_cons, e2]
  refine lv_astore_n (nL := Y.2.2.1) h.1.1 h.1.2.1 hd hi h.2.2.1.has hn rfl (fun ls' hl' => ?_)
  exact k p e R s m args below meth c H locs cells slots mc ms ls' (h.s (h.2.2.1.store hno (ok_h h.2.2.2.1) hn (by rw [e2]; exact hl')) (ok_t h.2.2.2.1))
theorem x_istoreN {x : Int} {i : Nat} (hd : decode Y.2.1 pc = .ok (.istore i, 2)) (hp : ∀ j x, j + 1 = i → lk lv j ≠ some (.inr (.inr x))) (hn : i < Y.2.2.1 := by decide) (k : V G Y d kc ks (pc + 2) (stL lv i (.inl x)) st n I P Q) : V G Y d kc ks pc lv (.inl x :: st) n I P Q := by
  intro p e R s m args below meth c H locs cells slots mc ms ls h
  refine lv_istore (nL := Y.2.2.1) h.1.1 h.1.2.1 hd h.2.2.1.has hn rfl (fun ls' hl' => ?_)
  exact k p e R s m args below meth c H locs cells slots mc ms ls' (h.s (h.2.2.1.storeN hp (ok_h h.2.2.2.1) hn hl') (ok_t h.2.2.2.1))
theorem x_istoreN_n {x : Int} {i : Nat} {j : Fin 4} (hd : decode Y.2.1 pc = .ok (.istore_n j, 1)) (hi : (j : Nat) = i := by rfl) (hp : ∀ j x, j + 1 = i → lk lv j ≠ some (.inr (.inr x))) (hn : i < Y.2.2.1 := by decide) (k : V G Y d kc ks (pc + 1) (stL lv i (.inl x)) st n I P Q) : V G Y d kc ks pc lv (.inl x :: st) n I P Q := by
  intro p e R s m args below meth c H locs cells slots mc ms ls h
  refine lv_istore_n (nL := Y.2.2.1) h.1.1 h.1.2.1 hd hi h.2.2.1.has hn rfl (fun ls' hl' => ?_)
  exact k p e R s m args below meth c H locs cells slots mc ms ls' (h.s (h.2.2.1.storeN hp (ok_h h.2.2.2.1) hn hl') (ok_t h.2.2.2.1))
theorem x_lstore {x : Int} {i : Nat} (hd : decode Y.2.1 pc = .ok (.lstore i, 2)) (hp : ∀ j x, j + 1 = i → lk lv j ≠ some (.inr (.inr x))) (hu : ∀ y, lk lv (i + 1) ≠ some y) (hn : i + 1 < Y.2.2.1 := by decide) (k : V G Y d kc ks (pc + 2) (stL lv i (.inr (.inr x))) st n I P Q) : V G Y d kc ks pc lv (.inr (.inr x) :: st) n I P Q := by
  intro p e R s m args below meth c H locs cells slots mc ms ls h
  refine lv_lstore (nL := Y.2.2.1) h.1.1 h.1.2.1 hd h.2.2.1.has hn rfl (fun ls' hl' => ?_)
  exact k p e R s m args below meth c H locs cells slots mc ms ls' (h.s (h.2.2.1.storeL (ok_h h.2.2.2.1) hn hu hp hl') (ok_t h.2.2.2.1))
theorem x_lstore_n {x : Int} {i : Nat} {j : Fin 4} (hd : decode Y.2.1 pc = .ok (.lstore_n j, 1)) (hi : (j : Nat) = i := by rfl) (hp : ∀ j x, j + 1 = i → lk lv j ≠ some (.inr (.inr x))) (hu : ∀ y, lk lv (i + 1) ≠ some y) (hn : i + 1 < Y.2.2.1 := by decide) (k : V G Y d kc ks (pc + 1) (stL lv i (.inr (.inr x))) st n I P Q) : V G Y d kc ks pc lv (.inr (.inr x) :: st) n I P Q := by
  intro p e R s m args below meth c H locs cells slots mc ms ls h
  refine lv_lstore_n (nL := Y.2.2.1) h.1.1 h.1.2.1 hd hi h.2.2.1.has hn rfl (fun ls' hl' => ?_)
  exact k p e R s m args below meth c H locs cells slots mc ms ls' (h.s (h.2.2.1.storeL (ok_h h.2.2.2.1) hn hu hp hl') (ok_t h.2.2.2.1))
theorem x_iinc {x z : Int} {i : Nat} (hd : decode Y.2.1 pc = .ok (.iinc i z, 3)) (hl : lk lv i = some (.inl x) := by rfl) (hr : rng (x + z)) (hno : noL lv = true := by rfl) (hn : i < Y.2.2.1 := by decide) (k : V G Y d kc ks (pc + 3) (stL lv i (.inl (x + z))) st n I P Q) : V G Y d kc ks pc lv st n I P Q := by
  intro p e R s m args below meth c H locs cells slots mc ms ls h
  obtain ⟨q, hq⟩ := List.getElem?_of_mem (clL_mem (G := G.1) (k := 0).mpr ⟨i, _, hl, rfl⟩)
  rw [Nat.zero_add] at hq
  refine lv_iinc (v := oI (x + z)) (nL := Y.2.2.1) h.1.1 h.1.2.1 hd h.2.2.1.has hq (Int32.ofInt_add _ _).symm hn rfl (fun ls' hl' => ?_)
  exact k p e R s m args below meth c H locs cells slots mc ms ls' (h.s (h.2.2.1.store (v := .inl (x + z)) hno hr hn hl') h.2.2.2.1)
theorem x_dup {v : AV} (hd : decode Y.2.1 pc = .ok (.dup, 1)) (hv : (match v with | .inr (.inr _) => 2 | _ => 1 : Nat) = 1 := by rfl) (k : V G Y d kc ks (pc + 1) lv (v :: v :: st) n I P Q) : V G Y d kc ks pc lv (v :: st) n I P Q := by
  intro p e R s m args below meth c H locs cells slots mc ms ls h
  refine lv_dup h.1.1 h.1.2.1 hd ((conc_cat _ _).trans hv) ?_
  exact k p e R s m args below meth c H locs cells slots mc ms ls (h.st1 (ok_c (ok_h h.2.2.2.1) h.2.2.2.1))
theorem x_dup2 {v w : AV} (hd : decode Y.2.1 pc = .ok (.dup2, 1)) (hv : (match v with | .inr (.inr _) => 2 | _ => 1 : Nat) = 1 := by rfl) (hw : (match w with | .inr (.inr _) => 2 | _ => 1 : Nat) = 1 := by rfl) (k : V G Y d kc ks (pc + 1) lv (v :: w :: v :: w :: st) n I P Q) : V G Y d kc ks pc lv (v :: w :: st) n I P Q := by
  intro p e R s m args below meth c H locs cells slots mc ms ls h
  refine lv_dup2_11 h.1.1 h.1.2.1 hd ((conc_cat _ _).trans hv) ((conc_cat _ _).trans hw) ?_
  exact k p e R s m args below meth c H locs cells slots mc ms ls (h.st1 (ok_c (ok_h h.2.2.2.1) (ok_c (ok_h (ok_t h.2.2.2.1)) h.2.2.2.1)))
theorem x_pop {v : AV} (hd : decode Y.2.1 pc = .ok (.pop, 1)) (hv : (match v with | .inr (.inr _) => 2 | _ => 1 : Nat) = 1 := by rfl) (k : V G Y d kc ks (pc + 1) lv st n I P Q) : V G Y d kc ks pc lv (v :: st) n I P Q := by
  intro p e R s m args below meth c H locs cells slots mc ms ls h
  refine lv_pop h.1.1 h.1.2.1 hd ((conc_cat _ _).trans hv) ?_
  exact k p e R s m args below meth c H locs cells slots mc ms ls (h.st1 (ok_t h.2.2.2.1))
theorem x_iadd {x y : Int} (hd : decode Y.2.1 pc = .ok (.iadd, 1)) (hr : rng (x + y)) (k : V G Y d kc ks (pc + 1) lv (.inl (x + y) :: st) n I P Q) : V G Y d kc ks pc lv (.inl y :: .inl x :: st) n I P Q := by
  intro p e R s m args below meth c H locs cells slots mc ms ls h
  have e9 : oI x + oI y = oI (x + y) := (Int32.ofInt_add _ _).symm
  refine lv_iadd h.1.1 h.1.2.1 hd ?_
  rw [e9]
  exact k p e R s m args below meth c H locs cells slots mc ms ls (h.st1 (ok_c (v := .inl (x + y)) hr (ok_t (ok_t h.2.2.2.1))))
theorem x_iaddW {x y : Int} (hd : decode Y.2.1 pc = .ok (.iadd, 1)) (k : V G Y d kc ks (pc + 1) lv (.inl (wr (x + y)) :: st) n I P Q) : V G Y d kc ks pc lv (.inl y :: .inl x :: st) n I P Q := by
  intro p e R s m args below meth c H locs cells slots mc ms ls h
  have e9 : oI x + oI y = oI (wr (x + y)) := ((wr_oI _).trans (Int32.ofInt_add _ _)).symm
  refine lv_iadd h.1.1 h.1.2.1 hd ?_
  rw [e9]
  exact k p e R s m args below meth c H locs cells slots mc ms ls (h.st1 (ok_c (v := .inl (wr (x + y))) (wr_rng _) (ok_t (ok_t h.2.2.2.1))))
theorem x_isub {x y : Int} (hd : decode Y.2.1 pc = .ok (.isub, 1)) (hr : rng (x - y)) (k : V G Y d kc ks (pc + 1) lv (.inl (x - y) :: st) n I P Q) : V G Y d kc ks pc lv (.inl y :: .inl x :: st) n I P Q := by
  intro p e R s m args below meth c H locs cells slots mc ms ls h
  have e9 : oI x - oI y = oI (x - y) := (Int32.ofInt_sub _ _).symm
  refine lv_isub h.1.1 h.1.2.1 hd ?_
  rw [e9]
  exact k p e R s m args below meth c H locs cells slots mc ms ls (h.st1 (ok_c (v := .inl (x - y)) hr (ok_t (ok_t h.2.2.2.1))))
theorem x_isubW {x y : Int} (hd : decode Y.2.1 pc = .ok (.isub, 1)) (k : V G Y d kc ks (pc + 1) lv (.inl (wr (x - y)) :: st) n I P Q) : V G Y d kc ks pc lv (.inl y :: .inl x :: st) n I P Q := by
  intro p e R s m args below meth c H locs cells slots mc ms ls h
  have e9 : oI x - oI y = oI (wr (x - y)) := ((wr_oI _).trans (Int32.ofInt_sub _ _)).symm
  refine lv_isub h.1.1 h.1.2.1 hd ?_
  rw [e9]
  exact k p e R s m args below meth c H locs cells slots mc ms ls (h.st1 (ok_c (v := .inl (wr (x - y))) (wr_rng _) (ok_t (ok_t h.2.2.2.1))))
theorem x_imul {x y : Int} (hd : decode Y.2.1 pc = .ok (.imul, 1)) (hr : rng (x * y)) (k : V G Y d kc ks (pc + 1) lv (.inl (x * y) :: st) n I P Q) : V G Y d kc ks pc lv (.inl y :: .inl x :: st) n I P Q := by
  intro p e R s m args below meth c H locs cells slots mc ms ls h
  have e9 : oI x * oI y = oI (x * y) := (Int32.ofInt_mul _ _).symm
  refine lv_imul h.1.1 h.1.2.1 hd ?_
  rw [e9]
  exact k p e R s m args below meth c H locs cells slots mc ms ls (h.st1 (ok_c (v := .inl (x * y)) hr (ok_t (ok_t h.2.2.2.1))))
theorem x_imulW {x y : Int} (hd : decode Y.2.1 pc = .ok (.imul, 1)) (k : V G Y d kc ks (pc + 1) lv (.inl (wr (x * y)) :: st) n I P Q) : V G Y d kc ks pc lv (.inl y :: .inl x :: st) n I P Q := by
  intro p e R s m args below meth c H locs cells slots mc ms ls h
  have e9 : oI x * oI y = oI (wr (x * y)) := ((wr_oI _).trans (Int32.ofInt_mul _ _)).symm
  refine lv_imul h.1.1 h.1.2.1 hd ?_
  rw [e9]
  exact k p e R s m args below meth c H locs cells slots mc ms ls (h.st1 (ok_c (v := .inl (wr (x * y))) (wr_rng _) (ok_t (ok_t h.2.2.2.1))))
theorem x_iand {x y : Int} (z : Int) (hd : decode Y.2.1 pc = .ok (.iand, 1)) (hz : oI x &&& oI y = oI z) (hr : rng z) (k : V G Y d kc ks (pc + 1) lv (.inl z :: st) n I P Q) : V G Y d kc ks pc lv (.inl y :: .inl x :: st) n I P Q := by
  intro p e R s m args below meth c H locs cells slots mc ms ls h
  refine lv_iand h.1.1 h.1.2.1 hd ?_
  rw [hz]
  exact k p e R s m args below meth c H locs cells slots mc ms ls (h.st1 (ok_c (v := .inl z) hr (ok_t (ok_t h.2.2.2.1))))
theorem x_ior {x y : Int} (z : Int) (hd : decode Y.2.1 pc = .ok (.ior, 1)) (hz : oI x ||| oI y = oI z) (hr : rng z) (k : V G Y d kc ks (pc + 1) lv (.inl z :: st) n I P Q) : V G Y d kc ks pc lv (.inl y :: .inl x :: st) n I P Q := by
  intro p e R s m args below meth c H locs cells slots mc ms ls h
  refine lv_ior h.1.1 h.1.2.1 hd ?_
  rw [hz]
  exact k p e R s m args below meth c H locs cells slots mc ms ls (h.st1 (ok_c (v := .inl z) hr (ok_t (ok_t h.2.2.2.1))))
theorem x_ixor {x y : Int} (z : Int) (hd : decode Y.2.1 pc = .ok (.ixor, 1)) (hz : oI x ^^^ oI y = oI z) (hr : rng z) (k : V G Y d kc ks (pc + 1) lv (.inl z :: st) n I P Q) : V G Y d kc ks pc lv (.inl y :: .inl x :: st) n I P Q := by
  intro p e R s m args below meth c H locs cells slots mc ms ls h
  refine lv_ixor h.1.1 h.1.2.1 hd ?_
  rw [hz]
  exact k p e R s m args below meth c H locs cells slots mc ms ls (h.st1 (ok_c (v := .inl z) hr (ok_t (ok_t h.2.2.2.1))))
theorem x_ishl {x y : Int} (z : Int) (hd : decode Y.2.1 pc = .ok (.ishl, 1)) (hz : oI x <<< (oI y &&& 31) = oI z) (hr : rng z) (k : V G Y d kc ks (pc + 1) lv (.inl z :: st) n I P Q) : V G Y d kc ks pc lv (.inl y :: .inl x :: st) n I P Q := by
  intro p e R s m args below meth c H locs cells slots mc ms ls h
  refine lv_ishl h.1.1 h.1.2.1 hd ?_
  rw [hz]
  exact k p e R s m args below meth c H locs cells slots mc ms ls (h.st1 (ok_c (v := .inl z) hr (ok_t (ok_t h.2.2.2.1))))
theorem x_ishr {x y : Int} (z : Int) (hd : decode Y.2.1 pc = .ok (.ishr, 1)) (hz : oI x >>> (oI y &&& 31) = oI z) (hr : rng z) (k : V G Y d kc ks (pc + 1) lv (.inl z :: st) n I P Q) : V G Y d kc ks pc lv (.inl y :: .inl x :: st) n I P Q := by
  intro p e R s m args below meth c H locs cells slots mc ms ls h
  refine lv_ishr h.1.1 h.1.2.1 hd ?_
  rw [hz]
  exact k p e R s m args below meth c H locs cells slots mc ms ls (h.st1 (ok_c (v := .inl z) hr (ok_t (ok_t h.2.2.2.1))))
theorem x_iushr {x y : Int} (z : Int) (hd : decode Y.2.1 pc = .ok (.iushr, 1)) (hz : ((oI x).toUInt32 >>> ((oI y).toUInt32 &&& Int32.toUInt32 31)).toInt32 = oI z) (hr : rng z) (k : V G Y d kc ks (pc + 1) lv (.inl z :: st) n I P Q) : V G Y d kc ks pc lv (.inl y :: .inl x :: st) n I P Q := by
  intro p e R s m args below meth c H locs cells slots mc ms ls h
  refine lv_iushr h.1.1 h.1.2.1 hd hz ?_
  exact k p e R s m args below meth c H locs cells slots mc ms ls (h.st1 (ok_c (v := .inl z) hr (ok_t (ok_t h.2.2.2.1))))
theorem x_lor {x y : Int} (z : Int) (hd : decode Y.2.1 pc = .ok (.lor, 1)) (hz : oL x ||| oL y = oL z) (hr : rng64 z) (k : V G Y d kc ks (pc + 1) lv (.inr (.inr z) :: st) n I P Q) : V G Y d kc ks pc lv (.inr (.inr y) :: .inr (.inr x) :: st) n I P Q := by
  intro p e R s m args below meth c H locs cells slots mc ms ls h
  refine lv_lor h.1.1 h.1.2.1 hd ?_
  rw [hz]
  exact k p e R s m args below meth c H locs cells slots mc ms ls (h.st1 (ok_c (v := .inr (.inr z)) hr (ok_t (ok_t h.2.2.2.1))))
theorem x_lmul {x y : Int} (z : Int) (hd : decode Y.2.1 pc = .ok (.lmul, 1)) (hz : oL x * oL y = oL z) (hr : rng64 z) (k : V G Y d kc ks (pc + 1) lv (.inr (.inr z) :: st) n I P Q) : V G Y d kc ks pc lv (.inr (.inr y) :: .inr (.inr x) :: st) n I P Q := by
  intro p e R s m args below meth c H locs cells slots mc ms ls h
  refine lv_lmul h.1.1 h.1.2.1 hd ?_
  rw [hz]
  exact k p e R s m args below meth c H locs cells slots mc ms ls (h.st1 (ok_c (v := .inr (.inr z)) hr (ok_t (ok_t h.2.2.2.1))))
theorem x_ldiv {x y : Int} (z : Int) (hd : decode Y.2.1 pc = .ok (.ldiv, 1)) (hne : y ≠ 0) (hz : oL x / oL y = oL z) (hr : rng64 z) (k : V G Y d kc ks (pc + 1) lv (.inr (.inr z) :: st) n I P Q) : V G Y d kc ks pc lv (.inr (.inr y) :: .inr (.inr x) :: st) n I P Q := by
  intro p e R s m args below meth c H locs cells slots mc ms ls h
  refine lv_ldiv h.1.1 h.1.2.1 hd (fun q => hne ((oL_inj (ok_h h.2.2.2.1) ⟨by decide, by decide⟩).mp q)) ?_
  rw [hz]
  exact k p e R s m args below meth c H locs cells slots mc ms ls (h.st1 (ok_c (v := .inr (.inr z)) hr (ok_t (ok_t h.2.2.2.1))))
theorem x_lshl {x y : Int} (z : Int) (hd : decode Y.2.1 pc = .ok (.lshl, 1)) (hz : oL x <<< ((oI y).toInt64 &&& 63) = oL z) (hr : rng64 z) (k : V G Y d kc ks (pc + 1) lv (.inr (.inr z) :: st) n I P Q) : V G Y d kc ks pc lv (.inl y :: .inr (.inr x) :: st) n I P Q := by
  intro p e R s m args below meth c H locs cells slots mc ms ls h
  refine lv_lshl h.1.1 h.1.2.1 hd hz ?_
  exact k p e R s m args below meth c H locs cells slots mc ms ls (h.st1 (ok_c (v := .inr (.inr z)) hr (ok_t (ok_t h.2.2.2.1))))
theorem x_i2l {x : Int} (hd : decode Y.2.1 pc = .ok (.i2l, 1)) (k : V G Y d kc ks (pc + 1) lv (.inr (.inr x) :: st) n I P Q) : V G Y d kc ks pc lv (.inl x :: st) n I P Q := by
  intro p e R s m args below meth c H locs cells slots mc ms ls h
  refine lv_i2l h.1.1 h.1.2.1 hd (oL_of32 (ok_h h.2.2.2.1)) ?_
  exact k p e R s m args below meth c H locs cells slots mc ms ls (h.st1 (ok_c (v := .inr (.inr x)) (rng_64 (ok_h h.2.2.2.1)) (ok_t h.2.2.2.1)))
theorem x_i2b {x : Int} (z : Int) (hd : decode Y.2.1 pc = .ok (.i2b, 1)) (hz : (oI x).toInt8.toInt32 = oI z) (hr : rng z) (k : V G Y d kc ks (pc + 1) lv (.inl z :: st) n I P Q) : V G Y d kc ks pc lv (.inl x :: st) n I P Q := by
  intro p e R s m args below meth c H locs cells slots mc ms ls h
  refine lv_i2b h.1.1 h.1.2.1 hd hz ?_
  exact k p e R s m args below meth c H locs cells slots mc ms ls (h.st1 (ok_c (v := .inl z) hr (ok_t h.2.2.2.1)))
def cmpI (x y : Int) : Int := if y < x then 1 else if x = y then 0 else -1
theorem x_lcmp {x y : Int} (hd : decode Y.2.1 pc = .ok (.lcmp, 1)) (k : V G Y d kc ks (pc + 1) lv (.inl (cmpI x y) :: st) n I P Q) : V G Y d kc ks pc lv (.inr (.inr y) :: .inr (.inr x) :: st) n I P Q := by
  intro p e R s m args below meth c H locs cells slots mc ms ls h
  have hy := ok_h h.2.2.2.1
  have hx := ok_h (ok_t h.2.2.2.1)
  have e9 : lg_cmp (oL x) (oL y) = oI (cmpI x y) := by
    unfold lg_cmp cmpI
    simp only [gt_iff_lt, oL_lt hy hx, oL_inj hx hy]
    split
    · rfl
    · split <;> rfl
  have hr : rng (cmpI x y) := by
    unfold cmpI
    split
    · exact ⟨by decide, by decide⟩
    · split <;> exact ⟨by decide, by decide⟩
  refine W.lcmp h.1.1 h.1.2.1 hd ?_
  rw [e9]
  exact k p e R s m args below meth c H locs cells slots mc ms ls (h.st1 (ok_c (v := .inl (cmpI x y)) hr (ok_t (ok_t h.2.2.2.1))))
theorem dv_oI {x y : Int} (rx : rng x) (ry : rng y) (hx : 0 ≤ x) (hy : 0 < y) : oI x / oI y = oI (x / y) := by
  rw [← Int.tdiv_eq_ediv_of_nonneg hx]
  exact (Int32.ofInt_tdiv rx.1 (Int.le_of_lt_add_one rx.2) ry.1 (Int.le_of_lt_add_one ry.2)).symm
theorem dv_rng {x y : Int} (rx : rng x) (hx : 0 ≤ x) (hy : 0 < y) : rng (x / y) := by
  have h1 : 0 ≤ x / y := Int.ediv_nonneg hx (by omega)
  have h2 : x / y ≤ x := Int.ediv_le_self _ hx
  unfold rng at *
  omega
theorem md_rng {x y : Int} (ry : rng y) (hy : 0 < y) : rng (x % y) := by
  have h1 : 0 ≤ x % y := Int.emod_nonneg _ (by omega)
  have h2 : x % y < y := Int.emod_lt_of_pos _ hy
  unfold rng at *
  omega
theorem x_idiv {x y : Int} (hd : decode Y.2.1 pc = .ok (.idiv, 1)) (hx : 0 ≤ x) (hy : 0 < y) (k : V G Y d kc ks (pc + 1) lv (.inl (x / y) :: st) n I P Q) : V G Y d kc ks pc lv (.inl y :: .inl x :: st) n I P Q := by
  intro p e R s m args below meth c H locs cells slots mc ms ls h
  have ry : rng y := ok_h h.2.2.2.1
  have rx : rng x := ok_h (ok_t h.2.2.2.1)
  refine lv_idiv h.1.1 h.1.2.1 hd (fun q => absurd ((oI_eq ry rng_0).mp q) (by omega)) ?_
  rw [dv_oI rx ry hx hy]
  exact k p e R s m args below meth c H locs cells slots mc ms ls (h.st1 (ok_c (v := .inl (x / y)) (dv_rng rx hx hy) (ok_t (ok_t h.2.2.2.1))))
theorem x_irem {x y : Int} (hd : decode Y.2.1 pc = .ok (.irem, 1)) (hx : 0 ≤ x) (hy : 0 < y) (k : V G Y d kc ks (pc + 1) lv (.inl (x % y) :: st) n I P Q) : V G Y d kc ks pc lv (.inl y :: .inl x :: st) n I P Q := by
  intro p e R s m args below meth c H locs cells slots mc ms ls h
  have ry : rng y := ok_h h.2.2.2.1
  have rx : rng x := ok_h (ok_t h.2.2.2.1)
  refine lv_irem h.1.1 h.1.2.1 hd (fun q => absurd ((oI_eq ry rng_0).mp q) (by omega)) ?_
  rw [dv_oI rx ry hx hy, show oI x - oI (x / y) * oI y = oI (x % y) by rw [← Int32.ofInt_mul, ← Int32.ofInt_sub, Int.emod_def, Int.mul_comm]]
  exact k p e R s m args below meth c H locs cells slots mc ms ls (h.st1 (ok_c (v := .inl (x % y)) (md_rng ry hy) (ok_t (ok_t h.2.2.2.1))))
theorem x_goto {off : Int} {tgt : Nat} (hd : decode Y.2.1 pc = .ok (.goto off, 3)) (ht : (pc : Int) + off = (tgt : Int) := by decide) (k : V G Y d kc ks tgt lv st n I P Q) : V G Y d kc ks pc lv st n I P Q := by
  intro p e R s m args below meth c H locs cells slots mc ms ls h
  refine lv_goto h.1.1 h.1.2.1 hd ht ?_
  exact k p e R s m args below meth c H locs cells slots mc ms ls h
theorem x_icmp_eq {x y off : Int} {tgt : Nat} (hd : decode Y.2.1 pc = .ok (.if_icmp .eq off, 3)) (ht : (pc : Int) + off = (tgt : Int) := by decide) (kt : x = y → V G Y d kc ks tgt lv st n I P Q) (kf : x ≠ y → V G Y d kc ks (pc + 3) lv st n I P Q) : V G Y d kc ks pc lv (.inl y :: .inl x :: st) n I P Q := by
  intro p e R s m args below meth c H locs cells slots mc ms ls h
  have ry : rng y := ok_h h.2.2.2.1
  have rx : rng x := ok_h (ok_t h.2.2.2.1)
  have hh := h.st1 (ok_t (ok_t h.2.2.2.1))
  refine lv_icmp_eq h.1.1 h.1.2.1 hd ht (fun q => ?_) (fun q => ?_)
  · exact kt ((oI_eq rx ry).mp q) p e R s m args below meth c H locs cells slots mc ms ls hh
  · exact kf ((fun z => q ((oI_eq rx ry).mpr z))) p e R s m args below meth c H locs cells slots mc ms ls hh
theorem x_if_eq {x off : Int} {tgt : Nat} (hd : decode Y.2.1 pc = .ok (.ifCond .eq off, 3)) (ht : (pc : Int) + off = (tgt : Int) := by decide) (kt : x = 0 → V G Y d kc ks tgt lv st n I P Q) (kf : x ≠ 0 → V G Y d kc ks (pc + 3) lv st n I P Q) : V G Y d kc ks pc lv (.inl x :: st) n I P Q := by
  intro p e R s m args below meth c H locs cells slots mc ms ls h
  have ry : rng 0 := rng_0
  have rx : rng x := ok_h h.2.2.2.1
  have hh := h.st1 (ok_t h.2.2.2.1)
  refine lv_if_eq h.1.1 h.1.2.1 hd ht (fun q => ?_) (fun q => ?_)
  · exact kt ((oI_eq rx ry).mp q) p e R s m args below meth c H locs cells slots mc ms ls hh
  · exact kf ((fun z => q ((oI_eq rx ry).mpr z))) p e R s m args below meth c H locs cells slots mc ms ls hh
theorem x_icmp_ne {x y off : Int} {tgt : Nat} (hd : decode Y.2.1 pc = .ok (.if_icmp .ne off, 3)) (ht : (pc : Int) + off = (tgt : Int) := by decide) (kt : x ≠ y → V G Y d kc ks tgt lv st n I P Q) (kf : x = y → V G Y d kc ks (pc + 3) lv st n I P Q) : V G Y d kc ks pc lv (.inl y :: .inl x :: st) n I P Q := by
  intro p e R s m args below meth c H locs cells slots mc ms ls h
  have ry : rng y := ok_h h.2.2.2.1
  have rx : rng x := ok_h (ok_t h.2.2.2.1)
  have hh := h.st1 (ok_t (ok_t h.2.2.2.1))
  refine lv_icmp_ne h.1.1 h.1.2.1 hd ht (fun q => ?_) (fun q => ?_)
  · exact kt ((fun z => q ((oI_eq rx ry).mpr z))) p e R s m args below meth c H locs cells slots mc ms ls hh
  · exact kf ((oI_eq rx ry).mp q) p e R s m args below meth c H locs cells slots mc ms ls hh
theorem x_if_ne {x off : Int} {tgt : Nat} (hd : decode Y.2.1 pc = .ok (.ifCond .ne off, 3)) (ht : (pc : Int) + off = (tgt : Int) := by decide) (kt : x ≠ 0 → V G Y d kc ks tgt lv st n I P Q) (kf : x = 0 → V G Y d kc ks (pc + 3) lv st n I P Q) : V G Y d kc ks pc lv (.inl x :: st) n I P Q := by
  intro p e R s m args below meth c H locs cells slots mc ms ls h
  have ry : rng 0 := rng_0
  have rx : rng x := ok_h h.2.2.2.1
  have hh := h.st1 (ok_t h.2.2.2.1)
  refine lv_if_ne h.1.1 h.1.2.1 hd ht (fun q => ?_) (fun q => ?_)
  · exact kt ((fun z => q ((oI_eq rx ry).mpr z))) p e R s m args below meth c H locs cells slots mc ms ls hh
  · exact kf ((oI_eq rx ry).mp q) p e R s m args below meth c H locs cells slots mc ms ls hh
theorem x_icmp_lt {x y off : Int} {tgt : Nat} (hd : decode Y.2.1 pc = .ok (.if_icmp .lt off, 3)) (ht : (pc : Int) + off = (tgt : Int) := by decide) (kt : x < y → V G Y d kc ks tgt lv st n I P Q) (kf : y ≤ x → V G Y d kc ks (pc + 3) lv st n I P Q) : V G Y d kc ks pc lv (.inl y :: .inl x :: st) n I P Q := by
  intro p e R s m args below meth c H locs cells slots mc ms ls h
  have ry : rng y := ok_h h.2.2.2.1
  have rx : rng x := ok_h (ok_t h.2.2.2.1)
  have hh := h.st1 (ok_t (ok_t h.2.2.2.1))
  refine lv_icmp_lt h.1.1 h.1.2.1 hd ht (fun q => ?_) (fun q => ?_)
  · exact kt ((oI_lt rx ry).mp q) p e R s m args below meth c H locs cells slots mc ms ls hh
  · exact kf ((Int.not_lt.mp (fun z => q ((oI_lt rx ry).mpr z)))) p e R s m args below meth c H locs cells slots mc ms ls hh
theorem x_if_lt {x off : Int} {tgt : Nat} (hd : decode Y.2.1 pc = .ok (.ifCond .lt off, 3)) (ht : (pc : Int) + off = (tgt : Int) := by decide) (kt : x < 0 → V G Y d kc ks tgt lv st n I P Q) (kf : 0 ≤ x → V G Y d kc ks (pc + 3) lv st n I P Q) : V G Y d kc ks pc lv (.inl x :: st) n I P Q := by
  intro p e R s m args below meth c H locs cells slots mc ms ls h
  have ry : rng 0 := rng_0
  have rx : rng x := ok_h h.2.2.2.1
  have hh := h.st1 (ok_t h.2.2.2.1)
  refine lv_if_lt h.1.1 h.1.2.1 hd ht (fun q => ?_) (fun q => ?_)
  · exact kt ((oI_lt rx ry).mp q) p e R s m args below meth c H locs cells slots mc ms ls hh
  · exact kf ((Int.not_lt.mp (fun z => q ((oI_lt rx ry).mpr z)))) p e R s m args below meth c H locs cells slots mc ms ls hh
theorem x_icmp_ge {x y off : Int} {tgt : Nat} (hd : decode Y.2.1 pc = .ok (.if_icmp .ge off, 3)) (ht : (pc : Int) + off = (tgt : Int) := by decide) (kt : y ≤ x → V G Y d kc ks tgt lv st n I P Q) (kf : x < y → V G Y d kc ks (pc + 3) lv st n I P Q) : V G Y d kc ks pc lv (.inl y :: .inl x :: st) n I P Q := by
  intro p e R s m args below meth c H locs cells slots mc ms ls h
  have ry : rng y := ok_h h.2.2.2.1
  have rx : rng x := ok_h (ok_t h.2.2.2.1)
  have hh := h.st1 (ok_t (ok_t h.2.2.2.1))
  refine lv_icmp_ge h.1.1 h.1.2.1 hd ht (fun q => ?_) (fun q => ?_)
  · exact kt ((oI_le ry rx).mp q) p e R s m args below meth c H locs cells slots mc ms ls hh
  · exact kf ((Int.not_le.mp (fun z => q ((oI_le ry rx).mpr z)))) p e R s m args below meth c H locs cells slots mc ms ls hh
theorem x_if_ge {x off : Int} {tgt : Nat} (hd : decode Y.2.1 pc = .ok (.ifCond .ge off, 3)) (ht : (pc : Int) + off = (tgt : Int) := by decide) (kt : 0 ≤ x → V G Y d kc ks tgt lv st n I P Q) (kf : x < 0 → V G Y d kc ks (pc + 3) lv st n I P Q) : V G Y d kc ks pc lv (.inl x :: st) n I P Q := by
  intro p e R s m args below meth c H locs cells slots mc ms ls h
  have ry : rng 0 := rng_0
  have rx : rng x := ok_h h.2.2.2.1
  have hh := h.st1 (ok_t h.2.2.2.1)
  refine lv_if_ge h.1.1 h.1.2.1 hd ht (fun q => ?_) (fun q => ?_)
  · exact kt ((oI_le ry rx).mp q) p e R s m args below meth c H locs cells slots mc ms ls hh
  · exact kf ((Int.not_le.mp (fun z => q ((oI_le ry rx).mpr z)))) p e R s m args below meth c H locs cells slots mc ms ls hh
theorem x_icmp_gt {x y off : Int} {tgt : Nat} (hd : decode Y.2.1 pc = .ok (.if_icmp .gt off, 3)) (ht : (pc : Int) + off = (tgt : Int) := by decide) (kt : y < x → V G Y d kc ks tgt lv st n I P Q) (kf : x ≤ y → V G Y d kc ks (pc + 3) lv st n I P Q) : V G Y d kc ks pc lv (.inl y :: .inl x :: st) n I P Q := by
  intro p e R s m args below meth c H locs cells slots mc ms ls h
  have ry : rng y := ok_h h.2.2.2.1
  have rx : rng x := ok_h (ok_t h.2.2.2.1)
  have hh := h.st1 (ok_t (ok_t h.2.2.2.1))
  refine lv_icmp_gt h.1.1 h.1.2.1 hd ht (fun q => ?_) (fun q => ?_)
  · exact kt ((oI_lt ry rx).mp q) p e R s m args below meth c H locs cells slots mc ms ls hh
  · exact kf ((Int.not_lt.mp (fun z => q ((oI_lt ry rx).mpr z)))) p e R s m args below meth c H locs cells slots mc ms ls hh
theorem x_if_gt {x off : Int} {tgt : Nat} (hd : decode Y.2.1 pc = .ok (.ifCond .gt off, 3)) (ht : (pc : Int) + off = (tgt : Int) := by decide) (kt : 0 < x → V G Y d kc ks tgt lv st n I P Q) (kf : x ≤ 0 → V G Y d kc ks (pc + 3) lv st n I P Q) : V G Y d kc ks pc lv (.inl x :: st) n I P Q := by
  intro p e R s m args below meth c H locs cells slots mc ms ls h
  have ry : rng 0 := rng_0
  have rx : rng x := ok_h h.2.2.2.1
  have hh := h.st1 (ok_t h.2.2.2.1)
  refine lv_if_gt h.1.1 h.1.2.1 hd ht (fun q => ?_) (fun q => ?_)
  · exact kt ((oI_lt ry rx).mp q) p e R s m args below meth c H locs cells slots mc ms ls hh
  · exact kf ((Int.not_lt.mp (fun z => q ((oI_lt ry rx).mpr z)))) p e R s m args below meth c H locs cells slots mc ms ls hh
theorem x_icmp_le {x y off : Int} {tgt : Nat} (hd : decode Y.2.1 pc = .ok (.if_icmp .le off, 3)) (ht : (pc : Int) + off = (tgt : Int) := by decide) (kt : x ≤ y → V G Y d kc ks tgt lv st n I P Q) (kf : y < x → V G Y d kc ks (pc + 3) lv st n I P Q) : V G Y d kc ks pc lv (.inl y :: .inl x :: st) n I P Q := by
  intro p e R s m args below meth c H locs cells slots mc ms ls h
  have ry : rng y := ok_h h.2.2.2.1
  have rx : rng x := ok_h (ok_t h.2.2.2.1)
  have hh := h.st1 (ok_t (ok_t h.2.2.2.1))
  refine lv_icmp_le h.1.1 h.1.2.1 hd ht (fun q => ?_) (fun q => ?_)
  · exact kt ((oI_le rx ry).mp q) p e R s m args below meth c H locs cells slots mc ms ls hh
  · exact kf ((Int.not_le.mp (fun z => q ((oI_le rx ry).mpr z)))) p e R s m args below meth c H locs cells slots mc ms ls hh
theorem x_if_le {x off : Int} {tgt : Nat} (hd : decode Y.2.1 pc = .ok (.ifCond .le off, 3)) (ht : (pc : Int) + off = (tgt : Int) := by decide) (kt : x ≤ 0 → V G Y d kc ks tgt lv st n I P Q) (kf : 0 < x → V G Y d kc ks (pc + 3) lv st n I P Q) : V G Y d kc ks pc lv (.inl x :: st) n I P Q := by
  intro p e R s m args below meth c H locs cells slots mc ms ls h
  have ry : rng 0 := rng_0
  have rx : rng x := ok_h h.2.2.2.1
  have hh := h.st1 (ok_t h.2.2.2.1)
  refine lv_if_le h.1.1 h.1.2.1 hd ht (fun q => ?_) (fun q => ?_)
  · exact kt ((oI_le rx ry).mp q) p e R s m args below meth c H locs cells slots mc ms ls hh
  · exact kf ((Int.not_le.mp (fun z => q ((oI_le rx ry).mpr z)))) p e R s m args below meth c H locs cells slots mc ms ls hh
theorem x_tsw {x dflt lo hi : Int} {offs : Array Int} {len : Nat} (hd : decode Y.2.1 pc = .ok (.tableswitch dflt lo hi offs, len)) (ki : ∀ (j : Nat) (off : Int) (tgt : Nat), x = lo + j → offs[j]? = some off → (pc : Int) + off = (tgt : Int) → x ≤ hi → V G Y d kc ks tgt lv st n I P Q) (hlen : hi < lo + offs.size := by decide) (hin : ∀ j : Nat, j < offs.size → ∃ tgt : Nat, (pc : Int) + offs.getD j 0 = (tgt : Int) := by decide) {td : Nat} (htd : (pc : Int) + dflt = (td : Int) := by decide) (ko : x < lo ∨ hi < x → V G Y d kc ks td lv st n I P Q) : V G Y d kc ks pc lv (.inl x :: st) n I P Q := by
  intro p e R s m args below meth c H locs cells slots mc ms ls h
  have rx : rng x := ok_h h.2.2.2.1
  have hh := h.st1 (ok_t h.2.2.2.1)
  have ex : (oI x).toInt = x := oI_toInt rx
  by_cases hb : x < lo ∨ hi < x
  · refine lv_tableOut h.1.1 h.1.2.1 hd (by rw [ex]; exact hb) htd ?_
    exact ko hb p e R s m args below meth c H locs cells slots mc ms ls hh
  · have hl : (x - lo).toNat < offs.size := by omega
    obtain ⟨tgt, ht⟩ := hin _ hl
    have ho : offs[(x - lo).toNat]? = some (offs.getD (x - lo).toNat 0) := by
      rw [Array.getD_eq_getD_getElem?, Array.getElem?_eq_getElem hl]
      rfl
    refine lv_tableIn h.1.1 h.1.2.1 hd (by rw [ex]; omega) (by rw [ex]; omega) (by rw [ex]; exact ho) ht ?_
    exact ki _ _ tgt (by omega) ho ht (by omega) p e R s m args below meth c H locs cells slots mc ms ls hh
end VV
