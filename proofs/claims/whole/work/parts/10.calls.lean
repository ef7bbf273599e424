/-! ===== a method's end, a method's contract, its start, calls ===== -/
def qI (n : Nat) (f : Int → Mem → Ptr → Prop) : QT := fun o n' I P => n' = n ∧ ∃ r : Int, o = .inl (some (.inl r)) ∧ f r I P
def qL (n : Nat) (f : Int → Mem → Ptr → Prop) : QT := fun o n' I P => n' = n ∧ ∃ r : Int, o = .inl (some (.inr (.inr r))) ∧ f r I P
def qR (n : Nat) (f : Nat → Mem → Ptr → Prop) : QT := fun o n' I P => n' = n ∧ ∃ r : Nat, o = .inl (some (.inr (.inl r))) ∧ f r I P
def qV (f : Nat → Mem → Ptr → Prop) : QT := fun o n' I P => o = .inl none ∧ f n' I P
section VE
variable {G : HX} {Y : MI} {d kc ks pc : Nat} {lv : LV} {st : List AV} {n : Nat} {I : Mem} {P : Ptr} {Q : QT}
theorem x_iretq {x : Int} (hd : decode Y.2.1 pc = .ok (.ireturn, 1)) (hret : Y.2.2.2.1 = some .int) (hq : Q (.inl (some (.inl x))) n I P) : V G Y d kc ks pc lv [.inl x] n I P Q := by
  intro p e R s m args below meth c H locs cells slots mc ms ls h
  obtain ⟨hk, hb, hL, hS, hR, hSS, hbs⟩ := h
  refine W.widen (k := mc) (n := ms) (by omega) (by omega) ?_
  refine vx_ret ?_
  exact W.iret (v := oI x) hk.1 hk.2.1 (hk.2.2.1.trans hret) (fun t ht hW => ⟨some (.inl x), n, I, P, rfl, fun v hv => (by cases hv; exact ok_h hS), hq, by rw [ht]; exact hR, hSS.F ht⟩) hSS.2.2 hd hk.2.2.2.2.2.2.1
theorem x_zretq {x : Int} (hd : decode Y.2.1 pc = .ok (.ireturn, 1)) (hret : Y.2.2.2.1 = some .boolean) (hx : x = 0 ∨ x = 1) (hq : Q (.inl (some (.inl x))) n I P) : V G Y d kc ks pc lv [.inl x] n I P Q := by
  intro p e R s m args below meth c H locs cells slots mc ms ls h
  obtain ⟨hk, hb, hL, hS, hR, hSS, hbs⟩ := h
  refine W.widen (k := mc) (n := ms) (by omega) (by omega) ?_
  refine vx_ret ?_
  exact W.zret (v := oI x) hk.1 hk.2.1 (hk.2.2.1.trans hret) ((nw_i (Or.inr ⟨rfl, hx⟩)).1) (fun t ht hW => ⟨some (.inl x), n, I, P, rfl, fun v hv => (by cases hv; exact ok_h hS), hq, by rw [ht]; exact hR, hSS.F ht⟩) hSS.2.2 hd hk.2.2.2.2.2.2.1
theorem x_lretq {x : Int} (hd : decode Y.2.1 pc = .ok (.lreturn, 1)) (hret : Y.2.2.2.1 = some .long) (hq : Q (.inl (some (.inr (.inr x)))) n I P) : V G Y d kc ks pc lv [.inr (.inr x)] n I P Q := by
  intro p e R s m args below meth c H locs cells slots mc ms ls h
  obtain ⟨hk, hb, hL, hS, hR, hSS, hbs⟩ := h
  refine W.widen (k := mc) (n := ms) (by omega) (by omega) ?_
  refine vx_ret ?_
  exact W.lret (v := oL x) hk.1 hk.2.1 (hk.2.2.1.trans hret) (fun t ht hW => ⟨some (.inr (.inr x)), n, I, P, rfl, fun v hv => (by cases hv; exact ok_h hS), hq, by rw [ht]; exact hR, hSS.F ht⟩) hSS.2.2 hd hk.2.2.2.2.2.2.1
theorem x_aretq {x : Nat} (hx : x ≠ 0) (hd : decode Y.2.1 pc = .ok (.areturn, 1)) {C : String} (hret : Y.2.2.2.1 = some (.object C)) (hq : Q (.inl (some (.inr (.inl x)))) n I P) : V G Y d kc ks pc lv [.inr (.inl x)] n I P Q := by
  intro p e R s m args below meth c H locs cells slots mc ms ls h
  obtain ⟨hk, hb, hL, hS, hR, hSS, hbs⟩ := h
  refine W.widen (k := mc) (n := ms) (by omega) (by omega) ?_
  refine vx_ret ?_
  have ea : conc G.1 (.inr (.inl x)) = .ref (adr G.1 x) := rvl_pos hx
  exact W.aret (v := conc G.1 (.inr (.inl x))) hk.1 hk.2.1 (hk.2.2.1.trans hret) (Or.inl ⟨_, rfl⟩) (Or.inr ⟨_, ea⟩) (fun t ht hW => ⟨some (.inr (.inl x)), n, I, P, rfl, fun v hv => (by cases hv; trivial), hq, by rw [ht]; exact hR, hSS.F ht⟩) hSS.2.2 hd hk.2.2.2.2.2.2.1
theorem x_vretq (hd : decode Y.2.1 pc = .ok (.return_, 1)) (hret : Y.2.2.2.1 = none) (hq : Q (.inl none) n I P) : V G Y d kc ks pc lv [] n I P Q := by
  intro p e R s m args below meth c H locs cells slots mc ms ls h
  obtain ⟨hk, hb, hL, hS, hR, hSS, hbs⟩ := h
  refine W.widen (k := mc) (n := ms) (by omega) (by omega) ?_
  refine vx_ret ?_
  exact W.vret hk.1 hk.2.1 (hk.2.2.1.trans hret) (fun t ht hW => ⟨none, n, I, P, rfl, fun v hv => (by cases hv), hq, by rw [ht]; exact hR, hSS.F ht⟩) hSS.2.2 hd hk.2.2.2.2.2.2.1
theorem x_iret {x : Int} {f : Int → Mem → Ptr → Prop} (hd : decode Y.2.1 pc = .ok (.ireturn, 1)) (hret : Y.2.2.2.1 = some .int := by rfl) (hq : f x I P) : V G Y d kc ks pc lv [.inl x] n I P (qI n f) := x_iretq hd hret ⟨rfl, x, rfl, hq⟩
theorem x_zret {x : Int} {f : Int → Mem → Ptr → Prop} (hd : decode Y.2.1 pc = .ok (.ireturn, 1)) (hx : x = 0 ∨ x = 1) (hret : Y.2.2.2.1 = some .boolean := by rfl) (hq : f x I P) : V G Y d kc ks pc lv [.inl x] n I P (qI n f) := x_zretq hd hret hx ⟨rfl, x, rfl, hq⟩
theorem x_lret {x : Int} {f : Int → Mem → Ptr → Prop} (hd : decode Y.2.1 pc = .ok (.lreturn, 1)) (hret : Y.2.2.2.1 = some .long := by rfl) (hq : f x I P) : V G Y d kc ks pc lv [.inr (.inr x)] n I P (qL n f) := x_lretq hd hret ⟨rfl, x, rfl, hq⟩
theorem x_vret {f : Nat → Mem → Ptr → Prop} (hd : decode Y.2.1 pc = .ok (.return_, 1)) (hret : Y.2.2.2.1 = none := by rfl) (hq : f n I P) : V G Y d kc ks pc lv [] n I P (qV f) := x_vretq hd hret ⟨rfl, hq⟩
end VE
abbrev rmO (d kc ks : Nat) : Room := { frames := d, cells := kc, slots := ks, locals := 80 * d }
def PcO (G : HX) (args : List AV) (n : Nat) (I : Mem) (P : Ptr) : Array Value → State → Prop := va_Pc (args.map (conc G.1)) (fun U => Rp G.1 n I P U.heap ∧ SE G.1 G.2 U U.heap ∧ ∀ v ∈ args, avOK v)
/-- a method's contract: from this memory it comes to its end with Q -/
def Cv (G : HX) (Y : MI) (d kc ks : Nat) (args : List AV) (n : Nat) (I : Mem) (P : Ptr) (Q : QT) : Prop :=
  vx_Met G.1.l Y.1 (wcd Y :: TW) (rmO d kc ks) (PcO G args n I P) (QR G Q) (XR G Q) kc ks (AA G.1)
theorem PcO_blind {G : HX} {args : List AV} {n : Nat} {I : Mem} {P : Ptr} : FrameBlind (PcO G args n I P) := fun a U g mk h => ⟨h.1, h.2.1, h.2.2.1.same rfl, h.2.2.2⟩
theorem Cv.imp {G : HX} {Y : MI} {d kc ks : Nat} {args : List AV} {n : Nat} {I : Mem} {P : Ptr} {Q Q' : QT} (h : Cv G Y d kc ks args n I P Q) (hQ : ∀ o n' I' P', Q o n' I' P' → Q' o n' I' P') : Cv G Y d kc ks args n I P Q' := by
  refine MetFree.mono h (fun _ _ q => q) (fun _ _ _ _ _ q => q) (fun a s o t _ q => ?_)
  rcases q with ⟨⟨r, n', I', P', h1, h2, h3, h4, h5⟩, h6⟩ | ⟨q, h1, E, ce, L, ⟨n', I', P', h3, h4, h5⟩, h6⟩
  · exact Or.inl ⟨⟨r, n', I', P', h1, h2, hQ _ _ _ _ h3, h4, h5⟩, h6⟩
  · exact Or.inr ⟨q, h1, E, ce, L, ⟨n', I', P', hQ _ _ _ _ h3, h4, h5⟩, h6⟩
theorem Cv.met {G : HX} {Y : MI} {d kc ks : Nat} {args : List AV} {n : Nat} {I : Mem} {P : Ptr} {Q : QT} (h : Cv G Y d kc ks args n I P Q) (hn : ∀ E n' I' P', ¬ Q (.inr E) n' I' P') : Met G.1.l Y.1 (wcd Y :: TW) (rmO d kc ks) (PcO G args n I P) (QR G Q) kc ks (AA G.1) := by
  refine MetFree.mono h (fun _ _ q => q) (fun _ _ _ _ _ q => q) (fun a s o t _ q => ?_)
  rcases q with q | ⟨q, h1, E, ce, L, ⟨n', I', P', h3, -⟩, -⟩
  · exact q
  · exact absurd h3 (hn _ _ _ _)
-- a method's start
def nlA : List AV → Bool
  | [] => true
  | .inr (.inr _) :: _ => false
  | _ :: r => nlA r
theorem lk_rep : ∀ {k i : Nat} {v : AV}, lk (List.replicate k none) i ≠ some v
  | 0, _, _ => fun h => by cases h
  | k + 1, 0, _ => fun h => by cases h
  | k + 1, i + 1, v => fun h => lk_rep (k := k) (i := i) (v := v) h
theorem lk_ent : ∀ {as : List AV} {k i : Nat} {v : AV}, lk (as.map some ++ List.replicate k none) i = some v → as[i]? = some v
  | [], k, i, v, h => absurd h (lk_rep (k := k))
  | a :: r, k, 0, v, h => by
    have : some a = some v := h
    exact this
  | a :: r, k, i + 1, v, h => lk_ent (as := r) (k := k) (i := i) (v := v) h
theorem args_mem {G : CX} : ∀ {as : List AV} {k i : Nat} {v : AV}, nlA as = true → as[i]? = some v → (k + i, conc G v) ∈ lv_args k (as.map (conc G))
  | [], k, i, v, _, h => by cases h
  | a :: r, k, 0, v, hn, h => by
    cases h
    exact List.mem_cons_self
  | a :: r, k, i + 1, v, hn, h => by
    have hc : ¬ (conc G a).category = 2 := by
      rw [conc_cat]
      rcases a with x | x | x
      · show ¬ (1 : Nat) = 2
        decide
      · show ¬ (1 : Nat) = 2
        decide
      · cases hn
    have hr : nlA r = true := by
      rcases a with x | x | x
      · exact hn
      · exact hn
      · cases hn
    have := args_mem (G := G) (as := r) (k := k + 1) (i := i) (v := v) hr h
    show _ ∈ (k, conc G a) :: lv_args (if (conc G a).category = 2 then k + 2 else k + 1) (r.map (conc G))
    rw [if_neg hc, show k + (i + 1) = k + 1 + i by omega]
    exact List.mem_cons_of_mem _ this
theorem sl_len {G : CX} : ∀ {as : List AV}, nlA as = true → (lg_sl (as.map (conc G))).length = as.length
  | [], _ => rfl
  | a :: r, hn => by
    have hc : ¬ (conc G a).category = 2 := by
      rw [conc_cat]
      rcases a with x | x | x
      · show ¬ (1 : Nat) = 2
        decide
      · show ¬ (1 : Nat) = 2
        decide
      · cases hn
    have hr : nlA r = true := by
      rcases a with x | x | x
      · exact hn
      · exact hn
      · cases hn
    have := sl_len (G := G) (as := r) hr
    unfold lg_sl at this ⊢
    rw [List.map_cons, List.flatMap_cons, List.length_append, this, if_neg hc]
    simp [Nat.add_comm]
theorem VL.entry {G : CX} {as : List AV} {nL : Nat} (hn : nlA as = true) (hl : as.length ≤ nL) (hok : ∀ v ∈ as, avOK v) : VL G nL (as.map some ++ List.replicate (nL - as.length) none) ((lg_sl (as.map (conc G)) ++ List.replicate (nL - (lg_sl (as.map (conc G))).length) Slot.unset).toArray) := by
  have h1 := lv_entry (as.map (conc G)) (n := nL) (by rw [sl_len hn]; exact hl)
  refine ⟨by simp; omega, ⟨h1.1, h1.2.1, fun q hq => by cases hq⟩, fun i v hk => ?_⟩
  have h2 := lk_ent hk
  have h3 := args_mem (G := G) (k := 0) hn h2
  rw [Nat.zero_add] at h3
  exact ⟨h1.2.2 _ h3, hok v (List.mem_of_getElem? h2)⟩
theorem x_enter {G : HX} {Y : MI} {d kc ks na : Nat} {as : List AV} {n : Nat} {I : Mem} {P : Ptr} {Q : QT} (hm : MF Y na) (hn : nlA as = true) (hl : as.length ≤ Y.2.2.1)
    (k : (∀ v ∈ as, avOK v) → V G Y d kc ks 0 (as.map some ++ List.replicate (Y.2.2.1 - as.length) none) [] n I P Q) : Cv G Y d kc ks as n I P Q := by
  have main : ∀ (p : Program) (e : Env) (s : State) (m : MethodId) (args : Array Value) (below : List Frame) (meth : Method) (c : Code) (s₁ : State), BodyLoose p G.1.l Y.1 (headSpec (wcd Y :: TW) (rmO d kc ks)) Y.2.1 Y.2.2.1 Y.2.2.2.1 e s m args below meth c s₁ → c.maxLocals = Y.2.2.1 → c.exceptionTable.toList = tableOf Y.2.2.2.2 → PcO G as n I P args s →
      W p G.1.l e (headSpec (wcd Y :: TW) (rmO d kc ks)).room s m args below meth c s.heap [] 0 0 (vx_MQ below (QR G Q) (XR G Q) args s kc ks (AA G.1)) (entryFrame m args Y.2.2.1) := by
    intro p e s m args below meth c s₁ B hml htb hP
    obtain ⟨rfl, hR, hE, hok⟩ := hP
    have hts := atoms_spec (ws := wcd Y :: TW) B.pre
    rw [lg_entry_eq]
    refine k hok p e (rmO d kc ks) s m _ below meth c s.heap [] 0 0 kc ks _ ⟨⟨B.exec, B.bytes, B.returns, hml, fun w hw => hts w (List.mem_cons_of_mem _ hw), findClass_of_methodNamed B.named, B.notSynchronized, htb, (name_of_methodNamed B.named B.method).1, Nat.le_refl _, Nat.le_refl _, hE⟩, ⟨by omega, by omega, Nat.le_refl _, Nat.le_refl _⟩, VL.entry hn hl hok, fun v hv => (by cases hv), hR, va_S.rf, ?_⟩
    have := hR.2.2.2.1
    omega
  by_cases hh : Y.2.2.2.2 = []
  · have hw : wcd Y = Cond.code Y.1 Y.2.1 Y.2.2.1 Y.2.2.2.1 := if_pos hh
    refine vx_ofW (cc := Y.2.1) (maxL := Y.2.2.1) (ret := Y.2.2.2.1) (ws' := TW) hm.2.2.2.2.2 (by rw [hw]) ?_
    intro p e s m args below meth c s₁ B hml hx hP
    refine main p e s m args below meth c s₁ B hml ?_ hP
    rw [hh]
    cases hq : c.exceptionTable.toList with
    | nil => rfl
    | cons x r => exact absurd (List.mem_cons_self (a := x) (l := r)) (by rw [← hq]; exact fun z => hx _ z)
  · have hw : wcd Y = Cond.codeWith Y.1 Y.2.1 Y.2.2.1 Y.2.2.2.1 Y.2.2.2.2 := if_neg hh
    refine vx_ofWH (cc := Y.2.1) (maxL := Y.2.2.1) (ret := Y.2.2.2.1) (hh := Y.2.2.2.2) (ws' := TW) hm.2.2.2.2.2 (by rw [hw]) ?_
    intro p e s m args below meth c s₁ B hml hP
    refine main p e s m args below meth c s₁ B hml ?_ hP
    have hts := atoms_spec (ws := wcd Y :: TW) B.pre
    exact vx_table (x := Y.1) B (hw ▸ hts _ List.mem_cons_self)
-- calls
section VC
variable {G : HX} {Y : MI} {d kc ks pc : Nat} {lv : LV} {st : List AV} {n : Nat} {I : Mem} {P : Ptr} {Q : QT}
def catA : List AV → Nat
  | [] => 0
  | .inr (.inr _) :: r => 2 + catA r
  | _ :: r => 1 + catA r
theorem catA_sum {G : CX} : ∀ (st : List AV), ((st.map (conc G)).map fun v => v.category).sum = catA st
  | [] => rfl
  | a :: r => by
    have := catA_sum (G := G) r
    rw [List.map_cons, List.map_cons, List.sum_cons, this, conc_cat]
    rcases a with x | x | x <;> rfl
/-- behind a call that came back -/
theorem go_after {Q2 : QT} {p : Program} {e : Env} {R : Room} {s : State} {m : MethodId} {args : Array Value} {below : List Frame} {meth : Method} {c : Code} {H : Heap} {locs : List Loc} {cells slots kc2 ks2 : Nat} {ls : Array Slot} {st0 rest : List Value} {a : Array Value} {F : State → Prop}
    (hr : va_Run p G.1.l e R s m args below meth c H locs cells slots kc2 ks2 (F0 m pc ls st0) rest (QR G Q2 a) (AA G.1)) (hSS : va_S (AA G.1) s.heap H locs)
    (kk : ∀ (r : Option AV) (n' : Nat) (I' : Mem) (P' : Ptr) (H1 : Heap) (locs1 : List Loc), Q2 (.inl r) n' I' P' → (∀ v, r = some v → avOK v) → Rp G.1 n' I' P' H1 → va_S (AA G.1) s.heap H1 locs1 → W p G.1.l e R s m args below meth c H1 locs1 (cells + kc2) (slots + ks2) F (F0 m (pc + 3) ls ((r.map (conc G.1)).toList ++ rest))) :
    W p G.1.l e R s m args below meth c H locs cells slots F (F0 m pc ls st0) := by
  intro T hT X
  obtain ⟨v, st₀, t, T', L, h0, X', hL, e1, e2, ⟨r, n', I', P', hv, hok, hq, hR, hF⟩, st⟩ := hr T hT X
  cases hv
  have hF1 := hF.1
  have hF2 := hF.2
  rw [h0] at hF1 hF2
  obtain ⟨t2, a1, b1⟩ := kk r n' I' P' T'.heap (locs ++ L) hq hok (by rw [e1]; exact hR)
    ⟨Nat.le_trans hSS.1 (by rw [e1]; exact hF1), fun q h1 h2 => by rw [e1, hF2 q (Nat.lt_of_lt_of_le h1 hSS.1) h2]; exact hSS.2.1 q h1 h2, fun q hq => by
      rcases List.mem_append.mp hq with h | h
      · exact hSS.2.2 q h
      · exact hL q h⟩ T' rfl X'
  exact ⟨t2, st t2 a1, b1⟩
theorem opt_st {r : Option AV} {st : List AV} {G : CX} : (r.map (conc G)).toList ++ st.map (conc G) = (r.toList ++ st).map (conc G) := by cases r <;> rfl
theorem ok_opt {r : Option AV} {st : List AV} (h : ∀ v, r = some v → avOK v) (hs : ∀ v ∈ st, avOK v) : ∀ v ∈ r.toList ++ st, avOK v := by
  cases r with
  | none => exact hs
  | some x => exact ok_c (h x rfl) hs
theorem pc_at {as : List AV} {s U : State} {H : Heap} {locs : List Loc} (hR : Rp G.1 n I P H) (hE : SE G.1 G.2 s s.heap) (hSS : va_S (AA G.1) s.heap H locs) (hok : ∀ v ∈ as, avOK v) (hU : U.heap = H) (hW : s.WarmedH U.vm) : PcO G as n I P (as.map (conc G.1)).toArray U :=
  ⟨rfl, by rw [hU]; exact hR, hE.go hW (fun a h1 h2 => by rw [hU]; exact hSS.2.1 a h1 h2), hok⟩
theorem b_call {R : Room} {s : State} {args : Array Value} {Y2 : MI} {na d2 kc2 ks2 idx : Nat} {own : String} (hts : ∀ w ∈ TW, w.before args s = true) (hm : MF Y2 na) (hh : Y2.2.2.2.2 = []) (hl : Cond.methodLink own idx Y2.1 ∈ TW) (hd : d2 + 1 ≤ R.frames) (hl2 : 80 * (d2 + 1) ≤ R.locals) : CallB R s args own idx Y2.1 Y2.2.1 Y2.2.2.1 Y2.2.2.2.1 (wcd Y2 :: TW) (rmO d2 kc2 ks2) kc2 ks2 na := by
  have hw : wcd Y2 = Cond.code Y2.1 Y2.2.1 Y2.2.2.1 Y2.2.2.2.1 := if_pos hh
  refine ⟨rfl, rfl, hd, ?_, fun w hw a' U hW => ?_, by rw [hw]; exact List.mem_cons_self, hw ▸ hts _ hm.1, hts _ hm.2.1, hm.2.2.1, fun sig h => ?_, hts _ hl⟩
  · have := hm.2.2.2.2.1
    show 8 + (Y2.2.2.1 + 11) + 80 * d2 ≤ R.locals
    omega
  · rcases List.mem_cons.mp hw with rfl | hw
    · exact word_at hW (good_of_word (tw_good hm.1)) (hts _ hm.1)
    · exact word_at hW (good_of_word (tw_good hw)) (hts _ hw)
  · have h2 := hm.2.2.2.1
    rw [h] at h2
    exact (Option.some.inj h2).symm
theorem x_callV {idx ci b na kc2 ks2 : Nat} {Y2 : MI} {as stk : List AV} {Q2 : QT} (hC : Cv G Y2 d kc2 ks2 (.inr (.inl b) :: as) n I P Q2) (hd : decode Y.2.1 pc = .ok (.invokevirtual idx, 3)) (hl : LV1 Y.1.cls idx Y2) (hm : MF Y2 na) (hc : CF ci) (hA : AT n b ci) (hnx : ∀ E n' I' P', ¬ Q2 (.inr E) n' I' P')
    (hcl : (cT ci).1 = Y2.1.cls := by rfl) (hn : as.length = na := by rfl) (hh : Y2.2.2.2.2 = [] := by rfl) (hs : stk = as.reverse ++ .inr (.inl b) :: st := by rfl) (hcat : catA st ≤ 8 := by decide)
    (kk : ∀ r n' I' P', Q2 (.inl r) n' I' P' → (∀ v, r = some v → avOK v) → V G Y (d + 1) kc ks (pc + 3) lv (r.toList ++ st) n' I' P' Q) : V G Y (d + 1) (kc2 + kc) (ks2 + ks) pc lv stk n I P Q := by
  subst hs
  intro p e R s m args below meth c H locs cells slots mc ms ls h
  obtain ⟨hk, hb, hL, hS, hR, hSS, hbs⟩ := h
  have ea : conc G.1 (.inr (.inl b)) = .ref (adr G.1 b) := rvl_pos hA.ne0
  have hts := hk.2.2.2.2.1
  have hSt : ∀ v ∈ st, avOK v := fun v hv => hS v (List.mem_append_right _ (List.mem_cons_of_mem _ hv))
  have hSa : ∀ v ∈ (.inr (.inl b) :: as : List AV), avOK v := ok_c trivial (fun v hv => hS v (List.mem_append_left _ (List.mem_reverse.mpr hv)))
  have h1 := rp_at hR hA.2.1 hA.2.2
  rw [ent_ob hA.1 hc.lt] at h1
  have hKK := hk.2.2.2.2.2.2.2.2.2.2.2.2.1
  have hrv := va_recv hKK hR.1 hc.at h1
  rw [show ((cT ci).1, (cT ci).2.1, (cT ci).2.2).1 = (cT ci).1 from rfl, hcl] at hrv
  have hM := hC.met hnx
  have hrun := va_runV (e := e) (below := below) (meth := meth) (locs := locs) (C := Y2.1.cls) (rest := st.map (conc G.1)) (g := F0 m pc ls ((as.reverse ++ .inr (.inl b) :: st).map (conc G.1))) ⟨hk.1, hk.2.1, hk.2.2.2.1, hk.2.2.2.2.2.1, hts⟩ hM ⟨b_call hts hm hh hl.1 hk.2.2.2.2.2.2.2.2.2.1 hk.2.2.2.2.2.2.2.2.2.2.1, hts _ hl.2.1, hts _ hl.2.2⟩
    (b := adr G.1 b) (As := as.map (conc G.1)) ⟨PcO_blind, hrv, fun U hU hW => ?_⟩ rfl (by rw [List.length_map]; exact hn) hL.sz ?_ (lv_room (by rw [catA_sum]; exact hcat)) hd ⟨(by omega : cells + kc2 ≤ R.cells), (by omega : slots + ks2 ≤ R.slots)⟩
  · refine go_after hrun hSS (fun r n' I' P' H1 locs1 hq hok hR1 hS1 => ?_)
    rw [opt_st]
    exact kk r n' I' P' hq hok p e R s m args below meth c H1 locs1 (cells + kc2) (slots + ks2) mc ms ls ⟨hk, ⟨by omega, by omega, hb.2.2⟩, hL, ok_opt hok hSt, hR1, hS1, hbs⟩
  · have := pc_at (as := .inr (.inl b) :: as) hR hk.2.2.2.2.2.2.2.2.2.2.2 hSS hSa hU hW
    rw [List.map_cons, ea] at this
    exact this
  · simp [ea]
theorem x_callS {idx na kc2 ks2 : Nat} {Y2 : MI} {as stk : List AV} {Q2 : QT} (hC : Cv G Y2 d kc2 ks2 as n I P Q2) (hd : decode Y.2.1 pc = .ok (.invokestatic idx, 3)) (hl : LS1 Y.1.cls idx Y2) (hm : MF Y2 na) (hnx : ∀ E n' I' P', ¬ Q2 (.inr E) n' I' P')
    (hn : as.length = na := by rfl) (hh : Y2.2.2.2.2 = [] := by rfl) (hs : stk = as.reverse ++ st := by rfl) (hcat : catA st ≤ 8 := by decide)
    (kk : ∀ r n' I' P', Q2 (.inl r) n' I' P' → (∀ v, r = some v → avOK v) → V G Y (d + 1) kc ks (pc + 3) lv (r.toList ++ st) n' I' P' Q) : V G Y (d + 1) (kc2 + kc) (ks2 + ks) pc lv stk n I P Q := by
  subst hs
  intro p e R s m args below meth c H locs cells slots mc ms ls h
  obtain ⟨hk, hb, hL, hS, hR, hSS, hbs⟩ := h
  have hts := hk.2.2.2.2.1
  have hSt : ∀ v ∈ st, avOK v := fun v hv => hS v (List.mem_append_right _ hv)
  have hSa : ∀ v ∈ as, avOK v := fun v hv => hS v (List.mem_append_left _ (List.mem_reverse.mpr hv))
  have hM := hC.met hnx
  have hrun := va_runS (e := e) (below := below) (meth := meth) (locs := locs) (rest := st.map (conc G.1)) (g := F0 m pc ls ((as.reverse ++ st).map (conc G.1))) ⟨hk.1, hk.2.1, hk.2.2.2.1, hk.2.2.2.2.2.1, hts⟩ hM ⟨b_call hts hm hh hl.1 hk.2.2.2.2.2.2.2.2.2.1 hk.2.2.2.2.2.2.2.2.2.2.1, hts _ hl.2⟩
    (As := as.map (conc G.1)) ⟨PcO_blind, fun U hU hW => pc_at hR hk.2.2.2.2.2.2.2.2.2.2.2 hSS hSa hU hW⟩ rfl (by rw [List.length_map]; exact hn) hL.sz (by simp) (lv_room (by rw [catA_sum]; exact hcat)) hd ⟨(by omega : cells + kc2 ≤ R.cells), (by omega : slots + ks2 ≤ R.slots)⟩
  refine go_after hrun hSS (fun r n' I' P' H1 locs1 hq hok hR1 hS1 => ?_)
  rw [opt_st]
  exact kk r n' I' P' hq hok p e R s m args below meth c H1 locs1 (cells + kc2) (slots + ks2) mc ms ls ⟨hk, ⟨by omega, by omega, hb.2.2⟩, hL, ok_opt hok hSt, hR1, hS1, hbs⟩
/-- a static call of a method with a table of handlers -/
theorem x_callSW {idx na kc2 ks2 : Nat} {Y2 : MI} {as stk : List AV} {Q2 : QT} (hC : Cv G Y2 d kc2 ks2 as n I P Q2) (hd : decode Y.2.1 pc = .ok (.invokestatic idx, 3)) (hl : LS1 Y.1.cls idx Y2) (hm : MF Y2 na) (hnx : ∀ E n' I' P', ¬ Q2 (.inr E) n' I' P')
    (hn : as.length = na := by rfl) (hh : Y2.2.2.2.2 ≠ [] := by exact fun h => by cases h) (hs : stk = as.reverse ++ st := by rfl) (hcat : catA st ≤ 8 := by decide)
    (kk : ∀ r n' I' P', Q2 (.inl r) n' I' P' → (∀ v, r = some v → avOK v) → V G Y (d + 1) kc ks (pc + 3) lv (r.toList ++ st) n' I' P' Q) : V G Y (d + 1) (kc2 + kc) (ks2 + ks) pc lv stk n I P Q := by
  subst hs
  intro p e R s m args below meth c H locs cells slots mc ms ls h
  obtain ⟨hk, hb, hL, hS, hR, hSS, hbs⟩ := h
  have hts := hk.2.2.2.2.1
  have hSt : ∀ v ∈ st, avOK v := fun v hv => hS v (List.mem_append_right _ hv)
  have hSa : ∀ v ∈ as, avOK v := fun v hv => hS v (List.mem_append_left _ (List.mem_reverse.mpr hv))
  have hM := hC.met hnx
  have hw : wcd Y2 = Cond.codeWith Y2.1 Y2.2.1 Y2.2.2.1 Y2.2.2.2.1 Y2.2.2.2.2 := if_neg hh
  have hrun := vx_runSW (e := e) (below := below) (meth := meth) (locs := locs) (hh := Y2.2.2.2.2) (bytes := Y2.2.1) (maxL := Y2.2.2.1) (ret := Y2.2.2.2.1) (index := idx) (n := na) (rest := st.map (conc G.1)) (g := F0 m pc ls ((as.reverse ++ st).map (conc G.1))) (own := Y.1.cls) ⟨hk.1, hk.2.1, hk.2.2.2.1, hk.2.2.2.2.2.1, hts⟩ hM
    ⟨⟨rfl, rfl, hk.2.2.2.2.2.2.2.2.2.1, by have := hm.2.2.2.2.1; have := hk.2.2.2.2.2.2.2.2.2.2.1; show 8 + (Y2.2.2.1 + 11) + 80 * d ≤ R.locals; omega, fun w hw a' U hW => (List.mem_cons.mp hw).elim (fun q => by subst q; exact word_at hW (good_of_word (tw_good hm.1)) (hts _ hm.1)) (fun q => word_at hW (good_of_word (tw_good q)) (hts _ q)), by rw [hw]; exact List.mem_cons_self⟩, hw ▸ hts _ hm.1, hts _ hm.2.1, hm.2.2.1, fun sig h => by
      have h2 := hm.2.2.2.1
      rw [h] at h2
      exact (Option.some.inj h2).symm, hts _ hl.1, hts _ hl.2⟩
    (As := as.map (conc G.1)) ⟨PcO_blind, fun U hU hW => pc_at hR hk.2.2.2.2.2.2.2.2.2.2.2 hSS hSa hU hW⟩ rfl (by rw [List.length_map]; exact hn) hL.sz (by simp) (lv_room (by rw [catA_sum]; exact hcat)) hd ⟨(by omega : cells + kc2 ≤ R.cells), (by omega : slots + ks2 ≤ R.slots)⟩
  refine go_after hrun hSS (fun r n' I' P' H1 locs1 hq hok hR1 hS1 => ?_)
  rw [opt_st]
  exact kk r n' I' P' hq hok p e R s m args below meth c H1 locs1 (cells + kc2) (slots + ks2) mc ms ls ⟨hk, ⟨by omega, by omega, hb.2.2⟩, hL, ok_opt hok hSt, hR1, hS1, hbs⟩
theorem nx_I {n : Nat} {f : Int → Mem → Ptr → Prop} : ∀ E n' I' P', ¬ qI n f (.inr E) n' I' P' := fun _ _ _ _ h => by obtain ⟨-, r, h, -⟩ := h; cases h
theorem nx_L {n : Nat} {f : Int → Mem → Ptr → Prop} : ∀ E n' I' P', ¬ qL n f (.inr E) n' I' P' := fun _ _ _ _ h => by obtain ⟨-, r, h, -⟩ := h; cases h
theorem nx_R {n : Nat} {f : Nat → Mem → Ptr → Prop} : ∀ E n' I' P', ¬ qR n f (.inr E) n' I' P' := fun _ _ _ _ h => by obtain ⟨-, r, h, -⟩ := h; cases h
theorem nx_V {f : Nat → Mem → Ptr → Prop} : ∀ E n' I' P', ¬ qV f (.inr E) n' I' P' := fun _ _ _ _ h => by obtain ⟨h, -⟩ := h; cases h
theorem x_callVI {ci b : Nat} {idx na : Nat} {Y2 : MI} {as stk : List AV} {f : Int → Mem → Ptr → Prop} (hC : Cv G Y2 d 0 0 (.inr (.inl b) :: as) n I P (qI n f)) (hd : decode Y.2.1 pc = .ok (.invokevirtual idx, 3)) (hl : LV1 Y.1.cls idx Y2) (hm : MF Y2 na) (hc : CF ci) (hA : AT n b ci) (hcl : (cT ci).1 = Y2.1.cls := by rfl) (hn : as.length = na := by rfl) (hh : Y2.2.2.2.2 = [] := by rfl) (hs : stk = as.reverse ++ .inr (.inl b) :: st := by rfl) (hcat : catA st ≤ 8 := by decide) (kk : ∀ r I2 P2, rng r → f r I2 P2 → V G Y (d + 1) kc ks (pc + 3) lv (.inl r :: st) n I2 P2 Q) : V G Y (d + 1) kc ks pc lv stk n I P Q := by
  have := x_callV (kc := kc) (ks := ks) hC hd hl hm hc hA nx_I hcl hn hh hs hcat (fun r n2 I2 P2 hq hok => by obtain ⟨e1, x, hx, hf⟩ := hq; cases hx; rw [e1]; exact kk x I2 P2 (hok _ rfl) hf)
  rwa [Nat.zero_add, Nat.zero_add] at this
theorem x_callVL {ci b : Nat} {idx na : Nat} {Y2 : MI} {as stk : List AV} {f : Int → Mem → Ptr → Prop} (hC : Cv G Y2 d 0 0 (.inr (.inl b) :: as) n I P (qL n f)) (hd : decode Y.2.1 pc = .ok (.invokevirtual idx, 3)) (hl : LV1 Y.1.cls idx Y2) (hm : MF Y2 na) (hc : CF ci) (hA : AT n b ci) (hcl : (cT ci).1 = Y2.1.cls := by rfl) (hn : as.length = na := by rfl) (hh : Y2.2.2.2.2 = [] := by rfl) (hs : stk = as.reverse ++ .inr (.inl b) :: st := by rfl) (hcat : catA st ≤ 8 := by decide) (kk : ∀ r I2 P2, rng64 r → f r I2 P2 → V G Y (d + 1) kc ks (pc + 3) lv (.inr (.inr r) :: st) n I2 P2 Q) : V G Y (d + 1) kc ks pc lv stk n I P Q := by
  have := x_callV (kc := kc) (ks := ks) hC hd hl hm hc hA nx_L hcl hn hh hs hcat (fun r n2 I2 P2 hq hok => by obtain ⟨e1, x, hx, hf⟩ := hq; cases hx; rw [e1]; exact kk x I2 P2 (hok _ rfl) hf)
  rwa [Nat.zero_add, Nat.zero_add] at this
theorem x_callVR {ci b : Nat} {idx na : Nat} {Y2 : MI} {as stk : List AV} {f : Nat → Mem → Ptr → Prop} (hC : Cv G Y2 d 0 0 (.inr (.inl b) :: as) n I P (qR n f)) (hd : decode Y.2.1 pc = .ok (.invokevirtual idx, 3)) (hl : LV1 Y.1.cls idx Y2) (hm : MF Y2 na) (hc : CF ci) (hA : AT n b ci) (hcl : (cT ci).1 = Y2.1.cls := by rfl) (hn : as.length = na := by rfl) (hh : Y2.2.2.2.2 = [] := by rfl) (hs : stk = as.reverse ++ .inr (.inl b) :: st := by rfl) (hcat : catA st ≤ 8 := by decide) (kk : ∀ r I2 P2, f r I2 P2 → V G Y (d + 1) kc ks (pc + 3) lv (.inr (.inl r) :: st) n I2 P2 Q) : V G Y (d + 1) kc ks pc lv stk n I P Q := by
  have := x_callV (kc := kc) (ks := ks) hC hd hl hm hc hA nx_R hcl hn hh hs hcat (fun r n2 I2 P2 hq hok => by obtain ⟨e1, x, hx, hf⟩ := hq; cases hx; rw [e1]; exact kk x I2 P2 hf)
  rwa [Nat.zero_add, Nat.zero_add] at this
theorem x_callVV {ci b : Nat} {idx na : Nat} {Y2 : MI} {as stk : List AV} {f : Nat → Mem → Ptr → Prop} (hC : Cv G Y2 d 0 0 (.inr (.inl b) :: as) n I P (qV f)) (hd : decode Y.2.1 pc = .ok (.invokevirtual idx, 3)) (hl : LV1 Y.1.cls idx Y2) (hm : MF Y2 na) (hc : CF ci) (hA : AT n b ci) (hcl : (cT ci).1 = Y2.1.cls := by rfl) (hn : as.length = na := by rfl) (hh : Y2.2.2.2.2 = [] := by rfl) (hs : stk = as.reverse ++ .inr (.inl b) :: st := by rfl) (hcat : catA st ≤ 8 := by decide) (kk : ∀ n2 I2 P2, f n2 I2 P2 → V G Y (d + 1) kc ks (pc + 3) lv st n2 I2 P2 Q) : V G Y (d + 1) kc ks pc lv stk n I P Q := by
  have := x_callV (kc := kc) (ks := ks) hC hd hl hm hc hA nx_V hcl hn hh hs hcat (fun r n2 I2 P2 hq hok => by obtain ⟨hx, hf⟩ := hq; cases hx; exact kk n2 I2 P2 hf)
  rwa [Nat.zero_add, Nat.zero_add] at this
theorem x_callSI {idx na : Nat} {Y2 : MI} {as stk : List AV} {f : Int → Mem → Ptr → Prop} (hC : Cv G Y2 d 0 0 as n I P (qI n f)) (hd : decode Y.2.1 pc = .ok (.invokestatic idx, 3)) (hl : LS1 Y.1.cls idx Y2) (hm : MF Y2 na) (hn : as.length = na := by rfl) (hh : Y2.2.2.2.2 = [] := by rfl) (hs : stk = as.reverse ++ st := by rfl) (hcat : catA st ≤ 8 := by decide) (kk : ∀ r I2 P2, rng r → f r I2 P2 → V G Y (d + 1) kc ks (pc + 3) lv (.inl r :: st) n I2 P2 Q) : V G Y (d + 1) kc ks pc lv stk n I P Q := by
  have := x_callS (kc := kc) (ks := ks) hC hd hl hm nx_I hn hh hs hcat (fun r n2 I2 P2 hq hok => by obtain ⟨e1, x, hx, hf⟩ := hq; cases hx; rw [e1]; exact kk x I2 P2 (hok _ rfl) hf)
  rwa [Nat.zero_add, Nat.zero_add] at this
theorem x_callSL {idx na : Nat} {Y2 : MI} {as stk : List AV} {f : Int → Mem → Ptr → Prop} (hC : Cv G Y2 d 0 0 as n I P (qL n f)) (hd : decode Y.2.1 pc = .ok (.invokestatic idx, 3)) (hl : LS1 Y.1.cls idx Y2) (hm : MF Y2 na) (hn : as.length = na := by rfl) (hh : Y2.2.2.2.2 = [] := by rfl) (hs : stk = as.reverse ++ st := by rfl) (hcat : catA st ≤ 8 := by decide) (kk : ∀ r I2 P2, rng64 r → f r I2 P2 → V G Y (d + 1) kc ks (pc + 3) lv (.inr (.inr r) :: st) n I2 P2 Q) : V G Y (d + 1) kc ks pc lv stk n I P Q := by
  have := x_callS (kc := kc) (ks := ks) hC hd hl hm nx_L hn hh hs hcat (fun r n2 I2 P2 hq hok => by obtain ⟨e1, x, hx, hf⟩ := hq; cases hx; rw [e1]; exact kk x I2 P2 (hok _ rfl) hf)
  rwa [Nat.zero_add, Nat.zero_add] at this
theorem x_callSR {idx na : Nat} {Y2 : MI} {as stk : List AV} {f : Nat → Mem → Ptr → Prop} (hC : Cv G Y2 d 0 0 as n I P (qR n f)) (hd : decode Y.2.1 pc = .ok (.invokestatic idx, 3)) (hl : LS1 Y.1.cls idx Y2) (hm : MF Y2 na) (hn : as.length = na := by rfl) (hh : Y2.2.2.2.2 = [] := by rfl) (hs : stk = as.reverse ++ st := by rfl) (hcat : catA st ≤ 8 := by decide) (kk : ∀ r I2 P2, f r I2 P2 → V G Y (d + 1) kc ks (pc + 3) lv (.inr (.inl r) :: st) n I2 P2 Q) : V G Y (d + 1) kc ks pc lv stk n I P Q := by
  have := x_callS (kc := kc) (ks := ks) hC hd hl hm nx_R hn hh hs hcat (fun r n2 I2 P2 hq hok => by obtain ⟨e1, x, hx, hf⟩ := hq; cases hx; rw [e1]; exact kk x I2 P2 hf)
  rwa [Nat.zero_add, Nat.zero_add] at this
theorem x_callSV {idx na : Nat} {Y2 : MI} {as stk : List AV} {f : Nat → Mem → Ptr → Prop} (hC : Cv G Y2 d 0 0 as n I P (qV f)) (hd : decode Y.2.1 pc = .ok (.invokestatic idx, 3)) (hl : LS1 Y.1.cls idx Y2) (hm : MF Y2 na) (hn : as.length = na := by rfl) (hh : Y2.2.2.2.2 = [] := by rfl) (hs : stk = as.reverse ++ st := by rfl) (hcat : catA st ≤ 8 := by decide) (kk : ∀ n2 I2 P2, f n2 I2 P2 → V G Y (d + 1) kc ks (pc + 3) lv st n2 I2 P2 Q) : V G Y (d + 1) kc ks pc lv stk n I P Q := by
  have := x_callS (kc := kc) (ks := ks) hC hd hl hm nx_V hn hh hs hcat (fun r n2 I2 P2 hq hok => by obtain ⟨hx, hf⟩ := hq; cases hx; exact kk n2 I2 P2 hf)
  rwa [Nat.zero_add, Nat.zero_add] at this
end VC
