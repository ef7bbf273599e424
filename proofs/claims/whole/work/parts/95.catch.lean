/-! ===== calls that may throw, their catching ===== -/
theorem ctLI : Cond.classLink RL 13 tEI ∈ TW := tw4 28 rfl (by decide +kernel)
theorem ctLN : Cond.classLink RL 18 tEN ∈ TW := tw5 19 rfl (by decide +kernel)
theorem cast_self {E : String} {k : ClassId} {args : Array Value} {s : State} (h : s.vm.findClass E = some k) : (Cond.castable E E).before args s = true := by
  have ha : s.vm.assignable k k = true := by
    show Vm.assignableAux s.vm (255 + 1) k k = true
    rw [Vm.assignableAux, beq_self_eq_true, Bool.true_or]
  simp [Cond.before, Cond.holds, Cond.value, h, ha]
/-- the handler at hp takes an E out of the call at pc -/
def HND (Y : MI) (pc : Nat) (E : String) (hp : Nat) : Prop := ∃ (pre : List ExceptionTableEntry) (x : ExceptionTableEntry) (suf : List ExceptionTableEntry) (nm : String), tableOf Y.2.2.2.2 = pre ++ x :: suf ∧ (∀ z ∈ pre, covers z pc = false ∨ (z.catchType ≠ 0 ∧ Cond.classLink Y.1.cls z.catchType tEN ∈ TW ∧ E = tEI)) ∧ covers x pc = true ∧ x.catchType ≠ 0 ∧ Cond.classLink Y.1.cls x.catchType nm ∈ TW ∧ nm = E ∧ x.handlerPc = hp
section
variable {G : HX} {Y : MI} {d kc ks pc : Nat} {lv : LV} {st : List AV} {n : Nat} {I : Mem} {P : Ptr} {Q : QT}
abbrev noV (k : Nat) : LV := List.replicate k none
/-- at a handler: an exception's reference on the stack -/
def VR (G : HX) (Y : MI) (d kc ks pc : Nat) (n : Nat) (I : Mem) (P : Ptr) (Q : QT) : Prop :=
  ∀ (p : Program) (e : Env) (R : Room) (s : State) (m : MethodId) (args : Array Value) (below : List Frame) (meth : Method) (c : Code) (H : Heap) (locs : List Loc) (cells slots mc ms : Nat) (ls : Array Slot) (q : Nat),
    VH G Y d kc ks (noV Y.2.2.1) [] n I P p R s m args meth c H locs cells slots mc ms ls →
    W p G.1.l e R s m args below meth c H locs cells slots (vx_MQ below (QR G Q) (XR G Q) args s mc ms (AA G.1)) (F0 m pc ls [.ref q])
theorem VL.no {G : CX} {nL : Nat} {ls : Array Slot} {lv : List (Nat × Value)} (h : lv_has ls nL lv) : VL G nL (noV nL) ls := ⟨List.length_replicate, ⟨h.1, h.2.1, fun q hq => by cases hq⟩, fun i v hk => absurd hk lk_rep⟩
theorem VR.asn {i : Nat} {j : Fin 4} (hd : decode Y.2.1 pc = .ok (.astore_n j, 1)) (hi : (j : Nat) = i := by rfl) (hn : i < Y.2.2.1 := by decide) (k : V G Y d kc ks (pc + 1) (noV Y.2.2.1) [] n I P Q) : VR G Y d kc ks pc n I P Q := by
  intro p e R s m args below meth c H locs cells slots mc ms ls q h
  refine lv_astore_n (nL := Y.2.2.1) (x := q) h.1.1 h.1.2.1 hd hi h.2.2.1.has hn rfl (fun ls' hl' => ?_)
  exact k p e R s m args below meth c H locs cells slots mc ms ls' (h.s (VL.no hl') h.2.2.2.1)
theorem VR.as {i : Nat} (hd : decode Y.2.1 pc = .ok (.astore i, 2)) (hn : i < Y.2.2.1 := by decide) (k : V G Y d kc ks (pc + 2) (noV Y.2.2.1) [] n I P Q) : VR G Y d kc ks pc n I P Q := by
  intro p e R s m args below meth c H locs cells slots mc ms ls q h
  refine lv_astore (nL := Y.2.2.1) (x := q) h.1.1 h.1.2.1 hd h.2.2.1.has hn rfl (fun ls' hl' => ?_)
  exact k p e R s m args below meth c H locs cells slots mc ms ls' (h.s (VL.no hl') h.2.2.2.1)
theorem x_callVX {idx ci b na kc2 ks2 : Nat} {Y2 : MI} {as stk : List AV} {f : Int → Mem → Ptr → Prop} {g : String → Mem → Ptr → Prop} (hC : Cv G Y2 d kc2 ks2 (.inr (.inl b) :: as) n I P (qX n f g)) (hd : decode Y.2.1 pc = .ok (.invokevirtual idx, 3)) (hl : LV1 Y.1.cls idx Y2) (hm : MF Y2 na) (hc : CF ci) (hA : AT n b ci)
    (hcl : (cT ci).1 = Y2.1.cls := by rfl) (hn : as.length = na := by rfl) (hh : Y2.2.2.2.2 = [] := by rfl) (hs : stk = as.reverse ++ .inr (.inl b) :: st := by rfl) (hcat : catA st ≤ 8 := by decide)
    (kx : ∀ E I2 P2, g E I2 P2 → ∃ hp, HND Y pc E hp ∧ VR G Y (d + 1) kc ks hp n I2 P2 Q)
    (kk : ∀ r I2 P2, rng r → f r I2 P2 → V G Y (d + 1) kc ks (pc + 3) lv (.inl r :: st) n I2 P2 Q) : V G Y (d + 1) (kc2 + kc) (ks2 + ks) pc lv stk n I P Q := by
  subst hs
  intro p e R s m args below meth c H locs cells slots mc ms ls h
  obtain ⟨hk, hb, hL, hS, hR, hSS, hbs⟩ := h
  have ea : conc G.1 (.inr (.inl b)) = .ref (adr G.1 b) := rvl_pos hA.ne0
  have hts := hk.2.2.2.2.1
  have hSt : ∀ v ∈ st, avOK v := fun v hv => hS v (List.mem_append_right _ (List.mem_cons_of_mem _ hv))
  have hSa : ∀ v ∈ (.inr (.inl b) :: as : List AV), avOK v := ok_c trivial (fun v hv => hS v (List.mem_append_left _ (List.mem_reverse.mpr hv)))
  have h1 := rp_at hR hA.2.1 hA.2.2
  rw [ent_ob hA.1 hc.lt] at h1
  have hSE := hk.2.2.2.2.2.2.2.2.2.2.2
  have hKK := hSE.2.1
  have hrv := va_recv hKK hR.1 hc.at h1
  rw [show ((cT ci).1, (cT ci).2.1, (cT ci).2.2).1 = (cT ci).1 from rfl, hcl] at hrv
  have hrun := vx_runV (e := e) (below := below) (meth := meth) (locs := locs) (C := Y2.1.cls) (rest := st.map (conc G.1)) (g := F0 m pc ls ((as.reverse ++ .inr (.inl b) :: st).map (conc G.1))) ⟨hk.1, hk.2.1, hk.2.2.2.1, hk.2.2.2.2.2.1, hts⟩ hC ⟨b_call hts hm hh hl.1 hk.2.2.2.2.2.2.2.2.2.1 hk.2.2.2.2.2.2.2.2.2.2.1, hts _ hl.2.1, hts _ hl.2.2⟩
    (b := adr G.1 b) (As := as.map (conc G.1)) ⟨PcO_blind, hrv, fun U hU hW => ?_⟩ rfl (by rw [List.length_map]; exact hn) hL.sz ?_ (lv_room (by rw [catA_sum]; exact hcat)) hd ⟨(by omega : cells + kc2 ≤ R.cells), (by omega : slots + ks2 ≤ R.slots)⟩
  · have hkeep : ∀ (st₀ t T' : State) (L : List Loc), st₀.heap = H → T'.heap = t.heap → (∀ z ∈ L, AA G.1 z.base) → va_F (AA G.1) st₀ t → va_S (AA G.1) s.heap T'.heap (locs ++ L) := fun st₀ t T' L h0 e1 hL2 hF => by
      have hF1 := hF.1
      have hF2 := hF.2
      rw [h0] at hF1 hF2
      exact ⟨Nat.le_trans hSS.1 (by rw [e1]; exact hF1), fun q h1 h2 => by rw [e1, hF2 q (Nat.lt_of_lt_of_le h1 hSS.1) h2]; exact hSS.2.1 q h1 h2, fun q hq => by
        rcases List.mem_append.mp hq with h | h
        · exact hSS.2.2 q h
        · exact hL2 q h⟩
    intro T hT X
    rcases hrun T hT X with ⟨v, st₀, t, T', L, h0, X', hL2, e1, e2, ⟨r, n', I', P', hv, hok, hq, hR1, hF⟩, stp⟩ | ⟨q, st₀, t, T', L, E, ce, h0, X', hL2, e1, e2, ⟨n', I', P', hq, hR1, hF⟩, hce, hcv, hcl9, stp⟩
    · cases hv
      obtain ⟨rfl, hq⟩ := hq
      rcases hq with ⟨r', hr', hf'⟩ | ⟨c', hc', -⟩
      · cases hr'
        obtain ⟨t2, a1, b1⟩ := kk r' I' P' (hok _ rfl) hf' p e R s m args below meth c T'.heap (locs ++ L) (cells + kc2) (slots + ks2) mc ms ls ⟨hk, ⟨by omega, by omega, hb.2.2⟩, hL, ok_c (hok _ rfl) hSt, by rw [e1]; exact hR1, hkeep st₀ t T' L h0 e1 hL2 hF, hbs⟩ T' rfl X'
        exact ⟨t2, stp t2 a1, b1⟩
      · cases hc'
    · obtain ⟨rfl, hq⟩ := hq
      rcases hq with ⟨r', hr', -⟩ | ⟨c', hc', hg'⟩
      · cases hr'
      · cases hc'
        obtain ⟨hp, ⟨pre, x, suf, nm, hsplit, hpass, hx, hx0, hlk, rfl, rfl⟩, kv⟩ := kx E I' P' hg'
        have hSS1 := hkeep st₀ t T' L h0 e1 hL2 hF
        have hcat9 := vx_catch (p := p) (l := G.1.l) (e := e) (R := R) (s := s) (m := m) (args := args) (below := below) (meth := meth) (c := c) (H := T'.heap) (locs := locs ++ L) (cells := cells + kc2) (slots := slots + ks2) (Q := vx_MQ below (QR G Q) (XR G Q) args s mc ms (AA G.1)) (pc := pc) (ls := ls) (rest := st.map (conc G.1)) (own := Y.1.cls) (name := nm) (E := nm) (ce := ce) (q := q) hk.2.2.2.2.2.1 pre x suf (hk.2.2.2.2.2.2.2.1.trans hsplit)
          (fun z hz => (hpass z hz).elim Or.inl (fun w => Or.inr ⟨w.1, tEN, hts _ w.2.1, by rw [w.2.2]; exact hSE.2.2.2.2.2.2.2.2.2.2.1⟩)) hx hx0 (hts _ hlk) (cast_self hcl9) (by rw [e1]; exact hce) hcv hcl9
          (kv p e R s m args below meth c T'.heap (locs ++ L) (cells + kc2) (slots + ks2) mc ms ls q ⟨hk, ⟨by omega, by omega, hb.2.2⟩, ⟨List.length_replicate, hL.2.1, fun i v hk => absurd hk lk_rep⟩, (fun v hv => nomatch hv), by rw [e1]; exact hR1, hSS1, hbs⟩)
        obtain ⟨t2, a1, b1⟩ := hcat9 T' rfl X'
        exact ⟨t2, stp.trans a1, b1⟩
  · have := pc_at (as := .inr (.inl b) :: as) hR hSE hSS hSa hU hW
    rw [List.map_cons, ea] at this
    exact this
  · simp [ea]
end
