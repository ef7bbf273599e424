/-! ===== throwing with a text of a far link ===== -/
section TX
variable {p : Program} {l : Launch} {e : Env} {R : Room} {s : State} {m : MethodId} {args : Array Value} {below : List Frame} {meth : Method} {c : Code} {locs : List Loc} {cells slots : Nat}
/-- 'throw new E("text")' -/
theorem tx_throwW {cc : ByteArray} {pc : Nat} {H : Heap} {ls : Array Slot} {rest : List Value} {Qc : Array Value → State → Outcome → State → Prop} {XC : String → State → State → Prop} {free : Addr → Prop} (hexec : p.tables.exec = Jvm.exec) (hb : c.code = cc) (hl : l.stackTraces = false) {own cls Y text : String} {r : List String} {ik is ic ix mc ms sa : Nat} {rx : ByteArray} {A : Nat → Prop}
    (x0 : decode rx 0 = .ok (.aload_n 0, 1)) (x1 : decode rx 1 = .ok (.aload_n 1, 1)) (x2 : decode rx 2 = .ok (.invokespecial ix, 3)) (x5 : decode rx 5 = .ok (.return_, 1))
    (hown : s.vm.findClass own = some m.cls) (hcls : Bundle.fit cls = true) (hY : Bundle.fit Y = true) (hr : ∀ n ∈ r, Bundle.fit n = true)
    (hk : (Cond.classLink own ik cls).before args s = true) (hini : (Cond.initialized cls).before args s = true) (hstr : vk_R own is text sa s) (hat : ∀ w ∈ tx_at own ic cls Y ix rx r, w.before args s = true)
    (hgood : ∀ w ∈ Cond.classLink own ik cls :: Cond.initialized cls :: tx_at own ic cls Y ix rx r, vx_ot w = true)
    (hU : vx_Zq Bundle.tN "UNASSIGNED_STACK" Bundle.steD A s s.heap) (hN : vx_Zq Bundle.tN "SUPPRESSED_SENTINEL" Bundle.listD A s s.heap) (hS : va_S A s.heap H locs) (hsize : ls.size = c.maxLocals)
    (d0 : decode cc pc = .ok (.new ik, 3)) (d3 : decode cc (pc + 3) = .ok (.dup, 1)) (d4 : decode cc (pc + 4) = .ok (.ldc_w is, 3)) (d7 : decode cc (pc + 7) = .ok (.invokespecial ic, 3)) (d10 : decode cc (pc + 10) = .ok (.athrow, 1))
    (hout : ∀ x ∈ c.exceptionTable.toList, covers x (pc + 10) = false)
    (hRframes : r.length + 4 < R.frames) (hRlocals : (rest.map fun v => v.category).sum + (13 * (r.length + 2) + 43) ≤ R.locals) (hRcells : cells + 1 ≤ R.cells) (hRslots : slots + 6 ≤ R.slots) (hlocks : meth.locks = false)
    (hx : ∀ t : State, s.vm.Alike t.vm → H.size ≤ t.heap.size → (∀ q : Nat, q < H.size → t.heap[q]? = H[q]?) → XC cls s t)
    (hf : ∀ z ∈ locs, free z.base) (hc : cells + 1 ≤ mc) (hs : slots + 6 ≤ ms) :
    W p l e R s m args below meth c H locs cells slots (vx_MQ below Qc XC args s mc ms free) (F0 m pc ls rest) := by
  intro T hT X
  have htr : e.platform.stackTraces = false := (show e.platform.stackTraces = l.stackTraces by rw [X.admits.platform]).trans hl
  have Y9 := vx_rebase X (R' := { frames := R.frames, locals := R.locals, cells := 1, slots := 6 }) (Nat.le_refl _) (Nat.le_refl _) hRcells hRslots
  obtain ⟨s', hA⟩ : ∃ z, z = (T.setVm s.vm).setFrames (.invoking m args :: below) := ⟨_, rfl⟩
  rw [← hA] at Y9
  have hvm : s'.vm = s.vm := by rw [hA]; rfl
  have hhp : s'.heap = H := by rw [hA]; exact hT
  have hW0 : s.WarmedH s'.vm := by rw [hvm]; exact State.WarmedH.refl s
  have hat' : ∀ w ∈ tx_at own ic cls Y ix rx r, w.before args s' = true := fun w hw => vx_ot_at hW0 hvm.symm (hgood w (List.mem_cons_of_mem _ (List.mem_cons_of_mem _ hw))) (hat w hw)
  have hk' : (Cond.classLink own ik cls).before args s' = true := vx_ot_at hW0 hvm.symm (hgood _ List.mem_cons_self) hk
  have hini' : (Cond.initialized cls).before args s' = true := vx_ot_at hW0 hvm.symm (hgood _ (List.mem_cons_of_mem _ List.mem_cons_self)) hini
  have hU' : vx_Zq Bundle.tN "UNASSIGNED_STACK" Bundle.steD A s' s'.heap := by rw [hhp]; exact vx_Zq.moved hW0.alike (hU.kept hS.2.1)
  have hN' : vx_Zq Bundle.tN "SUPPRESSED_SENTINEL" Bundle.listD A s' s'.heap := by rw [hhp]; exact vx_Zq.moved hW0.alike (hN.kept hS.2.1)
  have h : ∀ w ∈ tx_all own ic cls Y ix rx r, w.before args s' = true := vx_own hat' (vx_isRefq hU'.1) (vx_isRefq hN'.1) hU'.2.word hN'.2.word
  have hown' : s'.vm.findClass own = some m.cls := by rw [hvm]; exact hown
  have hins : (Cond.instantiable cls 6).before args s' = true := h _ (by unfold tx_all; simp)
  obtain ⟨vm₁, cX, kX, hfX, hkX, -, -, X₁, st1⟩ := Y9.newCold hexec (own := own) (C := cls) (index := ik) (n := 6) hown' hk' hins hini'
    (g := F0 m pc ls rest) rfl (by rw [hb]; exact d0) (Nat.le_refl _) (Nat.le_refl _)
  generalize hT1 : (T.setVm vm₁).pushCell { cls := cX, slots := kX.instanceTypes.map defaultValue, vm := .none } = T1 at X₁ st1
  have hcat : (Value.ref T.heap.size).category = 1 := rfl
  have hcellA : T1.heap[T.heap.size]? = some (freshCell cX kX) := by rw [← hT1]; exact State.heap_pushCell_size _ _
  have d3' : decode c.code (pc + 3) = .ok (.dup, 1) := by rw [hb]; exact d3
  have d4' : decode c.code (pc + 4) = .ok (.ldc_w is, 3) := by rw [hb]; exact d4
  have hstr' : vk_R own is text sa s' := vk_R.warm hW0 hstr
  obtain ⟨U, hsteps, hrun, hend, hW, hsame, ce, hce, hcv, hcc⟩ := tx_ctor X₁ hexec htr (own := own) (cls := cls) (Y := Y) (r := r) (ic := ic) x0 x1 x2 x5 hown' hcls hY hr h (fun x hx => nomatch hx) hfX hkX hcellA (by rw [hhp, hT]; exact Nat.le_refl _) (msg := .ref sa) rfl
    (g := { method := m, pc := pc + 7, locals := ls, stack := .ref sa :: .ref T.heap.size :: .ref T.heap.size :: rest, locked := none }) rfl hsize rfl rfl (rest := rest) rfl
    (by rw [hb]; exact d7) (by rw [hb]; exact d10) hout hRframes (by simp only [List.map_cons, List.sum_cons, hcat]; show 2 * 0 + _ + _ ≤ _; omega) hlocks
  obtain ⟨f1, f2⟩ := vx_frame hsame
  rw [hhp] at f1 f2
  have hWs : s.WarmedH U.vm := State.WarmedH.trans hW0 hW
  have hcl : s.vm.findClass cls = some ce.cls := by rw [hcc, ← hvm]; exact hfX
  have hall : s.sameButNew ({ U with vm := s.vm } : State) locs mc ms := by
    subst hA
    obtain ⟨e1, e2⟩ := hsame
    rw [State.setFrames_setFrames] at e1
    have h2 : (T.setVm s.vm).sameButNew ({ U with vm := s.vm } : State) [] (0 + 1) (0 + 6) := ⟨e1, e2⟩
    have h3 := X.same.trans h2
    rw [List.append_nil] at h3
    exact h3.mono hc hs
  refine ⟨U, ?_, .threw T.heap.size, hrun, hend, Or.inr ⟨T.heap.size, rfl, cls, ce, locs, hx U hWs.alike f1 (fun q hq => f2 q hq (fun z hz => nomatch hz)), hce, hcv, hcl, hWs, hall, hf⟩⟩
  refine st1 _ ?_
  show Steps p.tables e below (T1.setTop { method := m, pc := pc + 3, locals := ls, stack := .ref T.heap.size :: rest, locked := none }) _
  jvm_step X₁.here [X₁.here.top, hexec, d3', Value.category]
  exact X₁.ldcStringW hexec (own := own) (text := text) (index := is) (a := sa) hown' hstr'.1 hstr'.2
    (g := { method := m, pc := pc + 4, locals := ls, stack := .ref T.heap.size :: .ref T.heap.size :: rest, locked := none }) rfl d4' _ hsteps
end TX
section
variable {G : HX} {Y : MI} {d kc ks pc : Nat} {lv : LV} {st : List AV} {n : Nat} {I : Mem} {P : Ptr} {Q : QT}
/-- a method of the class throws -/
theorem x_throwW {cls text : String} {ik is ic ix : Nat} {rx : ByteArray} (hX : ∀ w ∈ tx_at RX11 ic cls "java/lang/RuntimeException" ix rx ["java/lang/Exception"], inX w) (x0 : decode rx 0 = .ok (.aload_n 0, 1)) (x1 : decode rx 1 = .ok (.aload_n 1, 1)) (x2 : decode rx 2 = .ok (.invokespecial ix, 3)) (x5 : decode rx 5 = .ok (.return_, 1)) (hc : Cond.classLink RX11 ik cls ∈ TW) (hi : Cond.initialized cls ∈ TW) (hf : Bundle.fit cls = true)
    (hn : n = NO) (hcls : Y.1.cls = RX11) (hh : Y.2.2.2.2 = []) (hm : (is, text) ∈ MSG) (hst : catA st ≤ 8) (h8 : 8 ≤ d) (hkc : 1 ≤ kc) (hks : 6 ≤ ks)
    (d0 : decode Y.2.1 pc = .ok (.new ik, 3)) (d3 : decode Y.2.1 (pc + 3) = .ok (.dup, 1)) (d4 : decode Y.2.1 (pc + 4) = .ok (.ldc_w is, 3)) (d7 : decode Y.2.1 (pc + 7) = .ok (.invokespecial ic, 3)) (d10 : decode Y.2.1 (pc + 10) = .ok (.athrow, 1))
    (hq : Q (.inr cls) n I P) : V G Y d kc ks pc lv st n I P Q := by
  intro p e R s m args below meth c H locs cells slots mc ms ls h
  obtain ⟨hk, hb, hL, hS, hR, hSS, hbs⟩ := id h
  have hts := hk.2.2.2.2.1
  have hSE := hk.2.2.2.2.2.2.2.2.2.2.2
  have hown := hk.2.2.2.2.2.1
  rw [hcls] at hown
  obtain ⟨sa, hsa⟩ := hSE.2.2.2.2.2.1 _ hm
  have hd1 := hk.2.2.2.2.2.2.2.2.2.1
  have hd2 := hk.2.2.2.2.2.2.2.2.2.2.1
  have hsum := catA_sum (G := G.1) st
  refine tx_throwW (A := AA G.1) (free := AA G.1) (Y := "java/lang/RuntimeException") (r := ["java/lang/Exception"]) hk.1 hk.2.1 hSE.1 x0 x1 x2 x5 hown hf (by decide +kernel) (fun n hn => by rw [List.mem_singleton.mp hn]; decide +kernel) (hts _ hc) (hts _ hi) hsa (fun w hw => (hX w hw).ok hts) (fun w hw => ?_) hSE.2.2.2.1 hSE.2.2.2.2.1 hSS (hL.sz.trans hk.2.2.2.1.symm) d0 d3 d4 d7 d10 (fun x hx => ?_) (by show 1 + 4 < R.frames; omega) (by rw [hsum]; show catA st + (13 * (1 + 2) + 43) ≤ R.locals; omega) (by omega) (by omega) hk.2.2.2.2.2.2.1 (fun t hal hsz hqq => ?_) hSS.2.2 (by omega) (by omega)
  · rcases List.mem_cons.mp hw with rfl | hw
    · rfl
    · rcases List.mem_cons.mp hw with rfl | hw
      · rfl
      · exact (hX w hw).ot
  · have ht := hk.2.2.2.2.2.2.2.1
    rw [hh] at ht
    have hnil : c.exceptionTable.toList = [] := by
      cases hq : c.exceptionTable.toList with
      | nil => rfl
      | cons a r => rw [hq] at ht; cases ht
    rw [hnil] at hx
    cases hx
  · refine ⟨n, I, P, hq, ⟨?_, hR.2.1, hR.2.2.1, Nat.le_trans hR.2.2.2.1 hsz, fun z => absurd z (by rw [hn]; exact Nat.lt_irrefl _)⟩, ?_⟩
    · exact fun i pe hi => by
        have h9 := hR.1 i pe hi
        exact h9.kept (hqq _ h9.lt)
    · exact ⟨Nat.le_trans hSS.1 hsz, fun q h1 h2 => by rw [hqq q (Nat.lt_of_lt_of_le h1 hSS.1)]; exact hSS.2.1 q h1 h2⟩
end
/-- an answer, or an exception -/
def qX (n : Nat) (f : Int → Mem → Ptr → Prop) (g : String → Mem → Ptr → Prop) : QT := fun o n' I P => n' = n ∧ ((∃ r : Int, o = .inl (some (.inl r)) ∧ f r I P) ∨ ∃ c, o = .inr c ∧ g c I P)
section
variable {G : HX} {Y : MI} {d kc ks pc : Nat} {lv : LV} {n : Nat} {I : Mem} {P : Ptr} {f : Int → Mem → Ptr → Prop} {g : String → Mem → Ptr → Prop}
theorem x_iretX {x : Int} (hd : decode Y.2.1 pc = .ok (.ireturn, 1)) (hret : Y.2.2.2.1 = some .int := by rfl) (hq : f x I P) : V G Y d kc ks pc lv [.inl x] n I P (qX n f g) := x_iretq hd hret ⟨rfl, Or.inl ⟨x, rfl, hq⟩⟩
theorem x_zretX {x : Int} (hd : decode Y.2.1 pc = .ok (.ireturn, 1)) (hx : x = 0 ∨ x = 1) (hret : Y.2.2.2.1 = some .boolean := by rfl) (hq : f x I P) : V G Y d kc ks pc lv [.inl x] n I P (qX n f g) := x_zretq hd hret hx ⟨rfl, Or.inl ⟨x, rfl, hq⟩⟩
theorem qX_thr {c : String} (h : g c I P) : qX n f g (.inr c) n I P := ⟨rfl, Or.inr ⟨c, rfl, h⟩⟩
theorem xnN {is kc ks pc : Nat} {text : String} {Y : MI} {st : List AV} (hcls : Y.1.cls = RX11) (hh : Y.2.2.2.2 = []) (hm : (is, text) ∈ MSG) (hst : catA st ≤ 8) (h8 : 8 ≤ d) (hkc : 1 ≤ kc) (hks : 6 ≤ ks)
    (d0 : decode Y.2.1 pc = .ok (.new 169, 3)) (d3 : decode Y.2.1 (pc + 3) = .ok (.dup, 1)) (d4 : decode Y.2.1 (pc + 4) = .ok (.ldc is, 2)) (d6 : decode Y.2.1 (pc + 6) = .ok (.invokespecial 173, 3)) (d9 : decode Y.2.1 (pc + 9) = .ok (.athrow, 1))
    (hq : g tEN I P) : V G Y d kc ks pc lv st NO I P (qX NO f g) := x_throw (cls := tEN) (text := text) txXN dtN_0 dtN_1 dtN_2 dtN_5 ctXN itXN (by decide +kernel) rfl hcls hh hm hst h8 hkc hks d0 d3 d4 d6 d9 (qX_thr hq)
theorem xnI {is kc ks pc : Nat} {text : String} {Y : MI} {st : List AV} (hcls : Y.1.cls = RX11) (hh : Y.2.2.2.2 = []) (hm : (is, text) ∈ MSG) (hst : catA st ≤ 8) (h8 : 8 ≤ d) (hkc : 1 ≤ kc) (hks : 6 ≤ ks)
    (d0 : decode Y.2.1 pc = .ok (.new 111, 3)) (d3 : decode Y.2.1 (pc + 3) = .ok (.dup, 1)) (d4 : decode Y.2.1 (pc + 4) = .ok (.ldc is, 2)) (d6 : decode Y.2.1 (pc + 6) = .ok (.invokespecial 115, 3)) (d9 : decode Y.2.1 (pc + 9) = .ok (.athrow, 1))
    (hq : g tEI I P) : V G Y d kc ks pc lv st NO I P (qX NO f g) := x_throw (cls := tEI) (text := text) txXI dtI_0 dtI_1 dtI_2 dtI_5 ctXI itXI (by decide +kernel) rfl hcls hh hm hst h8 hkc hks d0 d3 d4 d6 d9 (qX_thr hq)
theorem xnNW {is kc ks pc : Nat} {text : String} {Y : MI} {st : List AV} (hcls : Y.1.cls = RX11) (hh : Y.2.2.2.2 = []) (hm : (is, text) ∈ MSG) (hst : catA st ≤ 8) (h8 : 8 ≤ d) (hkc : 1 ≤ kc) (hks : 6 ≤ ks)
    (d0 : decode Y.2.1 pc = .ok (.new 169, 3)) (d3 : decode Y.2.1 (pc + 3) = .ok (.dup, 1)) (d4 : decode Y.2.1 (pc + 4) = .ok (.ldc_w is, 3)) (d7 : decode Y.2.1 (pc + 7) = .ok (.invokespecial 173, 3)) (d10 : decode Y.2.1 (pc + 10) = .ok (.athrow, 1))
    (hq : g tEN I P) : V G Y d kc ks pc lv st NO I P (qX NO f g) := x_throwW (cls := tEN) (text := text) txXN dtN_0 dtN_1 dtN_2 dtN_5 ctXN itXN (by decide +kernel) rfl hcls hh hm hst h8 hkc hks d0 d3 d4 d7 d10 (qX_thr hq)
theorem xnIW {is kc ks pc : Nat} {text : String} {Y : MI} {st : List AV} (hcls : Y.1.cls = RX11) (hh : Y.2.2.2.2 = []) (hm : (is, text) ∈ MSG) (hst : catA st ≤ 8) (h8 : 8 ≤ d) (hkc : 1 ≤ kc) (hks : 6 ≤ ks)
    (d0 : decode Y.2.1 pc = .ok (.new 111, 3)) (d3 : decode Y.2.1 (pc + 3) = .ok (.dup, 1)) (d4 : decode Y.2.1 (pc + 4) = .ok (.ldc_w is, 3)) (d7 : decode Y.2.1 (pc + 7) = .ok (.invokespecial 115, 3)) (d10 : decode Y.2.1 (pc + 10) = .ok (.athrow, 1))
    (hq : g tEI I P) : V G Y d kc ks pc lv st NO I P (qX NO f g) := x_throwW (cls := tEI) (text := text) txXI dtI_0 dtI_1 dtI_2 dtI_5 ctXI itXI (by decide +kernel) rfl hcls hh hm hst h8 hkc hks d0 d3 d4 d7 d10 (qX_thr hq)
end
