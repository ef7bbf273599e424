/-! ===== the law from its entry ===== -/
theorem whole_start {p : Program} {e : Env} {s : State} {m : MethodId} {below : List Frame} {meth : Method} {c : Code} (l : Launch) (hflags : l.flags = flags0) {b L : Nat} {xs : Nat → Int32} (hL : L ≤ 3072) (C0 : lw_At p s m meth c b L xs) : W p l e room_1 s m #[Value.ref b] below meth c s.heap [] 0 0 (lw_Z below #[Value.ref b] s) (entryFrame m ([Value.ref b] : List Value).toArray 7) := by
  obtain ⟨hexec, hcode, hret, hml, hcls, hts, hX, hb, hlk, hg⟩ := C0
  have hst : l.stackTraces = false := by
    unfold Launch.stackTraces
    rw [hflags]
    decide +kernel
  obtain ⟨D, ac, sp, hsp, hSE⟩ := se_start hst hts hg hX hb
  have hV := law_start (G := ((l, D, ac, s.heap.size, sp), (L, xs))) (nm := meth.name) (hh := c.exceptionTable.toList.map fun h => (h.startPc, h.endPc, h.handlerPc, h.catchType)) (Q := fun o _ _ _ => o = .inl (some (.inl 1))) hL (fun _ _ => rfl)
  have hR : Rp (l, D, ac, s.heap.size, sp) 0 IS0 PS0 s.heap := ⟨fun k q hk => (by simp [wld] at hk), fun a i => ⟨fun _ => rng_0, rng_64 rng_0⟩, by decide, Nat.le_refl _, fun _ => rfl⟩
  have e1 : conc (l, D, ac, s.heap.size, sp) (.inr (.inl 1000)) = .ref b := (rvl_pos (by decide)).trans (by rw [adr_sc]; exact congrArg Value.ref hsp)
  have hfr : entryFrame m ([Value.ref b] : List Value).toArray 7 = F0 m 0 ((lg_sl ([(.inr (.inl 1000) : AV)].map (conc (l, D, ac, s.heap.size, sp))) ++ List.replicate (7 - (lg_sl ([(.inr (.inl 1000) : AV)].map (conc (l, D, ac, s.heap.size, sp)))).length) Slot.unset).toArray) [] := by
    rw [show ([(.inr (.inl 1000) : AV)].map (conc (l, D, ac, s.heap.size, sp))) = [Value.ref b] from congrArg (fun v => [v]) e1]
    exact lg_entry_eq m [Value.ref b] 7
  have hw := hV p e room_1 s m #[Value.ref b] below meth c s.heap [] 0 0 601024 7293034 _ ⟨⟨hexec, hcode, hret, hml, fun w hw => hts w (List.mem_filter.mp hw).1, hcls, hlk, (table_eq _).symm, rfl, by decide, by decide, hSE⟩, ⟨by decide, by decide, by decide, by decide⟩, VL.entry (G := (l, D, ac, s.heap.size, sp)) (as := [.inr (.inl 1000)]) (nL := 7) rfl (by decide) (fun v hv => (by rw [List.mem_singleton.mp hv]; trivial)), fun v hv => (by cases hv), hR, va_S.rf, Nat.le_refl _⟩
  intro T hT Xs
  obtain ⟨t, h1, o, h2, h3, h4⟩ := hw T hT Xs
  refine ⟨t, by rw [hfr]; exact h1, o, h2, h3, ?_⟩
  rcases h4 with ⟨⟨r, n, I, P, e2, -, e3, -, -⟩, L9, hF, hLL⟩ | ⟨q, -, E, ce, L9, ⟨n, I, P, hq, -⟩, -⟩
  · have e4 : r = some (.inl 1) := Sum.inl.inj e3
    rw [e4] at e2
    exact ⟨e2, ⟨_, e2⟩, hF.2.1, new_only hF.2.2 hLL⟩
  · cases hq
