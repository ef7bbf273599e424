/-! ===== constructors' calls, long arrays, arrays of arrays ===== -/
section
variable {G : HX} {Y : MI} {d kc ks pc : Nat} {lv : LV} {st : List AV} {n : Nat} {I : Mem} {P : Ptr} {Q : QT}
theorem x_callI {idx b na kc2 ks2 : Nat} {Y2 : MI} {as stk : List AV} {f : Nat → Mem → Ptr → Prop} (hC : Cv G Y2 d kc2 ks2 (.inr (.inl b) :: as) n I P (qV f)) (hd : decode Y.2.1 pc = .ok (.invokespecial idx, 3)) (hl : LI1 Y.1.cls idx Y2) (hm : MF Y2 na) (hb : b ≠ 0)
    (hnm : Y2.1.name = "<init>" := by rfl) (hrt : Y2.2.2.2.1 = none := by rfl) (hn : as.length = na := by rfl) (hh : Y2.2.2.2.2 = [] := by rfl) (hs : stk = as.reverse ++ .inr (.inl b) :: st := by rfl) (hcat : catA st ≤ 8 := by decide)
    (kk : ∀ n' I' P', f n' I' P' → V G Y (d + 1) kc ks (pc + 3) lv st n' I' P' Q) : V G Y (d + 1) (kc2 + kc) (ks2 + ks) pc lv stk n I P Q := by
  subst hs
  intro p e R s m args below meth c H locs cells slots mc ms ls h
  obtain ⟨hk, hbb, hL, hS, hR, hSS, hbs⟩ := h
  have ea : conc G.1 (.inr (.inl b)) = .ref (adr G.1 b) := rvl_pos hb
  have hts := hk.2.2.2.2.1
  have hSt : ∀ v ∈ st, avOK v := fun v hv => hS v (List.mem_append_right _ (List.mem_cons_of_mem _ hv))
  have hSa : ∀ v ∈ (.inr (.inl b) :: as : List AV), avOK v := ok_c trivial (fun v hv => hS v (List.mem_append_left _ (List.mem_reverse.mpr hv)))
  have hM := hC.met nx_V
  have hB := b_call (R := R) (kc2 := kc2) (ks2 := ks2) (s := s) (args := args) (own := Y.1.cls) hts hm hh hl.1 hk.2.2.2.2.2.2.2.2.2.1 hk.2.2.2.2.2.2.2.2.2.2.1
  rw [hrt] at hB
  have hp : PreS s H (PcO G (.inr (.inl b) :: as) n I P) (.ref (adr G.1 b) :: as.map (conc G.1)) := ⟨PcO_blind, fun U hU hW => by
    have := pc_at (as := .inr (.inl b) :: as) hR hk.2.2.2.2.2.2.2.2.2.2.2 hSS hSa hU hW
    rw [List.map_cons, ea] at this
    exact this⟩
  have hrun := va_runI (e := e) (below := below) (meth := meth) (H := H) (locs := locs) (rest := st.map (conc G.1)) (g := F0 m pc ls ((as.reverse ++ .inr (.inl b) :: st).map (conc G.1))) ⟨hk.1, hk.2.1, hk.2.2.2.1, hk.2.2.2.2.2.1, hts⟩ hM ⟨hB, hnm, hts _ hl.2⟩
    (b := adr G.1 b) (As := as.map (conc G.1)) hp rfl (by rw [List.length_map]; exact hn) hL.sz ?_ (lv_room (by rw [catA_sum]; exact hcat)) hd ⟨(by omega : cells + kc2 ≤ R.cells), (by omega : slots + ks2 ≤ R.slots)⟩
  · refine go_after hrun hSS (fun r n' I' P' H1 locs1 hq hok hR1 hS1 => ?_)
    obtain ⟨hx, hf⟩ := hq
    cases hx
    exact kk n' I' P' hf p e R s m args below meth c H1 locs1 (cells + kc2) (slots + ks2) mc ms ls ⟨hk, ⟨by omega, by omega, hbb.2.2⟩, hL, hSt, hR1, hS1, hbs⟩
  · simp [ea]
theorem x_callIN {host : String} {idx b na kc2 ks2 : Nat} {Y2 : MI} {as stk : List AV} {f : Nat → Mem → Ptr → Prop} (hC : Cv G Y2 d kc2 ks2 (.inr (.inl b) :: as) n I P (qV f)) (hd : decode Y.2.1 pc = .ok (.invokespecial idx, 3)) (hl : LN1 Y.1.cls idx Y2 host) (hm : MF Y2 na) (hb : b ≠ 0)
    (hnm : Y2.1.name = "<init>" := by rfl) (hrt : Y2.2.2.2.1 = none := by rfl) (hn : as.length = na := by rfl) (hh : Y2.2.2.2.2 = [] := by rfl) (hs : stk = as.reverse ++ .inr (.inl b) :: st := by rfl) (hcat : catA st ≤ 8 := by decide)
    (kk : ∀ n' I' P', f n' I' P' → V G Y (d + 1) kc ks (pc + 3) lv st n' I' P' Q) : V G Y (d + 1) (kc2 + kc) (ks2 + ks) pc lv stk n I P Q := by
  subst hs
  intro p e R s m args below meth c H locs cells slots mc ms ls h
  obtain ⟨hk, hbb, hL, hS, hR, hSS, hbs⟩ := h
  have ea : conc G.1 (.inr (.inl b)) = .ref (adr G.1 b) := rvl_pos hb
  have hts := hk.2.2.2.2.1
  have hSt : ∀ v ∈ st, avOK v := fun v hv => hS v (List.mem_append_right _ (List.mem_cons_of_mem _ hv))
  have hSa : ∀ v ∈ (.inr (.inl b) :: as : List AV), avOK v := ok_c trivial (fun v hv => hS v (List.mem_append_left _ (List.mem_reverse.mpr hv)))
  have hM := hC.met nx_V
  have hw : wcd Y2 = Cond.code Y2.1 Y2.2.1 Y2.2.2.1 Y2.2.2.2.1 := if_pos hh
  rw [hrt] at hw
  have hNw : va_Nw (.methodLinkNest Y.1.cls idx Y2.1 host) s := hk.2.2.2.2.2.2.2.2.2.2.2.2.2.1 _ hl.1 rfl
  have hdd : d + 1 ≤ R.frames := hk.2.2.2.2.2.2.2.2.2.1
  have hdl : 80 * (d + 1) ≤ R.locals := hk.2.2.2.2.2.2.2.2.2.2.1
  have hB : va_CN R s args Y.1.cls idx Y2.1 host Y2.2.1 Y2.2.2.1 none (wcd Y2 :: TW) (rmO d kc2 ks2) kc2 ks2 na := by
    refine ⟨⟨rfl, rfl, hdd, ?_, fun w hw a' U hW => ?_, by rw [hw]; exact List.mem_cons_self⟩, hw ▸ hts _ hm.1, hts _ hm.2.1, hm.2.2.1, fun sig h => ?_, va_Nw.use rfl hNw⟩
    · have := hm.2.2.2.2.1
      show 8 + (Y2.2.2.1 + 11) + 80 * d ≤ R.locals
      omega
    · rcases List.mem_cons.mp hw with rfl | hw
      · exact word_at hW (good_of_word (tw_good hm.1)) (hts _ hm.1)
      · exact word_at hW (good_of_word (tw_good hw)) (hts _ hw)
    · have h2 := hm.2.2.2.1
      rw [h] at h2
      exact (Option.some.inj h2).symm
  have hp : PreS s H (PcO G (.inr (.inl b) :: as) n I P) (.ref (adr G.1 b) :: as.map (conc G.1)) := ⟨PcO_blind, fun U hU hW => by
    have := pc_at (as := .inr (.inl b) :: as) hR hk.2.2.2.2.2.2.2.2.2.2.2 hSS hSa hU hW
    rw [List.map_cons, ea] at this
    exact this⟩
  have hrun := va_runIN (e := e) (below := below) (meth := meth) (H := H) (locs := locs) (rest := st.map (conc G.1)) (g := F0 m pc ls ((as.reverse ++ .inr (.inl b) :: st).map (conc G.1))) ⟨hk.1, hk.2.1, hk.2.2.2.1, hk.2.2.2.2.2.1, hts⟩ hM ⟨hB, hnm, hts _ hl.2⟩
    (b := adr G.1 b) (As := as.map (conc G.1)) hp rfl (by rw [List.length_map]; exact hn) hL.sz ?_ (lv_room (by rw [catA_sum]; exact hcat)) hd ⟨(by omega : cells + kc2 ≤ R.cells), (by omega : slots + ks2 ≤ R.slots)⟩
  · refine go_after hrun hSS (fun r n' I' P' H1 locs1 hq hok hR1 hS1 => ?_)
    obtain ⟨hx, hf⟩ := hq
    cases hx
    exact kk n' I' P' hf p e R s m args below meth c H1 locs1 (cells + kc2) (slots + ks2) mc ms ls ⟨hk, ⟨by omega, by omega, hbb.2.2⟩, hL, hSt, hR1, hS1, hbs⟩
  · simp [ea]
theorem x_newL {N : Nat} {x : Int} {a : Nat} (hd : decode Y.2.1 pc = .ok (.newarray .long, 2)) (hkd : KD (n + 1) = (21, N)) (hx : x = (N : Int)) (hN : N ≤ 48000) (ha : a = n + 1) (hn : n < NO) (hI : ∀ k, I (n + 1) k = 0)
    (kk : V G Y d kc ks (pc + 2) lv (.inr (.inl a) :: st) (n + 1) I P Q) : V G Y d (1 + kc) (N + ks) pc lv (.inl x :: st) n I P Q := by
  subst ha
  subst hx
  intro p e R s m args below meth c H locs cells slots mc ms ls h
  obtain ⟨hk, hb, hL, hS, hR, hSS, hbs⟩ := id h
  have hts := hk.2.2.2.2.1
  have hSE := hk.2.2.2.2.2.2.2.2.2.2.2
  have hsz := hR.2.2.2.2 hn
  have rN : rng (N : Int) := ⟨by omega, by omega⟩
  have e1' : conc G.1 (.inl (N : Int)) = .int (oI (N : Int)) := rfl
  rw [List.map_cons, e1']
  refine va_newaK (g := F0 m pc ls (.int (oI (N : Int)) :: st.map (conc G.1))) hk.1 hk.2.1 (hts _ (show Cond.arrayClass (newarray.typeOf .long) ∈ TW from acJ)) rfl hd rfl (by rw [show (0 : Int32) = oI 0 from rfl, oI_lt rN rng_0]; omega) (show (oI (N : Int)).toNatClampNeg = N from by rw [oI_clamp rN]; exact Int.toNat_natCast N) (by show N * 8 ≤ 536870912; omega) (by omega) (by omega) rfl (fun H1 cA c1 z1 o1 hAr hNm => ?_)
  have hcA : cA = G.1.ac 1 := Option.some.inj (hNm.symm.trans (show s.vm.findClass ("[" ++ FieldType.long.toString) = some (G.1.ac 1) from (hSE.2.1.2 1 _ rfl).2))
  subst hcA
  have hP1 : va_P G.1.D vwCl (wld G.1 (n + 1) I P) H1 := by
    rw [wld_push, ent_l hkd]
    refine (hR.1.kept (fun k x hx => o1 x.1 ((hR.1 k x hx).lt))).app (fun k x hx => ?_)
    have hz : k < 1 := (List.getElem?_eq_some_iff.mp hx).1
    rw [show k = 0 by omega] at hx
    cases hx
    rw [← hsz]
    show H1[H.size]? = some (vp_cell (G.1.ac 1) (N, .inr (.inl _)))
    rw [vp_cell_l, c1]
    refine congrArg some (congrArg (arrV (G.1.ac 1) N) (funext fun j => ?_))
    show Value.long 0 = Value.long (oL (I (n + 1) (j : Int)))
    rw [hI]
    rfl
  have e2 : conc G.1 (.inr (.inl (n + 1))) = .ref H.size := by
    rw [hsz]
    exact (rvl_pos (by omega)).trans (by rw [adr_ob (by unfold NO at hn; omega), Nat.add_sub_cancel])
  have h2 := kk p e R s m args below meth c H1 locs (cells + 1) (slots + N) mc ms ls ⟨hk, ⟨by omega, by omega, hb.2.2⟩, hL, ok_c trivial (ok_t hS), ⟨hP1, hR.2.1, by omega, by omega, fun _ => by omega⟩, ⟨Nat.le_trans hSS.1 (by omega), fun x h1 h2 => (o1 x (Nat.lt_of_lt_of_le h1 hSS.1)).trans (hSS.2.1 x h1 h2), hSS.2.2⟩, hbs⟩
  rw [List.map_cons, e2] at h2
  exact h2
end
