/-! ===== rules on written texts: k-th word is object 1001 + k, its letters 1021 + k ===== -/
theorem adr_sp {G : CX} {j i : Nat} (h : j = 1000 + i) : adr G j = G.sp i := by
  unfold adr
  rw [if_neg (by omega), show j - 1000 = i by omega]
theorem wlS_n (j : Nat) : wlS (j : Int) = ((WRL.getD j 0 : Nat) : Int) := rfl
theorem wcS_n (j i : Nat) : wcS (j : Int) (i : Int) = ((WRB.getD j []).getD i 0).toInt := rfl
theorem WRL_bd {j : Nat} (hj : j < 11) : WRL.getD j 0 ≤ 6 := by
  have h : ∀ j, j < 11 → WRL.getD j 0 ≤ 6 := by decide
  exact h j hj
theorem SE.str {G : CX} {X : SC} {U : State} {H : Heap} (h : SE G X U H) {j : Nat} (hj : j < 11) : va_O "java/lang/String" (adr G (1001 + j)) (AA G) U H ∧ va_OF "java/lang/String" "coder" "B" (.int 0) (adr G (1001 + j)) (AA G) U H ∧ va_OF "java/lang/String" "value" "[B" (.ref (adr G (1021 + j))) (adr G (1001 + j)) (AA G) U H ∧ va_T .byte (adr G (1021 + j)) (WRL.getD j 0) (fun i => .int ((WRB.getD j []).getD i 0)) (AA G) U H := by
  rw [adr_sp (show 1001 + j = 1000 + (1 + j) by omega), adr_sp (show 1021 + j = 1000 + (21 + j) by omega)]
  exact h.2.2.2.2.2.2.2.1.1 j hj
theorem SE.zcs {G : CX} {X : SC} {U : State} {H : Heap} (h : SE G X U H) : va_Z "java/lang/String" "COMPACT_STRINGS" "Z" (conc G (.inl 1)) (AA G) U H := h.2.2.2.2.2.2.2.2.1
theorem SE.zfm {G : CX} {X : SC} {U : State} {H : Heap} (h : SE G X U H) : va_Z "jdk/internal/util/Preconditions" "SIOOBE_FORMATTER" "Ljava/util/function/BiFunction;" (conc G (.inr (.inl (G.sp 41)))) (AA G) U H := h.2.2.2.2.2.2.2.2.2.1
section VJ
variable {G : HX} {Y : MI} {d kc ks pc : Nat} {lv : LV} {st : List AV} {n : Nat} {I : Mem} {P : Ptr} {Q : QT}
theorem x_gets {C nm ds : String} {idx : Nat} {v : AV} (hd : decode Y.2.1 pc = .ok (.getstatic idx, 3)) (hl : Cond.fieldLink Y.1.cls idx C nm ds ∈ TW) (hZ : ∀ U H, SE G.1 G.2 U H → va_Z C nm ds (conc G.1 v) (AA G.1) U H) (hv : avOK v) (kk : V G Y d kc ks (pc + 3) lv (v :: st) n I P Q) : V G Y d kc ks pc lv st n I P Q := by
  intro p e R s m args below meth c H locs cells slots mc ms ls h
  have hk := h.1
  exact va_gets hk.1 hk.2.1 (hZ s s.heap hk.2.2.2.2.2.2.2.2.2.2.2) h.2.2.2.2.2.1 hk.2.2.2.2.2.1 (hk.2.2.2.2.1 _ hl) (fun _ q => q) hd (kk p e R s m args below meth c H locs cells slots mc ms ls (h.st1 (ok_c hv h.2.2.2.1)))
theorem x_gfS {j idx : Nat} {nm ds : String} {v : AV} (hd : decode Y.2.1 pc = .ok (.getfield idx, 3)) (hl : Cond.fieldLink Y.1.cls idx "java/lang/String" nm ds ∈ TW) (hE : ∀ U H, SE G.1 G.2 U H → va_OF "java/lang/String" nm ds (conc G.1 v) (adr G.1 (1001 + j)) (AA G.1) U H) (hv : avOK v) (kk : V G Y d kc ks (pc + 3) lv (v :: st) n I P Q) : V G Y d kc ks pc lv (.inr (.inl (1001 + j)) :: st) n I P Q := by
  intro p e R s m args below meth c H locs cells slots mc ms ls h
  have hk := h.1
  have e2 : conc G.1 (.inr (.inl (1001 + j))) = .ref (adr G.1 (1001 + j)) := rvl_pos (by omega)
  rw [List.map_cons, e2]
  exact vk_getf hk.1 hk.2.1 (hE s s.heap hk.2.2.2.2.2.2.2.2.2.2.2) h.2.2.2.2.2.1 hk.2.2.2.2.2.1 (hk.2.2.2.2.1 _ hl) (fun _ q => q) hd (kk p e R s m args below meth c H locs cells slots mc ms ls (h.st1 (ok_c hv (ok_t h.2.2.2.1))))
theorem x_alenB {j : Nat} (hj : j < 11) (hd : decode Y.2.1 pc = .ok (.arraylength, 1)) (kk : V G Y d kc ks (pc + 1) lv (.inl (wlS (j : Int)) :: st) n I P Q) : V G Y d kc ks pc lv (.inr (.inl (1021 + j)) :: st) n I P Q := by
  intro p e R s m args below meth c H locs cells slots mc ms ls h
  have hk := h.1
  have e2 : conc G.1 (.inr (.inl (1021 + j))) = .ref (adr G.1 (1021 + j)) := rvl_pos (by omega)
  rw [List.map_cons, e2]
  have hb := WRL_bd hj
  refine va_tlen hk.1 hk.2.1 (hk.2.2.2.2.2.2.2.2.2.2.2.str hj).2.2.2 h.2.2.2.2.2.1 (v := oI (wlS (j : Int))) (by rw [wlS_n]; exact (oI_nat _).symm) hd ?_
  exact kk p e R s m args below meth c H locs cells slots mc ms ls (h.st1 (ok_c (v := .inl (wlS (j : Int))) (by rw [wlS_n]; show rng _; exact ⟨by omega, by omega⟩) (ok_t h.2.2.2.1)))
theorem x_baldW {j : Nat} {i : Int} (hj : j < 11) (hi : 0 ≤ i ∧ i < wlS (j : Int)) (hd : decode Y.2.1 pc = .ok (.baload, 1)) (kk : V G Y d kc ks (pc + 1) lv (.inl (wcS (j : Int) i) :: st) n I P Q) : V G Y d kc ks pc lv (.inl i :: .inr (.inl (1021 + j)) :: st) n I P Q := by
  intro p e R s m args below meth c H locs cells slots mc ms ls h
  have hk := h.1
  have ri : rng i := ok_h h.2.2.2.1
  have e2 : conc G.1 (.inr (.inl (1021 + j))) = .ref (adr G.1 (1021 + j)) := rvl_pos (by omega)
  rw [List.map_cons, List.map_cons, e2]
  refine va_tb hk.1 hk.2.1 (hk.2.2.2.2.2.2.2.2.2.2.2.str hj).2.2.2 h.2.2.2.2.2.1 (oI_in (by rw [wlS_n] at hi; exact hi) ri) (v := .int (oI (wcS (j : Int) i))) ?_ hd ?_
  · show Value.int ((WRB.getD j []).getD (oI i).toNatClampNeg 0) = _
    rw [oI_clamp ri]
    obtain ⟨k, rfl⟩ := Int.eq_ofNat_of_zero_le hi.1
    show Value.int ((WRB.getD j []).getD k 0) = Value.int (oI (wcS (j : Int) (k : Int)))
    rw [wcS_n]
    exact congrArg Value.int (Int32.ofInt_toInt _).symm
  · exact kk p e R s m args below meth c H locs cells slots mc ms ls (h.st1 (ok_c (v := .inl (wcS (j : Int) i)) (oI_rng _) (ok_t (ok_t h.2.2.2.1))))
theorem x_ldcS {j : Nat} (hj : j < 11) (hcls : Y.1.cls = RX9) (hd : decode Y.2.1 pc = .ok (.ldc (64 + 2 * j), 2)) (kk : V G Y d kc ks (pc + 2) lv (.inr (.inl (1001 + j)) :: st) n I P Q) : V G Y d kc ks pc lv st n I P Q := by
  intro p e R s m args below meth c H locs cells slots mc ms ls h
  have hk := h.1
  have e2 : conc G.1 (.inr (.inl (1001 + j))) = .ref (adr G.1 (1001 + j)) := rvl_pos (by omega)
  have hR := hk.2.2.2.2.2.2.2.2.2.2.2.2.2.2.2.2.2.1 j hj
  have hown := hk.2.2.2.2.2.1
  rw [hcls] at hown
  rw [show G.1.sp (1 + j) = adr G.1 (1001 + j) from (adr_sp (by omega)).symm] at hR
  refine va_ldcS hk.1 hk.2.1 hown hR hd ?_
  have e4 := kk p e R s m args below meth c H locs cells slots mc ms ls (h.st1 (ok_c (v := .inr (.inl (1001 + j))) trivial h.2.2.2.1))
  rw [List.map_cons, e2] at e4
  exact e4
theorem x_i2c {x : Int} (z : Int) (hd : decode Y.2.1 pc = .ok (.i2c, 1)) (hz : ((oI x).toUInt32 % 65536).toInt32 = oI z) (hr : rng z) (k : V G Y d kc ks (pc + 1) lv (.inl z :: st) n I P Q) : V G Y d kc ks pc lv (.inl x :: st) n I P Q := by
  intro p e R s m args below meth c H locs cells slots mc ms ls h
  refine lv_i2c h.1.1 h.1.2.1 hd hz ?_
  exact k p e R s m args below meth c H locs cells slots mc ms ls (h.st1 (ok_c (v := .inl z) hr (ok_t h.2.2.2.1)))
theorem x_nret {x : Int} {ty : FieldType} {f : Int → Mem → Ptr → Prop} (hd : decode Y.2.1 pc = .ok (.ireturn, 1)) (hret : Y.2.2.2.1 = some ty) (hx : narrow ty (.int (oI x)) = .int (oI x)) (hq : f x I P) : V G Y d kc ks pc lv [.inl x] n I P (qI n f) := by
  intro p e R s m args below meth c H locs cells slots mc ms ls h
  obtain ⟨hk, hb, hL, hS, hR, hSS, hbs⟩ := h
  refine W.widen (k := mc) (n := ms) (by omega) (by omega) ?_
  refine vx_ret ?_
  exact W.zret (v := oI x) hk.1 hk.2.1 (hk.2.2.1.trans hret) hx (fun t ht hW => ⟨some (.inl x), n, I, P, rfl, fun v hv => (by cases hv; exact ok_h hS), ⟨rfl, x, rfl, hq⟩, by rw [ht]; exact hR, hSS.F ht⟩) hSS.2.2 hd hk.2.2.2.2.2.2.1
/-- a call on a word -/
theorem x_callW {j idx na : Nat} {Y2 : MI} {as stk : List AV} {f : Int → Mem → Ptr → Prop} (hj : j < 11) (hC : Cv G Y2 d 0 0 (.inr (.inl (1001 + j)) :: as) n I P (qI n f)) (hd : decode Y.2.1 pc = .ok (.invokevirtual idx, 3)) (hl : LV1 Y.1.cls idx Y2) (hm : MF Y2 na)
    (hcl : Y2.1.cls = "java/lang/String") (hn : as.length = na) (hh : Y2.2.2.2.2 = []) (hs : stk = as.reverse ++ .inr (.inl (1001 + j)) :: st) (hcat : catA st ≤ 8)
    (kk : ∀ r I2 P2, rng r → f r I2 P2 → V G Y (d + 1) kc ks (pc + 3) lv (.inl r :: st) n I2 P2 Q) : V G Y (d + 1) kc ks pc lv stk n I P Q := by
  have key : V G Y (d + 1) (0 + kc) (0 + ks) pc lv stk n I P Q := by
    subst hs
    intro p e R s m args below meth c H locs cells slots mc ms ls h
    obtain ⟨hk, hb, hL, hS, hR, hSS, hbs⟩ := h
    have ea : conc G.1 (.inr (.inl (1001 + j))) = .ref (adr G.1 (1001 + j)) := rvl_pos (by omega)
    have hts := hk.2.2.2.2.1
    have hSt : ∀ v ∈ st, avOK v := fun v hv => hS v (List.mem_append_right _ (List.mem_cons_of_mem _ hv))
    have hSa : ∀ v ∈ (.inr (.inl (1001 + j)) :: as : List AV), avOK v := ok_c trivial (fun v hv => hS v (List.mem_append_left _ (List.mem_reverse.mpr hv)))
    have hSE := hk.2.2.2.2.2.2.2.2.2.2.2
    have hrv : ∃ cell : Cell, H[adr G.1 (1001 + j)]? = some cell ∧ cell.vm.isStatics = false ∧ s.vm.findClass Y2.1.cls = some cell.cls := by
      obtain ⟨cell, h1, h2, h3, -⟩ := (hSE.str hj).1.kept hSS.2.1
      exact ⟨cell, h1, h2, by rw [hcl]; exact h3⟩
    have hM := hC.met nx_I
    have hrun := va_runV (e := e) (below := below) (meth := meth) (locs := locs) (C := Y2.1.cls) (rest := st.map (conc G.1)) (g := F0 m pc ls ((as.reverse ++ .inr (.inl (1001 + j)) :: st).map (conc G.1))) ⟨hk.1, hk.2.1, hk.2.2.2.1, hk.2.2.2.2.2.1, hts⟩ hM ⟨b_call hts hm hh hl.1 hk.2.2.2.2.2.2.2.2.2.1 hk.2.2.2.2.2.2.2.2.2.2.1, hts _ hl.2.1, hts _ hl.2.2⟩
      (b := adr G.1 (1001 + j)) (As := as.map (conc G.1)) ⟨PcO_blind, hrv, fun U hU hW => ?_⟩ rfl (by rw [List.length_map]; exact hn) hL.sz ?_ (lv_room (by rw [catA_sum]; exact hcat)) hd ⟨(by omega : cells + 0 ≤ R.cells), (by omega : slots + 0 ≤ R.slots)⟩
    · refine go_after hrun hSS (fun r n' I' P' H1 locs1 hq hok hR1 hS1 => ?_)
      rw [opt_st]
      obtain ⟨e1, x, hx, hf⟩ := hq
      cases hx
      subst e1
      exact kk x I' P' (hok _ rfl) hf p e R s m args below meth c H1 locs1 (cells + 0) (slots + 0) mc ms ls ⟨hk, ⟨by omega, by omega, hb.2.2⟩, hL, ok_opt hok hSt, hR1, hS1, hbs⟩
    · have := pc_at (as := .inr (.inl (1001 + j)) :: as) hR hSE hSS hSa hU hW
      rw [List.map_cons, ea] at this
      exact this
    · simp [ea]
  rwa [Nat.zero_add, Nat.zero_add] at key
end VJ
section
variable {G : HX} {d : Nat} {n : Nat} {I : Mem} {P : Ptr}
theorem c_S_coder {j : Nat} (hj : j < 11) : Cv G mS_coder d 0 0 [.inr (.inl (1001 + j))] n I P (qI n (fun r I' P' => I' = I ∧ P' = P ∧ r = 0)) := by
  refine x_enter mfS_coder rfl (Nat.le_of_ble_eq_true rfl) (fun _ => ?_)
  refine x_gets (v := .inl 1) dS_coder_0 flS_38 (fun U H h => h.zcs) ⟨by decide, by decide⟩ ?_
  refine x_if_eq (tgt := 13) dS_coder_3 rfl (fun h => absurd h (by decide)) (fun _ => ?_)
  refine y_aln (i := 0) dS_coder_6 (by omega) rfl rfl ?_
  refine x_gfS (j := j) (v := .inl 0) dS_coder_7 flS_15 (fun U H h => (h.str hj).2.1) ⟨by decide, by decide⟩ ?_
  refine x_goto (tgt := 14) dS_coder_10 rfl ?_
  exact x_nret dS_coder_14 rfl (nw_b (by decide)) ⟨rfl, rfl, rfl⟩
theorem c_S_isLatin1 {j : Nat} (hj : j < 11) : Cv G mS_isLatin1 d 0 0 [.inr (.inl (1001 + j))] n I P (qI n (fun r I' P' => I' = I ∧ P' = P ∧ r = 1)) := by
  refine x_enter mfS_isLatin1 rfl (Nat.le_of_ble_eq_true rfl) (fun _ => ?_)
  refine x_gets (v := .inl 1) dS_isLatin1_0 flS_38 (fun U H h => h.zcs) ⟨by decide, by decide⟩ ?_
  refine x_if_eq (tgt := 17) dS_isLatin1_3 rfl (fun h => absurd h (by decide)) (fun _ => ?_)
  refine y_aln (i := 0) dS_isLatin1_6 (by omega) rfl rfl ?_
  refine x_gfS (j := j) (v := .inl 0) dS_isLatin1_7 flS_15 (fun U H h => (h.str hj).2.1) ⟨by decide, by decide⟩ ?_
  refine x_if_ne (tgt := 17) dS_isLatin1_10 rfl (fun h => absurd rfl h) (fun _ => ?_)
  refine y_ic dS_isLatin1_13 ⟨by decide, by decide⟩ ?_
  refine x_goto (tgt := 18) dS_isLatin1_14 rfl ?_
  exact x_nret dS_isLatin1_18 rfl (nw_i (Or.inr ⟨rfl, Or.inr rfl⟩)).1 ⟨rfl, rfl, rfl⟩
theorem shr0_all : (List.range 11).all (fun j => decide (shrF (wlS (j : Int)) 0 = wlS (j : Int))) = true := by decide +kernel
theorem c_S_length {j : Nat} (hj : j < 11) : Cv G mS_length (d + 1) 0 0 [.inr (.inl (1001 + j))] n I P (qI n (fun r I' P' => I' = I ∧ P' = P ∧ r = wlS (j : Int))) := by
  refine x_enter mfS_length rfl (Nat.le_of_ble_eq_true rfl) (fun _ => ?_)
  refine y_aln (i := 0) dS_length_0 (by omega) rfl rfl ?_
  refine x_gfS (j := j) (v := .inr (.inl (1021 + j))) dS_length_1 flS_9 (fun U H h => by rw [show conc G.1 (.inr (.inl (1021 + j))) = .ref (adr G.1 (1021 + j)) from rvl_pos (by omega)]; exact (h.str hj).2.2.1) trivial ?_
  refine x_alenB hj dS_length_4 ?_
  refine y_aln (i := 0) dS_length_5 (by omega) rfl rfl ?_
  refine x_callW (as := []) hj (c_S_coder hj) dS_length_6 lkS_335 mfS_coder rfl rfl rfl rfl (Nat.le_of_ble_eq_true rfl) (fun r I2 P2 _ hf => ?_)
  obtain ⟨rfl, rfl, rfl⟩ := hf
  refine y_ishr dS_length_9 ?_
  rw [of_decide_eq_true (List.all_eq_true.mp shr0_all j (List.mem_range.mpr hj))]
  exact x_iret dS_length_10 rfl ⟨rfl, rfl, rfl⟩
theorem c_P_checkIndex {x y : Int} {q : Nat} (hx : 0 ≤ x ∧ x < y) : Cv G mP_checkIndex d 0 0 [.inl x, .inl y, .inr (.inl q)] n I P (qI n (fun r I' P' => I' = I ∧ P' = P ∧ r = x)) := by
  refine x_enter mfP_checkIndex rfl (Nat.le_of_ble_eq_true rfl) (fun _ => ?_)
  refine x_iload_n (i := 0) dP_checkIndex_0 rfl rfl ?_
  refine x_if_lt (tgt := 9) dP_checkIndex_1 rfl (fun h => absurd h (by omega)) (fun _ => ?_)
  refine x_iload_n (i := 0) dP_checkIndex_4 rfl rfl ?_
  refine x_iload_n (i := 1) dP_checkIndex_5 rfl rfl ?_
  refine x_icmp_lt (tgt := 16) dP_checkIndex_6 rfl (fun _ => ?_) (fun h => absurd h (by omega))
  refine x_iload_n (i := 0) dP_checkIndex_16 rfl rfl ?_
  exact x_iret dP_checkIndex_17 rfl ⟨rfl, rfl, rfl⟩
theorem c_S_checkIndex {x y : Int} (hx : 0 ≤ x ∧ x < y) : Cv G mS_checkIndex (d + 1) 0 0 [.inl x, .inl y] n I P (qV (fun n' I' P' => n' = n ∧ I' = I ∧ P' = P)) := by
  refine x_enter mfS_checkIndex rfl (Nat.le_of_ble_eq_true rfl) (fun _ => ?_)
  refine x_iload_n (i := 0) dS_checkIndex_0 rfl rfl ?_
  refine x_iload_n (i := 1) dS_checkIndex_1 rfl rfl ?_
  refine x_gets (v := .inr (.inl (G.1.sp 41))) dS_checkIndex_2 flS_1053 (fun U H h => h.zfm) trivial ?_
  refine x_callSI (as := [.inl x, .inl y, .inr (.inl (G.1.sp 41))]) (c_P_checkIndex hx) dS_checkIndex_5 lkS_1059 mfP_checkIndex rfl rfl rfl (Nat.le_of_ble_eq_true rfl) (fun r I2 P2 _ hf => ?_)
  obtain ⟨rfl, rfl, rfl⟩ := hf
  refine x_pop dS_checkIndex_8 rfl ?_
  exact x_vret dS_checkIndex_9 rfl ⟨rfl, rfl, rfl⟩
def chrB (j i : Nat) : Bool := decide (andF (wcS (j : Int) (i : Int)) 255 = wcS (j : Int) (i : Int) ∧ ((oI (wcS (j : Int) (i : Int))).toUInt32 % 65536).toInt32 = oI (wcS (j : Int) (i : Int)))
theorem chr_all : (List.range 11).all (fun j => (List.range 6).all (fun i => chrB j i)) = true := by decide +kernel
theorem chr_ok {j : Nat} {i : Int} (hj : j < 11) (hi : 0 ≤ i ∧ i < wlS (j : Int)) : andF (wcS (j : Int) i) 255 = wcS (j : Int) i ∧ ((oI (wcS (j : Int) i)).toUInt32 % 65536).toInt32 = oI (wcS (j : Int) i) := by
  obtain ⟨k, rfl⟩ := Int.eq_ofNat_of_zero_le hi.1
  have hb := WRL_bd hj
  rw [wlS_n] at hi
  exact of_decide_eq_true (List.all_eq_true.mp (List.all_eq_true.mp chr_all j (List.mem_range.mpr hj)) k (List.mem_range.mpr (by omega)))
theorem c_L_charAt {j : Nat} {i : Int} (hj : j < 11) (hi : 0 ≤ i ∧ i < wlS (j : Int)) : Cv G mL_charAt (d + 2) 0 0 [.inr (.inl (1021 + j)), .inl i] n I P (qI n (fun r I' P' => I' = I ∧ P' = P ∧ r = wcS (j : Int) i)) := by
  have ho := chr_ok hj hi
  refine x_enter mfL_charAt rfl (Nat.le_of_ble_eq_true rfl) (fun _ => ?_)
  refine x_iload_n (i := 1) dL_charAt_0 rfl rfl ?_
  refine y_aln (i := 0) dL_charAt_1 (by omega) rfl rfl ?_
  refine x_alenB hj dL_charAt_2 ?_
  refine x_callSV (as := [.inl i, .inl (wlS (j : Int))]) (c_S_checkIndex hi) dL_charAt_3 lkL_9 mfS_checkIndex rfl rfl rfl (Nat.le_of_ble_eq_true rfl) (fun n2 I2 P2 hf => ?_)
  obtain ⟨rfl, rfl, rfl⟩ := hf
  refine y_aln (i := 0) dL_charAt_6 (by omega) rfl rfl ?_
  refine x_iload_n (i := 1) dL_charAt_7 rfl rfl ?_
  refine x_baldW hj hi dL_charAt_8 ?_
  refine y_si dL_charAt_9 ⟨by decide, by decide⟩ ?_
  refine y_iand dL_charAt_12 ?_
  rw [ho.1]
  refine x_i2c (wcS (j : Int) i) dL_charAt_13 ho.2 (oI_rng _) ?_
  exact x_nret dL_charAt_14 rfl (congrArg Value.int ho.2) ⟨rfl, rfl, rfl⟩
theorem c_S_charAt {j : Nat} {i : Int} (hj : j < 11) (hi : 0 ≤ i ∧ i < wlS (j : Int)) : Cv G mS_charAt (d + 3) 0 0 [.inr (.inl (1001 + j)), .inl i] n I P (qI n (fun r I' P' => I' = I ∧ P' = P ∧ r = wcS (j : Int) i)) := by
  have ho := chr_ok hj hi
  refine x_enter mfS_charAt rfl (Nat.le_of_ble_eq_true rfl) (fun _ => ?_)
  refine y_aln (i := 0) dS_charAt_0 (by omega) rfl rfl ?_
  refine x_callW (as := []) hj (c_S_isLatin1 hj) dS_charAt_1 lkS_492 mfS_isLatin1 rfl rfl rfl rfl (Nat.le_of_ble_eq_true rfl) (fun r I2 P2 _ hf => ?_)
  obtain ⟨rfl, rfl, rfl⟩ := hf
  refine x_if_eq (tgt := 16) dS_charAt_4 rfl (fun h => absurd h (by decide)) (fun _ => ?_)
  refine y_aln (i := 0) dS_charAt_7 (by omega) rfl rfl ?_
  refine x_gfS (j := j) (v := .inr (.inl (1021 + j))) dS_charAt_8 flS_9 (fun U H h => by rw [show conc G.1 (.inr (.inl (1021 + j))) = .ref (adr G.1 (1021 + j)) from rvl_pos (by omega)]; exact (h.str hj).2.2.1) trivial ?_
  refine x_iload_n (i := 1) dS_charAt_11 rfl rfl ?_
  refine x_callSI (as := [.inr (.inl (1021 + j)), .inl i]) (c_L_charAt hj hi) dS_charAt_12 lkS_495 mfL_charAt rfl rfl rfl (Nat.le_of_ble_eq_true rfl) (fun r I2 P2 _ hf => ?_)
  obtain ⟨rfl, rfl, rfl⟩ := hf
  exact x_nret dS_charAt_15 rfl (congrArg Value.int ho.2) ⟨rfl, rfl, rfl⟩
end
