/-! ===== printed: the law's loop ===== -/
abbrev mL_law_ (nm : String) (hh : List (Nat × Nat × Nat × Nat)) : MI := (⟨RL, nm, "([I)Z"⟩, cL_law_, 7, some .boolean, hh)
theorem sc1000.ne0 : (1000 : Nat) ≠ 0 := by decide
/-- the script -/
def scv (G : HX) (i : Int) : Int := (G.2.2 i.toNat).toInt
section
variable {G : HX} {Y : MI} {d kc ks pc : Nat} {lv : LV} {st : List AV} {n : Nat} {I : Mem} {P : Ptr} {Q : QT}
theorem adr_sc {G : CX} : adr G 1000 = G.sp 0 := by unfold adr; rw [if_neg (by decide)]
theorem x_sld {i : Int} (hd : decode Y.2.1 pc = .ok (.iaload, 1)) (hi : 0 ≤ i ∧ i < (G.2.1 : Int)) (kk : V G Y d kc ks (pc + 1) lv (.inl (scv G i) :: st) n I P Q) : V G Y d kc ks pc lv (.inl i :: .inr (.inl 1000) :: st) n I P Q := by
  intro p e R s m args below meth c H locs cells slots mc ms ls h
  have hk := h.1
  have ri : rng i := ok_h h.2.2.2.1
  have e2 : conc G.1 (.inr (.inl 1000)) = .ref (G.1.sp 0) := (rvl_pos (by decide)).trans (by rw [adr_sc])
  rw [List.map_cons, List.map_cons, e2]
  have hSE := hk.2.2.2.2.2.2.2.2.2.2.2
  have hX := hSE.2.2.2.2.2.2.2.2.2.2.2
  refine va_sld hk.1 hk.2.1 hX.1 (Nat.lt_of_lt_of_le hX.2 h.2.2.2.2.2.2) (Nat.not_le.mpr hX.2) h.2.2.2.2.2.1 (oI_in hi ri) hd ?_
  rw [oI_clamp ri]
  have h2 := kk p e R s m args below meth c H locs cells slots mc ms ls (h.st1 (ok_c (v := .inl (scv G i)) (oI_rng _) (ok_t (ok_t h.2.2.2.1))))
  have e3 : conc G.1 (.inl (scv G i)) = .int (G.2.2 i.toNat) := congrArg Value.int (Int32.ofInt_toInt _)
  rw [List.map_cons, e3] at h2
  exact h2
theorem x_slen (hd : decode Y.2.1 pc = .ok (.arraylength, 1)) (hL : (G.2.1 : Int) < 2147483648) (kk : V G Y d kc ks (pc + 1) lv (.inl (G.2.1 : Int) :: st) n I P Q) : V G Y d kc ks pc lv (.inr (.inl 1000) :: st) n I P Q := by
  intro p e R s m args below meth c H locs cells slots mc ms ls h
  have hk := h.1
  have e2 : conc G.1 (.inr (.inl 1000)) = .ref (G.1.sp 0) := (rvl_pos (by decide)).trans (by rw [adr_sc])
  rw [List.map_cons, e2]
  have hSE := hk.2.2.2.2.2.2.2.2.2.2.2
  have hX := hSE.2.2.2.2.2.2.2.2.2.2.2
  refine va_slen hk.1 hk.2.1 hX.1 (Nat.lt_of_lt_of_le hX.2 h.2.2.2.2.2.2) (Nat.not_le.mpr hX.2) h.2.2.2.2.2.1 hd ?_
  have h2 := kk p e R s m args below meth c H locs cells slots mc ms ls (h.st1 (ok_c (v := .inl (G.2.1 : Int)) ⟨by omega, hL⟩ (ok_t h.2.2.2.1)))
  have e3 : conc G.1 (.inl (G.2.1 : Int)) = .int (Int32.ofNat G.2.1) := congrArg Value.int (oI_nat G.2.1)
  rw [List.map_cons, e3] at h2
  exact h2
theorem x_callSWI {idx na : Nat} {Y2 : MI} {as stk : List AV} {f : Int → Mem → Ptr → Prop} (hC : Cv G Y2 d 1 6 as n I P (qI n f)) (hd : decode Y.2.1 pc = .ok (.invokestatic idx, 3)) (hl : LS1 Y.1.cls idx Y2) (hm : MF Y2 na) (hn : as.length = na := by rfl) (hh : Y2.2.2.2.2 ≠ [] := by exact fun h => by cases h) (hs : stk = as.reverse ++ st := by rfl) (hcat : catA st ≤ 8 := by decide) (kk : ∀ r I2 P2, rng r → f r I2 P2 → V G Y (d + 1) kc ks (pc + 3) lv (.inl r :: st) n I2 P2 Q) : V G Y (d + 1) (1 + kc) (6 + ks) pc lv stk n I P Q :=
  x_callSW (kc := kc) (ks := ks) hC hd hl hm nx_I hn hh hs hcat (fun r n2 I2 P2 hq hok => by obtain ⟨e1, x, hx, hf⟩ := hq; cases hx; rw [e1]; exact kk x I2 P2 (hok _ rfl) hf)
theorem V.mono {kc' ks' : Nat} (h : V G Y d kc ks pc lv st n I P Q) (h1 : kc ≤ kc') (h2 : ks ≤ ks') : V G Y d kc' ks' pc lv st n I P Q := by
  intro p e R s m args below meth c H locs cells slots mc ms ls hh
  exact h p e R s m args below meth c H locs cells slots mc ms ls ⟨hh.1, ⟨by have := hh.2.1.1; omega, by have := hh.2.1.2.1; omega, hh.2.1.2.2⟩, hh.2.2⟩
end
theorem REL.wp {c : Int} {I : Mem} {P : Ptr} (h : REL c I P) : WP P := by obtain ⟨t, g, T, ha, -⟩ := h; exact ha.1
section
variable {G : HX} {kc ks : Nat} {I : Mem} {P : Ptr} {Q : QT} {nm : String} {hh : List (Nat × Nat × Nat × Nat)} {i c : Int}
theorem lw_c0 (hR : REL c I P) (hi : 0 ≤ i ∧ i + 6 ≤ (G.2.1 : Int)) (hL : (G.2.1 : Int) ≤ 3072) (hN : ∀ K R, REL (c + 1) K R → V G (mL_law_ nm hh) 32 kc ks 1944 [some (.inr (.inl 1000)), some (.inr (.inl 1)), some (.inr (.inl 91)), some (.inr (.inl 145)), some (.inl i), none, none] [] NO K R Q) : V G (mL_law_ nm hh) 32 (1 + kc) (6 + ks) 184 [some (.inr (.inl 1000)), some (.inr (.inl 1)), some (.inr (.inl 91)), some (.inr (.inl 145)), some (.inl i), none, none] [] NO I P Q := by
  obtain ⟨A, hA, hB⟩ := op_feed (G := G) (a := scv G (i + 1)) (b := scv G (i + 2)) (v := scv G (i + 3)) (x := scv G (i + 4)) (e := scv G (i + 5)) hR
  refine y_aln (i := 1) dL_law__184 at1.ne0 rfl rfl ?_
  refine y_aln (i := 0) dL_law__185 sc1000.ne0 rfl rfl ?_
  refine x_iload (i := 4) dL_law__186 rfl ?_
  refine y_ic dL_law__188 ⟨by decide, by decide⟩ ?_
  refine x_iadd dL_law__189 ⟨by omega, by omega⟩ ?_
  refine x_sld dL_law__190 ⟨by omega, by omega⟩ ?_
  refine y_aln (i := 0) dL_law__191 sc1000.ne0 rfl rfl ?_
  refine x_iload (i := 4) dL_law__192 rfl ?_
  refine y_ic dL_law__194 ⟨by decide, by decide⟩ ?_
  refine x_iadd dL_law__195 ⟨by omega, by omega⟩ ?_
  refine x_sld dL_law__196 ⟨by omega, by omega⟩ ?_
  refine y_aln (i := 0) dL_law__197 sc1000.ne0 rfl rfl ?_
  refine x_iload (i := 4) dL_law__198 rfl ?_
  refine y_ic dL_law__200 ⟨by decide, by decide⟩ ?_
  refine x_iadd dL_law__201 ⟨by omega, by omega⟩ ?_
  refine x_sld dL_law__202 ⟨by omega, by omega⟩ ?_
  refine y_aln (i := 0) dL_law__203 sc1000.ne0 rfl rfl ?_
  refine x_iload (i := 4) dL_law__204 rfl ?_
  refine y_ic dL_law__206 ⟨by decide, by decide⟩ ?_
  refine x_iadd dL_law__207 ⟨by omega, by omega⟩ ?_
  refine x_sld dL_law__208 ⟨by omega, by omega⟩ ?_
  refine y_aln (i := 0) dL_law__209 sc1000.ne0 rfl rfl ?_
  refine x_iload (i := 4) dL_law__210 rfl ?_
  refine y_ic dL_law__212 ⟨by decide, by decide⟩ ?_
  refine x_iadd dL_law__213 ⟨by omega, by omega⟩ ?_
  refine x_sld dL_law__214 ⟨by omega, by omega⟩ ?_
  refine x_callVI (hA) dL_law__215 lkL_95 mfX11_feed cfX11 at1 rfl rfl rfl rfl (Nat.le_of_ble_eq_true rfl) (fun r215 I215 P215 hr215 hf215 => ?_)
  obtain ⟨B, hB1, hB2⟩ := hB _ _ _ hf215
  refine y_aln (i := 2) dL_law__218 at91.ne0 rfl rfl ?_
  refine y_aln (i := 0) dL_law__219 sc1000.ne0 rfl rfl ?_
  refine x_iload (i := 4) dL_law__220 rfl ?_
  refine y_ic dL_law__222 ⟨by decide, by decide⟩ ?_
  refine x_iadd dL_law__223 ⟨by omega, by omega⟩ ?_
  refine x_sld dL_law__224 ⟨by omega, by omega⟩ ?_
  refine y_aln (i := 0) dL_law__225 sc1000.ne0 rfl rfl ?_
  refine x_iload (i := 4) dL_law__226 rfl ?_
  refine y_ic dL_law__228 ⟨by decide, by decide⟩ ?_
  refine x_iadd dL_law__229 ⟨by omega, by omega⟩ ?_
  refine x_sld dL_law__230 ⟨by omega, by omega⟩ ?_
  refine y_aln (i := 0) dL_law__231 sc1000.ne0 rfl rfl ?_
  refine x_iload (i := 4) dL_law__232 rfl ?_
  refine y_ic dL_law__234 ⟨by decide, by decide⟩ ?_
  refine x_iadd dL_law__235 ⟨by omega, by omega⟩ ?_
  refine x_sld dL_law__236 ⟨by omega, by omega⟩ ?_
  refine y_aln (i := 0) dL_law__237 sc1000.ne0 rfl rfl ?_
  refine x_iload (i := 4) dL_law__238 rfl ?_
  refine y_ic dL_law__240 ⟨by decide, by decide⟩ ?_
  refine x_iadd dL_law__241 ⟨by omega, by omega⟩ ?_
  refine x_sld dL_law__242 ⟨by omega, by omega⟩ ?_
  refine y_aln (i := 0) dL_law__243 sc1000.ne0 rfl rfl ?_
  refine x_iload (i := 4) dL_law__244 rfl ?_
  refine y_ic dL_law__246 ⟨by decide, by decide⟩ ?_
  refine x_iadd dL_law__247 ⟨by omega, by omega⟩ ?_
  refine x_sld dL_law__248 ⟨by omega, by omega⟩ ?_
  refine x_callVI (hB1) dL_law__249 lkL_98 mfX12_feed cfX12 at91 rfl rfl rfl rfl (Nat.le_of_ble_eq_true rfl) (fun r249 I249 P249 hr249 hf249 => ?_)
  obtain ⟨ek, hR2⟩ := hB2 _ _ _ hf249
  refine x_icmp_eq (tgt := 1944) dL_law__252 rfl (fun h252 => ?_) (fun h252 => ?_)
  · refine x_keep [1, 1, 1, 1, 1, 0, 0] ?_
    exact V.mono (hN _ _ hR2) (by omega) (by omega)
  · exact absurd ek.symm h252
theorem lw_c1 (hR : REL c I P) (hc : c ≤ 1000) (hi : 0 ≤ i ∧ i + 6 ≤ (G.2.1 : Int)) (hL : (G.2.1 : Int) ≤ 3072) (hN : ∀ K R, REL (c + 1) K R → V G (mL_law_ nm hh) 32 kc ks 1944 [some (.inr (.inl 1000)), some (.inr (.inl 1)), some (.inr (.inl 91)), some (.inr (.inl 145)), some (.inl i), none, none] [] NO K R Q) : V G (mL_law_ nm hh) 32 (1 + kc) (6 + ks) 257 [some (.inr (.inl 1000)), some (.inr (.inl 1)), some (.inr (.inl 91)), some (.inr (.inl 145)), some (.inl i), none, none] [] NO I P Q := by
  obtain ⟨A, hA, hB⟩ := op_town (G := G) (n := scv G (i + 1)) hR hc
  refine y_aln (i := 1) dL_law__257 at1.ne0 rfl rfl ?_
  refine y_aln (i := 0) dL_law__258 sc1000.ne0 rfl rfl ?_
  refine x_iload (i := 4) dL_law__259 rfl ?_
  refine y_ic dL_law__261 ⟨by decide, by decide⟩ ?_
  refine x_iadd dL_law__262 ⟨by omega, by omega⟩ ?_
  refine x_sld dL_law__263 ⟨by omega, by omega⟩ ?_
  refine y_aln (i := 3) dL_law__264 ar145.ne0 rfl rfl ?_
  refine x_callSWI (hA) dL_law__265 lkL_99 mfL_town rfl (fun h => nomatch h) rfl (Nat.le_of_ble_eq_true rfl) (fun r265 I265 P265 hr265 hf265 => ?_)
  obtain ⟨B, hB1, hB2⟩ := hB _ _ _ hf265
  refine x_istore (i := 5) dL_law__268 rfl (Nat.le_of_ble_eq_true rfl) ?_
  refine y_aln (i := 2) dL_law__270 at91.ne0 rfl rfl ?_
  refine y_aln (i := 0) dL_law__271 sc1000.ne0 rfl rfl ?_
  refine x_iload (i := 4) dL_law__272 rfl ?_
  refine y_ic dL_law__274 ⟨by decide, by decide⟩ ?_
  refine x_iadd dL_law__275 ⟨by omega, by omega⟩ ?_
  refine x_sld dL_law__276 ⟨by omega, by omega⟩ ?_
  refine x_callVI (hB1) dL_law__277 lkL_104 mfX12_town cfX12 at91 rfl rfl rfl rfl (Nat.le_of_ble_eq_true rfl) (fun r277 I277 P277 hr277 hf277 => ?_)
  obtain ⟨ek, eo, hR2⟩ := hB2 _ _ _ hf277
  refine x_istore (i := 6) dL_law__280 rfl (Nat.le_of_ble_eq_true rfl) ?_
  refine y_aln (i := 2) dL_law__282 at91.ne0 rfl rfl ?_
  refine x_callVI (c_X12_thrown hR2.wp) dL_law__283 lkL_105 mfX12_thrown cfX12 at91 rfl rfl rfl rfl (Nat.le_of_ble_eq_true rfl) (fun r283 I283 P283 hr283 hf283 => ?_)
  obtain ⟨i283, p283, q283⟩ := hf283
  rw [i283, p283, q283]
  refine x_iload (i := 5) dL_law__286 rfl ?_
  refine x_icmp_eq (tgt := 293) dL_law__288 rfl (fun h288 => ?_) (fun h288 => ?_)
  · refine x_iload (i := 5) dL_law__293 rfl ?_
    refine x_if_ne (tgt := 310) dL_law__295 rfl (fun h295 => ?_) (fun h295 => ?_)
    · refine x_goto (tgt := 1944) dL_law__310 rfl ?_
      refine x_keep [1, 1, 1, 1, 1, 0, 0] ?_
      exact V.mono (hN _ _ hR2) (by omega) (by omega)
    · refine y_aln (i := 3) dL_law__298 ar145.ne0 rfl rfl ?_
      refine y_ic dL_law__299 ⟨by decide, by decide⟩ ?_
      refine x_lald dL_law__300 ar145 ⟨by omega, by omega⟩ ?_
      refine x_iload (i := 6) dL_law__301 rfl ?_
      refine x_i2l dL_law__303 ?_
      refine x_lcmp dL_law__304 ?_
      refine x_if_eq (tgt := 310) dL_law__305 rfl (fun h305 => ?_) (fun h305 => ?_)
      · refine x_goto (tgt := 1944) dL_law__310 rfl ?_
        refine x_keep [1, 1, 1, 1, 1, 0, 0] ?_
        exact V.mono (hN _ _ hR2) (by omega) (by omega)
      · exact absurd (cmpI_0.mpr (eo (by omega))) h305
  · exact absurd ek h288
theorem lw_c2 (hR : REL c I P) (hi : 0 ≤ i ∧ i + 6 ≤ (G.2.1 : Int)) (hL : (G.2.1 : Int) ≤ 3072) (hN : ∀ K R, REL (c + 1) K R → V G (mL_law_ nm hh) 32 kc ks 1944 [some (.inr (.inl 1000)), some (.inr (.inl 1)), some (.inr (.inl 91)), some (.inr (.inl 145)), some (.inl i), none, none] [] NO K R Q) : V G (mL_law_ nm hh) 32 (1 + kc) (6 + ks) 313 [some (.inr (.inl 1000)), some (.inr (.inl 1)), some (.inr (.inl 91)), some (.inr (.inl 145)), some (.inl i), none, none] [] NO I P Q := by
  obtain ⟨A, hA, hB⟩ := op_fault (G := G)  hR
  refine y_aln (i := 1) dL_law__313 at1.ne0 rfl rfl ?_
  refine x_callVI (hA) dL_law__314 lkL_109 mfX11_fault cfX11 at1 rfl rfl rfl rfl (Nat.le_of_ble_eq_true rfl) (fun r314 I314 P314 hr314 hf314 => ?_)
  obtain ⟨B, hB1, hB2⟩ := hB _ _ _ hf314
  refine y_aln (i := 2) dL_law__317 at91.ne0 rfl rfl ?_
  refine x_callVI (hB1) dL_law__318 lkL_112 mfX12_fault cfX12 at91 rfl rfl rfl rfl (Nat.le_of_ble_eq_true rfl) (fun r318 I318 P318 hr318 hf318 => ?_)
  obtain ⟨ek, hR2⟩ := hB2 _ _ _ hf318
  refine x_icmp_eq (tgt := 1944) dL_law__321 rfl (fun h321 => ?_) (fun h321 => ?_)
  · refine x_keep [1, 1, 1, 1, 1, 0, 0] ?_
    exact V.mono (hN _ _ hR2) (by omega) (by omega)
  · exact absurd ek.symm h321
theorem lw_c3 (hR : REL c I P) (hi : 0 ≤ i ∧ i + 6 ≤ (G.2.1 : Int)) (hL : (G.2.1 : Int) ≤ 3072) (hN : ∀ K R, REL (c + 1) K R → V G (mL_law_ nm hh) 32 kc ks 1944 [some (.inr (.inl 1000)), some (.inr (.inl 1)), some (.inr (.inl 91)), some (.inr (.inl 145)), some (.inl i), none, none] [] NO K R Q) : V G (mL_law_ nm hh) 32 (1 + kc) (6 + ks) 326 [some (.inr (.inl 1000)), some (.inr (.inl 1)), some (.inr (.inl 91)), some (.inr (.inl 145)), some (.inl i), none, none] [] NO I P Q := by
  obtain ⟨A, hA, hB⟩ := op_count (G := G) (w := scv G (i + 1)) hR
  refine y_aln (i := 1) dL_law__326 at1.ne0 rfl rfl ?_
  refine y_aln (i := 0) dL_law__327 sc1000.ne0 rfl rfl ?_
  refine x_iload (i := 4) dL_law__328 rfl ?_
  refine y_ic dL_law__330 ⟨by decide, by decide⟩ ?_
  refine x_iadd dL_law__331 ⟨by omega, by omega⟩ ?_
  refine x_sld dL_law__332 ⟨by omega, by omega⟩ ?_
  refine y_aln (i := 3) dL_law__333 ar145.ne0 rfl rfl ?_
  refine x_callSWI (hA) dL_law__334 lkL_113 mfL_count rfl (fun h => nomatch h) rfl (Nat.le_of_ble_eq_true rfl) (fun r334 I334 P334 hr334 hf334 => ?_)
  obtain ⟨B, hB1, hB2⟩ := hB _ _ _ hf334
  refine x_istore (i := 5) dL_law__337 rfl (Nat.le_of_ble_eq_true rfl) ?_
  refine y_aln (i := 2) dL_law__339 at91.ne0 rfl rfl ?_
  refine y_aln (i := 0) dL_law__340 sc1000.ne0 rfl rfl ?_
  refine x_iload (i := 4) dL_law__341 rfl ?_
  refine y_ic dL_law__343 ⟨by decide, by decide⟩ ?_
  refine x_iadd dL_law__344 ⟨by omega, by omega⟩ ?_
  refine x_sld dL_law__345 ⟨by omega, by omega⟩ ?_
  refine x_callVI (hB1) dL_law__346 lkL_115 mfX12_count cfX12 at91 rfl rfl rfl rfl (Nat.le_of_ble_eq_true rfl) (fun r346 I346 P346 hr346 hf346 => ?_)
  obtain ⟨ek, eo, hR2⟩ := hB2 _ _ _ hf346
  refine x_istore (i := 6) dL_law__349 rfl (Nat.le_of_ble_eq_true rfl) ?_
  refine y_aln (i := 2) dL_law__351 at91.ne0 rfl rfl ?_
  refine x_callVI (c_X12_thrown hR2.wp) dL_law__352 lkL_105 mfX12_thrown cfX12 at91 rfl rfl rfl rfl (Nat.le_of_ble_eq_true rfl) (fun r352 I352 P352 hr352 hf352 => ?_)
  obtain ⟨i352, p352, q352⟩ := hf352
  rw [i352, p352, q352]
  refine x_iload (i := 5) dL_law__355 rfl ?_
  refine x_icmp_eq (tgt := 362) dL_law__357 rfl (fun h357 => ?_) (fun h357 => ?_)
  · refine x_iload (i := 5) dL_law__362 rfl ?_
    refine x_if_ne (tgt := 379) dL_law__364 rfl (fun h364 => ?_) (fun h364 => ?_)
    · refine x_goto (tgt := 1944) dL_law__379 rfl ?_
      refine x_keep [1, 1, 1, 1, 1, 0, 0] ?_
      exact V.mono (hN _ _ hR2) (by omega) (by omega)
    · refine y_aln (i := 3) dL_law__367 ar145.ne0 rfl rfl ?_
      refine y_ic dL_law__368 ⟨by decide, by decide⟩ ?_
      refine x_lald dL_law__369 ar145 ⟨by omega, by omega⟩ ?_
      refine x_iload (i := 6) dL_law__370 rfl ?_
      refine x_i2l dL_law__372 ?_
      refine x_lcmp dL_law__373 ?_
      refine x_if_eq (tgt := 379) dL_law__374 rfl (fun h374 => ?_) (fun h374 => ?_)
      · refine x_goto (tgt := 1944) dL_law__379 rfl ?_
        refine x_keep [1, 1, 1, 1, 1, 0, 0] ?_
        exact V.mono (hN _ _ hR2) (by omega) (by omega)
      · exact absurd (cmpI_0.mpr (eo (by omega))) h374
  · exact absurd ek h357
theorem lw_c4 (hR : REL c I P) (hi : 0 ≤ i ∧ i + 6 ≤ (G.2.1 : Int)) (hL : (G.2.1 : Int) ≤ 3072) (hN : ∀ K R, REL (c + 1) K R → V G (mL_law_ nm hh) 32 kc ks 1944 [some (.inr (.inl 1000)), some (.inr (.inl 1)), some (.inr (.inl 91)), some (.inr (.inl 145)), some (.inl i), none, none] [] NO K R Q) : V G (mL_law_ nm hh) 32 (1 + kc) (6 + ks) 382 [some (.inr (.inl 1000)), some (.inr (.inl 1)), some (.inr (.inl 91)), some (.inr (.inl 145)), some (.inl i), none, none] [] NO I P Q := by
  obtain ⟨A, hA, hB⟩ := op_has (G := G) (p := scv G (i + 1)) (s := scv G (i + 2)) hR
  refine y_aln (i := 1) dL_law__382 at1.ne0 rfl rfl ?_
  refine y_aln (i := 0) dL_law__383 sc1000.ne0 rfl rfl ?_
  refine x_iload (i := 4) dL_law__384 rfl ?_
  refine y_ic dL_law__386 ⟨by decide, by decide⟩ ?_
  refine x_iadd dL_law__387 ⟨by omega, by omega⟩ ?_
  refine x_sld dL_law__388 ⟨by omega, by omega⟩ ?_
  refine y_aln (i := 0) dL_law__389 sc1000.ne0 rfl rfl ?_
  refine x_iload (i := 4) dL_law__390 rfl ?_
  refine y_ic dL_law__392 ⟨by decide, by decide⟩ ?_
  refine x_iadd dL_law__393 ⟨by omega, by omega⟩ ?_
  refine x_sld dL_law__394 ⟨by omega, by omega⟩ ?_
  refine y_aln (i := 3) dL_law__395 ar145.ne0 rfl rfl ?_
  refine x_callSWI (hA) dL_law__396 lkL_116 mfL_has rfl (fun h => nomatch h) rfl (Nat.le_of_ble_eq_true rfl) (fun r396 I396 P396 hr396 hf396 => ?_)
  obtain ⟨B, hB1, hB2⟩ := hB _ _ _ hf396
  refine x_istore (i := 5) dL_law__399 rfl (Nat.le_of_ble_eq_true rfl) ?_
  refine y_aln (i := 2) dL_law__401 at91.ne0 rfl rfl ?_
  refine y_aln (i := 0) dL_law__402 sc1000.ne0 rfl rfl ?_
  refine x_iload (i := 4) dL_law__403 rfl ?_
  refine y_ic dL_law__405 ⟨by decide, by decide⟩ ?_
  refine x_iadd dL_law__406 ⟨by omega, by omega⟩ ?_
  refine x_sld dL_law__407 ⟨by omega, by omega⟩ ?_
  refine y_aln (i := 0) dL_law__408 sc1000.ne0 rfl rfl ?_
  refine x_iload (i := 4) dL_law__409 rfl ?_
  refine y_ic dL_law__411 ⟨by decide, by decide⟩ ?_
  refine x_iadd dL_law__412 ⟨by omega, by omega⟩ ?_
  refine x_sld dL_law__413 ⟨by omega, by omega⟩ ?_
  refine x_callVI (hB1) dL_law__414 lkL_119 mfX12_has cfX12 at91 rfl rfl rfl rfl (Nat.le_of_ble_eq_true rfl) (fun r414 I414 P414 hr414 hf414 => ?_)
  obtain ⟨ek, eo, hR2⟩ := hB2 _ _ _ hf414
  refine x_istore (i := 6) dL_law__417 rfl (Nat.le_of_ble_eq_true rfl) ?_
  refine y_aln (i := 2) dL_law__419 at91.ne0 rfl rfl ?_
  refine x_callVI (c_X12_thrown hR2.wp) dL_law__420 lkL_105 mfX12_thrown cfX12 at91 rfl rfl rfl rfl (Nat.le_of_ble_eq_true rfl) (fun r420 I420 P420 hr420 hf420 => ?_)
  obtain ⟨i420, p420, q420⟩ := hf420
  rw [i420, p420, q420]
  refine x_iload (i := 5) dL_law__423 rfl ?_
  refine x_icmp_eq (tgt := 430) dL_law__425 rfl (fun h425 => ?_) (fun h425 => ?_)
  · refine x_iload (i := 5) dL_law__430 rfl ?_
    refine x_if_ne (tgt := 447) dL_law__432 rfl (fun h432 => ?_) (fun h432 => ?_)
    · refine x_goto (tgt := 1944) dL_law__447 rfl ?_
      refine x_keep [1, 1, 1, 1, 1, 0, 0] ?_
      exact V.mono (hN _ _ hR2) (by omega) (by omega)
    · refine y_aln (i := 3) dL_law__435 ar145.ne0 rfl rfl ?_
      refine y_ic dL_law__436 ⟨by decide, by decide⟩ ?_
      refine x_lald dL_law__437 ar145 ⟨by omega, by omega⟩ ?_
      refine x_iload (i := 6) dL_law__438 rfl ?_
      refine x_i2l dL_law__440 ?_
      refine x_lcmp dL_law__441 ?_
      refine x_if_eq (tgt := 447) dL_law__442 rfl (fun h442 => ?_) (fun h442 => ?_)
      · refine x_goto (tgt := 1944) dL_law__447 rfl ?_
        refine x_keep [1, 1, 1, 1, 1, 0, 0] ?_
        exact V.mono (hN _ _ hR2) (by omega) (by omega)
      · exact absurd (cmpI_0.mpr (eo (by omega))) h442
  · exact absurd ek h425
theorem lw_c5 (hR : REL c I P) (hi : 0 ≤ i ∧ i + 6 ≤ (G.2.1 : Int)) (hL : (G.2.1 : Int) ≤ 3072) (hN : ∀ K R, REL (c + 1) K R → V G (mL_law_ nm hh) 32 kc ks 1944 [some (.inr (.inl 1000)), some (.inr (.inl 1)), some (.inr (.inl 91)), some (.inr (.inl 145)), some (.inl i), none, none] [] NO K R Q) : V G (mL_law_ nm hh) 32 (1 + kc) (6 + ks) 450 [some (.inr (.inl 1000)), some (.inr (.inl 1)), some (.inr (.inl 91)), some (.inr (.inl 145)), some (.inl i), none, none] [] NO I P Q := by
  obtain ⟨A, hA, hB⟩ := op_likes (G := G) (p := scv G (i + 1)) (s := scv G (i + 2)) hR
  refine y_aln (i := 1) dL_law__450 at1.ne0 rfl rfl ?_
  refine y_aln (i := 0) dL_law__451 sc1000.ne0 rfl rfl ?_
  refine x_iload (i := 4) dL_law__452 rfl ?_
  refine y_ic dL_law__454 ⟨by decide, by decide⟩ ?_
  refine x_iadd dL_law__455 ⟨by omega, by omega⟩ ?_
  refine x_sld dL_law__456 ⟨by omega, by omega⟩ ?_
  refine y_aln (i := 0) dL_law__457 sc1000.ne0 rfl rfl ?_
  refine x_iload (i := 4) dL_law__458 rfl ?_
  refine y_ic dL_law__460 ⟨by decide, by decide⟩ ?_
  refine x_iadd dL_law__461 ⟨by omega, by omega⟩ ?_
  refine x_sld dL_law__462 ⟨by omega, by omega⟩ ?_
  refine y_aln (i := 3) dL_law__463 ar145.ne0 rfl rfl ?_
  refine x_callSWI (hA) dL_law__464 lkL_120 mfL_likes rfl (fun h => nomatch h) rfl (Nat.le_of_ble_eq_true rfl) (fun r464 I464 P464 hr464 hf464 => ?_)
  obtain ⟨B, hB1, hB2⟩ := hB _ _ _ hf464
  refine x_istore (i := 5) dL_law__467 rfl (Nat.le_of_ble_eq_true rfl) ?_
  refine y_aln (i := 2) dL_law__469 at91.ne0 rfl rfl ?_
  refine y_aln (i := 0) dL_law__470 sc1000.ne0 rfl rfl ?_
  refine x_iload (i := 4) dL_law__471 rfl ?_
  refine y_ic dL_law__473 ⟨by decide, by decide⟩ ?_
  refine x_iadd dL_law__474 ⟨by omega, by omega⟩ ?_
  refine x_sld dL_law__475 ⟨by omega, by omega⟩ ?_
  refine y_aln (i := 0) dL_law__476 sc1000.ne0 rfl rfl ?_
  refine x_iload (i := 4) dL_law__477 rfl ?_
  refine y_ic dL_law__479 ⟨by decide, by decide⟩ ?_
  refine x_iadd dL_law__480 ⟨by omega, by omega⟩ ?_
  refine x_sld dL_law__481 ⟨by omega, by omega⟩ ?_
  refine x_callVI (hB1) dL_law__482 lkL_122 mfX12_likes cfX12 at91 rfl rfl rfl rfl (Nat.le_of_ble_eq_true rfl) (fun r482 I482 P482 hr482 hf482 => ?_)
  obtain ⟨ek, eo, hR2⟩ := hB2 _ _ _ hf482
  refine x_istore (i := 6) dL_law__485 rfl (Nat.le_of_ble_eq_true rfl) ?_
  refine y_aln (i := 2) dL_law__487 at91.ne0 rfl rfl ?_
  refine x_callVI (c_X12_thrown hR2.wp) dL_law__488 lkL_105 mfX12_thrown cfX12 at91 rfl rfl rfl rfl (Nat.le_of_ble_eq_true rfl) (fun r488 I488 P488 hr488 hf488 => ?_)
  obtain ⟨i488, p488, q488⟩ := hf488
  rw [i488, p488, q488]
  refine x_iload (i := 5) dL_law__491 rfl ?_
  refine x_icmp_eq (tgt := 498) dL_law__493 rfl (fun h493 => ?_) (fun h493 => ?_)
  · refine x_iload (i := 5) dL_law__498 rfl ?_
    refine x_if_ne (tgt := 515) dL_law__500 rfl (fun h500 => ?_) (fun h500 => ?_)
    · refine x_goto (tgt := 1944) dL_law__515 rfl ?_
      refine x_keep [1, 1, 1, 1, 1, 0, 0] ?_
      exact V.mono (hN _ _ hR2) (by omega) (by omega)
    · refine y_aln (i := 3) dL_law__503 ar145.ne0 rfl rfl ?_
      refine y_ic dL_law__504 ⟨by decide, by decide⟩ ?_
      refine x_lald dL_law__505 ar145 ⟨by omega, by omega⟩ ?_
      refine x_iload (i := 6) dL_law__506 rfl ?_
      refine x_i2l dL_law__508 ?_
      refine x_lcmp dL_law__509 ?_
      refine x_if_eq (tgt := 515) dL_law__510 rfl (fun h510 => ?_) (fun h510 => ?_)
      · refine x_goto (tgt := 1944) dL_law__515 rfl ?_
        refine x_keep [1, 1, 1, 1, 1, 0, 0] ?_
        exact V.mono (hN _ _ hR2) (by omega) (by omega)
      · exact absurd (cmpI_0.mpr (eo (by omega))) h510
  · exact absurd ek h493
theorem lw_c6 (hR : REL c I P) (hi : 0 ≤ i ∧ i + 6 ≤ (G.2.1 : Int)) (hL : (G.2.1 : Int) ≤ 3072) (hN : ∀ K R, REL (c + 1) K R → V G (mL_law_ nm hh) 32 kc ks 1944 [some (.inr (.inl 1000)), some (.inr (.inl 1)), some (.inr (.inl 91)), some (.inr (.inl 145)), some (.inl i), none, none] [] NO K R Q) : V G (mL_law_ nm hh) 32 (1 + kc) (6 + ks) 518 [some (.inr (.inl 1000)), some (.inr (.inl 1)), some (.inr (.inl 91)), some (.inr (.inl 145)), some (.inl i), none, none] [] NO I P Q := by
  obtain ⟨A, hA, hB⟩ := op_worth (G := G) (p := scv G (i + 1)) hR
  refine y_aln (i := 1) dL_law__518 at1.ne0 rfl rfl ?_
  refine y_aln (i := 0) dL_law__519 sc1000.ne0 rfl rfl ?_
  refine x_iload (i := 4) dL_law__520 rfl ?_
  refine y_ic dL_law__522 ⟨by decide, by decide⟩ ?_
  refine x_iadd dL_law__523 ⟨by omega, by omega⟩ ?_
  refine x_sld dL_law__524 ⟨by omega, by omega⟩ ?_
  refine y_aln (i := 3) dL_law__525 ar145.ne0 rfl rfl ?_
  refine x_callSWI (hA) dL_law__526 lkL_123 mfL_worth rfl (fun h => nomatch h) rfl (Nat.le_of_ble_eq_true rfl) (fun r526 I526 P526 hr526 hf526 => ?_)
  obtain ⟨B, hB1, hB2⟩ := hB _ _ _ hf526
  refine x_istore (i := 5) dL_law__529 rfl (Nat.le_of_ble_eq_true rfl) ?_
  refine y_aln (i := 2) dL_law__531 at91.ne0 rfl rfl ?_
  refine y_aln (i := 0) dL_law__532 sc1000.ne0 rfl rfl ?_
  refine x_iload (i := 4) dL_law__533 rfl ?_
  refine y_ic dL_law__535 ⟨by decide, by decide⟩ ?_
  refine x_iadd dL_law__536 ⟨by omega, by omega⟩ ?_
  refine x_sld dL_law__537 ⟨by omega, by omega⟩ ?_
  refine x_callVI (hB1) dL_law__538 lkL_125 mfX12_worth cfX12 at91 rfl rfl rfl rfl (Nat.le_of_ble_eq_true rfl) (fun r538 I538 P538 hr538 hf538 => ?_)
  obtain ⟨ek, eo, hR2⟩ := hB2 _ _ _ hf538
  refine x_istore (i := 6) dL_law__541 rfl (Nat.le_of_ble_eq_true rfl) ?_
  refine y_aln (i := 2) dL_law__543 at91.ne0 rfl rfl ?_
  refine x_callVI (c_X12_thrown hR2.wp) dL_law__544 lkL_105 mfX12_thrown cfX12 at91 rfl rfl rfl rfl (Nat.le_of_ble_eq_true rfl) (fun r544 I544 P544 hr544 hf544 => ?_)
  obtain ⟨i544, p544, q544⟩ := hf544
  rw [i544, p544, q544]
  refine x_iload (i := 5) dL_law__547 rfl ?_
  refine x_icmp_eq (tgt := 554) dL_law__549 rfl (fun h549 => ?_) (fun h549 => ?_)
  · refine x_iload (i := 5) dL_law__554 rfl ?_
    refine x_if_ne (tgt := 571) dL_law__556 rfl (fun h556 => ?_) (fun h556 => ?_)
    · refine x_goto (tgt := 1944) dL_law__571 rfl ?_
      refine x_keep [1, 1, 1, 1, 1, 0, 0] ?_
      exact V.mono (hN _ _ hR2) (by omega) (by omega)
    · refine y_aln (i := 3) dL_law__559 ar145.ne0 rfl rfl ?_
      refine y_ic dL_law__560 ⟨by decide, by decide⟩ ?_
      refine x_lald dL_law__561 ar145 ⟨by omega, by omega⟩ ?_
      refine x_iload (i := 6) dL_law__562 rfl ?_
      refine x_i2l dL_law__564 ?_
      refine x_lcmp dL_law__565 ?_
      refine x_if_eq (tgt := 571) dL_law__566 rfl (fun h566 => ?_) (fun h566 => ?_)
      · refine x_goto (tgt := 1944) dL_law__571 rfl ?_
        refine x_keep [1, 1, 1, 1, 1, 0, 0] ?_
        exact V.mono (hN _ _ hR2) (by omega) (by omega)
      · exact absurd (cmpI_0.mpr (eo (by omega))) h566
  · exact absurd ek h549
theorem lw_c7 (hR : REL c I P) (hi : 0 ≤ i ∧ i + 6 ≤ (G.2.1 : Int)) (hL : (G.2.1 : Int) ≤ 3072) (hN : ∀ K R, REL (c + 1) K R → V G (mL_law_ nm hh) 32 kc ks 1944 [some (.inr (.inl 1000)), some (.inr (.inl 1)), some (.inr (.inl 91)), some (.inr (.inl 145)), some (.inl i), none, none] [] NO K R Q) : V G (mL_law_ nm hh) 32 (1 + kc) (6 + ks) 574 [some (.inr (.inl 1000)), some (.inr (.inl 1)), some (.inr (.inl 91)), some (.inr (.inl 145)), some (.inl i), none, none] [] NO I P Q := by
  obtain ⟨A, hA, hB⟩ := op_left (G := G) (s := scv G (i + 1)) hR
  refine y_aln (i := 1) dL_law__574 at1.ne0 rfl rfl ?_
  refine y_aln (i := 0) dL_law__575 sc1000.ne0 rfl rfl ?_
  refine x_iload (i := 4) dL_law__576 rfl ?_
  refine y_ic dL_law__578 ⟨by decide, by decide⟩ ?_
  refine x_iadd dL_law__579 ⟨by omega, by omega⟩ ?_
  refine x_sld dL_law__580 ⟨by omega, by omega⟩ ?_
  refine y_aln (i := 3) dL_law__581 ar145.ne0 rfl rfl ?_
  refine x_callSWI (hA) dL_law__582 lkL_126 mfL_left rfl (fun h => nomatch h) rfl (Nat.le_of_ble_eq_true rfl) (fun r582 I582 P582 hr582 hf582 => ?_)
  obtain ⟨B, hB1, hB2⟩ := hB _ _ _ hf582
  refine x_istore (i := 5) dL_law__585 rfl (Nat.le_of_ble_eq_true rfl) ?_
  refine y_aln (i := 2) dL_law__587 at91.ne0 rfl rfl ?_
  refine y_aln (i := 0) dL_law__588 sc1000.ne0 rfl rfl ?_
  refine x_iload (i := 4) dL_law__589 rfl ?_
  refine y_ic dL_law__591 ⟨by decide, by decide⟩ ?_
  refine x_iadd dL_law__592 ⟨by omega, by omega⟩ ?_
  refine x_sld dL_law__593 ⟨by omega, by omega⟩ ?_
  refine x_callVI (hB1) dL_law__594 lkL_128 mfX12_left cfX12 at91 rfl rfl rfl rfl (Nat.le_of_ble_eq_true rfl) (fun r594 I594 P594 hr594 hf594 => ?_)
  obtain ⟨ek, eo, hR2⟩ := hB2 _ _ _ hf594
  refine x_istore (i := 6) dL_law__597 rfl (Nat.le_of_ble_eq_true rfl) ?_
  refine y_aln (i := 2) dL_law__599 at91.ne0 rfl rfl ?_
  refine x_callVI (c_X12_thrown hR2.wp) dL_law__600 lkL_105 mfX12_thrown cfX12 at91 rfl rfl rfl rfl (Nat.le_of_ble_eq_true rfl) (fun r600 I600 P600 hr600 hf600 => ?_)
  obtain ⟨i600, p600, q600⟩ := hf600
  rw [i600, p600, q600]
  refine x_iload (i := 5) dL_law__603 rfl ?_
  refine x_icmp_eq (tgt := 610) dL_law__605 rfl (fun h605 => ?_) (fun h605 => ?_)
  · refine x_iload (i := 5) dL_law__610 rfl ?_
    refine x_if_ne (tgt := 627) dL_law__612 rfl (fun h612 => ?_) (fun h612 => ?_)
    · refine x_goto (tgt := 1944) dL_law__627 rfl ?_
      refine x_keep [1, 1, 1, 1, 1, 0, 0] ?_
      exact V.mono (hN _ _ hR2) (by omega) (by omega)
    · refine y_aln (i := 3) dL_law__615 ar145.ne0 rfl rfl ?_
      refine y_ic dL_law__616 ⟨by decide, by decide⟩ ?_
      refine x_lald dL_law__617 ar145 ⟨by omega, by omega⟩ ?_
      refine x_iload (i := 6) dL_law__618 rfl ?_
      refine x_i2l dL_law__620 ?_
      refine x_lcmp dL_law__621 ?_
      refine x_if_eq (tgt := 627) dL_law__622 rfl (fun h622 => ?_) (fun h622 => ?_)
      · refine x_goto (tgt := 1944) dL_law__627 rfl ?_
        refine x_keep [1, 1, 1, 1, 1, 0, 0] ?_
        exact V.mono (hN _ _ hR2) (by omega) (by omega)
      · exact absurd (cmpI_0.mpr (eo (by omega))) h622
  · exact absurd ek h605
theorem lw_c8 (hR : REL c I P) (hi : 0 ≤ i ∧ i + 6 ≤ (G.2.1 : Int)) (hL : (G.2.1 : Int) ≤ 3072) (hN : ∀ K R, REL (c + 1) K R → V G (mL_law_ nm hh) 32 kc ks 1944 [some (.inr (.inl 1000)), some (.inr (.inl 1)), some (.inr (.inl 91)), some (.inr (.inl 145)), some (.inl i), none, none] [] NO K R Q) : V G (mL_law_ nm hh) 32 (1 + kc) (6 + ks) 630 [some (.inr (.inl 1000)), some (.inr (.inl 1)), some (.inr (.inl 91)), some (.inr (.inl 145)), some (.inl i), none, none] [] NO I P Q := by
  obtain ⟨A, hA, hB⟩ := op_meeting (G := G) (m := scv G (i + 1)) (w := scv G (i + 2)) hR
  refine y_aln (i := 1) dL_law__630 at1.ne0 rfl rfl ?_
  refine y_aln (i := 0) dL_law__631 sc1000.ne0 rfl rfl ?_
  refine x_iload (i := 4) dL_law__632 rfl ?_
  refine y_ic dL_law__634 ⟨by decide, by decide⟩ ?_
  refine x_iadd dL_law__635 ⟨by omega, by omega⟩ ?_
  refine x_sld dL_law__636 ⟨by omega, by omega⟩ ?_
  refine y_aln (i := 0) dL_law__637 sc1000.ne0 rfl rfl ?_
  refine x_iload (i := 4) dL_law__638 rfl ?_
  refine y_ic dL_law__640 ⟨by decide, by decide⟩ ?_
  refine x_iadd dL_law__641 ⟨by omega, by omega⟩ ?_
  refine x_sld dL_law__642 ⟨by omega, by omega⟩ ?_
  refine y_aln (i := 3) dL_law__643 ar145.ne0 rfl rfl ?_
  refine x_callSWI (hA) dL_law__644 lkL_129 mfL_meeting rfl (fun h => nomatch h) rfl (Nat.le_of_ble_eq_true rfl) (fun r644 I644 P644 hr644 hf644 => ?_)
  obtain ⟨B, hB1, hB2⟩ := hB _ _ _ hf644
  refine x_istore (i := 5) dL_law__647 rfl (Nat.le_of_ble_eq_true rfl) ?_
  refine y_aln (i := 2) dL_law__649 at91.ne0 rfl rfl ?_
  refine y_aln (i := 0) dL_law__650 sc1000.ne0 rfl rfl ?_
  refine x_iload (i := 4) dL_law__651 rfl ?_
  refine y_ic dL_law__653 ⟨by decide, by decide⟩ ?_
  refine x_iadd dL_law__654 ⟨by omega, by omega⟩ ?_
  refine x_sld dL_law__655 ⟨by omega, by omega⟩ ?_
  refine y_aln (i := 0) dL_law__656 sc1000.ne0 rfl rfl ?_
  refine x_iload (i := 4) dL_law__657 rfl ?_
  refine y_ic dL_law__659 ⟨by decide, by decide⟩ ?_
  refine x_iadd dL_law__660 ⟨by omega, by omega⟩ ?_
  refine x_sld dL_law__661 ⟨by omega, by omega⟩ ?_
  refine x_callVI (hB1) dL_law__662 lkL_131 mfX12_meeting cfX12 at91 rfl rfl rfl rfl (Nat.le_of_ble_eq_true rfl) (fun r662 I662 P662 hr662 hf662 => ?_)
  obtain ⟨ek, eo, hR2⟩ := hB2 _ _ _ hf662
  refine x_istore (i := 6) dL_law__665 rfl (Nat.le_of_ble_eq_true rfl) ?_
  refine y_aln (i := 2) dL_law__667 at91.ne0 rfl rfl ?_
  refine x_callVI (c_X12_thrown hR2.wp) dL_law__668 lkL_105 mfX12_thrown cfX12 at91 rfl rfl rfl rfl (Nat.le_of_ble_eq_true rfl) (fun r668 I668 P668 hr668 hf668 => ?_)
  obtain ⟨i668, p668, q668⟩ := hf668
  rw [i668, p668, q668]
  refine x_iload (i := 5) dL_law__671 rfl ?_
  refine x_icmp_eq (tgt := 678) dL_law__673 rfl (fun h673 => ?_) (fun h673 => ?_)
  · refine x_iload (i := 5) dL_law__678 rfl ?_
    refine x_if_ne (tgt := 695) dL_law__680 rfl (fun h680 => ?_) (fun h680 => ?_)
    · refine x_goto (tgt := 1944) dL_law__695 rfl ?_
      refine x_keep [1, 1, 1, 1, 1, 0, 0] ?_
      exact V.mono (hN _ _ hR2) (by omega) (by omega)
    · refine y_aln (i := 3) dL_law__683 ar145.ne0 rfl rfl ?_
      refine y_ic dL_law__684 ⟨by decide, by decide⟩ ?_
      refine x_lald dL_law__685 ar145 ⟨by omega, by omega⟩ ?_
      refine x_iload (i := 6) dL_law__686 rfl ?_
      refine x_i2l dL_law__688 ?_
      refine x_lcmp dL_law__689 ?_
      refine x_if_eq (tgt := 695) dL_law__690 rfl (fun h690 => ?_) (fun h690 => ?_)
      · refine x_goto (tgt := 1944) dL_law__695 rfl ?_
        refine x_keep [1, 1, 1, 1, 1, 0, 0] ?_
        exact V.mono (hN _ _ hR2) (by omega) (by omega)
      · exact absurd (cmpI_0.mpr (eo (by omega))) h690
  · exact absurd ek h673
theorem lw_c9 (hR : REL c I P) (hi : 0 ≤ i ∧ i + 6 ≤ (G.2.1 : Int)) (hL : (G.2.1 : Int) ≤ 3072) (hN : ∀ K R, REL (c + 1) K R → V G (mL_law_ nm hh) 32 kc ks 1944 [some (.inr (.inl 1000)), some (.inr (.inl 1)), some (.inr (.inl 91)), some (.inr (.inl 145)), some (.inl i), none, none] [] NO K R Q) : V G (mL_law_ nm hh) 32 (1 + kc) (6 + ks) 698 [some (.inr (.inl 1000)), some (.inr (.inl 1)), some (.inr (.inl 91)), some (.inr (.inl 145)), some (.inl i), none, none] [] NO I P Q := by
  obtain ⟨A, hA, hB⟩ := op_look (G := G) (a := scv G (i + 1)) (b := scv G (i + 2)) (v := scv G (i + 3)) (z := scv G (i + 4)) (w := scv G (i + 5)) hR
  refine y_aln (i := 1) dL_law__698 at1.ne0 rfl rfl ?_
  refine y_aln (i := 0) dL_law__699 sc1000.ne0 rfl rfl ?_
  refine x_iload (i := 4) dL_law__700 rfl ?_
  refine y_ic dL_law__702 ⟨by decide, by decide⟩ ?_
  refine x_iadd dL_law__703 ⟨by omega, by omega⟩ ?_
  refine x_sld dL_law__704 ⟨by omega, by omega⟩ ?_
  refine y_aln (i := 0) dL_law__705 sc1000.ne0 rfl rfl ?_
  refine x_iload (i := 4) dL_law__706 rfl ?_
  refine y_ic dL_law__708 ⟨by decide, by decide⟩ ?_
  refine x_iadd dL_law__709 ⟨by omega, by omega⟩ ?_
  refine x_sld dL_law__710 ⟨by omega, by omega⟩ ?_
  refine y_aln (i := 0) dL_law__711 sc1000.ne0 rfl rfl ?_
  refine x_iload (i := 4) dL_law__712 rfl ?_
  refine y_ic dL_law__714 ⟨by decide, by decide⟩ ?_
  refine x_iadd dL_law__715 ⟨by omega, by omega⟩ ?_
  refine x_sld dL_law__716 ⟨by omega, by omega⟩ ?_
  refine y_aln (i := 0) dL_law__717 sc1000.ne0 rfl rfl ?_
  refine x_iload (i := 4) dL_law__718 rfl ?_
  refine y_ic dL_law__720 ⟨by decide, by decide⟩ ?_
  refine x_iadd dL_law__721 ⟨by omega, by omega⟩ ?_
  refine x_sld dL_law__722 ⟨by omega, by omega⟩ ?_
  refine y_aln (i := 0) dL_law__723 sc1000.ne0 rfl rfl ?_
  refine x_iload (i := 4) dL_law__724 rfl ?_
  refine y_ic dL_law__726 ⟨by decide, by decide⟩ ?_
  refine x_iadd dL_law__727 ⟨by omega, by omega⟩ ?_
  refine x_sld dL_law__728 ⟨by omega, by omega⟩ ?_
  refine y_aln (i := 3) dL_law__729 ar145.ne0 rfl rfl ?_
  refine x_callSWI (hA) dL_law__730 lkL_132 mfL_look rfl (fun h => nomatch h) rfl (Nat.le_of_ble_eq_true rfl) (fun r730 I730 P730 hr730 hf730 => ?_)
  obtain ⟨B, hB1, hB2⟩ := hB _ _ _ hf730
  refine x_istore (i := 5) dL_law__733 rfl (Nat.le_of_ble_eq_true rfl) ?_
  refine y_aln (i := 2) dL_law__735 at91.ne0 rfl rfl ?_
  refine y_aln (i := 0) dL_law__736 sc1000.ne0 rfl rfl ?_
  refine x_iload (i := 4) dL_law__737 rfl ?_
  refine y_ic dL_law__739 ⟨by decide, by decide⟩ ?_
  refine x_iadd dL_law__740 ⟨by omega, by omega⟩ ?_
  refine x_sld dL_law__741 ⟨by omega, by omega⟩ ?_
  refine y_aln (i := 0) dL_law__742 sc1000.ne0 rfl rfl ?_
  refine x_iload (i := 4) dL_law__743 rfl ?_
  refine y_ic dL_law__745 ⟨by decide, by decide⟩ ?_
  refine x_iadd dL_law__746 ⟨by omega, by omega⟩ ?_
  refine x_sld dL_law__747 ⟨by omega, by omega⟩ ?_
  refine y_aln (i := 0) dL_law__748 sc1000.ne0 rfl rfl ?_
  refine x_iload (i := 4) dL_law__749 rfl ?_
  refine y_ic dL_law__751 ⟨by decide, by decide⟩ ?_
  refine x_iadd dL_law__752 ⟨by omega, by omega⟩ ?_
  refine x_sld dL_law__753 ⟨by omega, by omega⟩ ?_
  refine y_aln (i := 0) dL_law__754 sc1000.ne0 rfl rfl ?_
  refine x_iload (i := 4) dL_law__755 rfl ?_
  refine y_ic dL_law__757 ⟨by decide, by decide⟩ ?_
  refine x_iadd dL_law__758 ⟨by omega, by omega⟩ ?_
  refine x_sld dL_law__759 ⟨by omega, by omega⟩ ?_
  refine y_aln (i := 0) dL_law__760 sc1000.ne0 rfl rfl ?_
  refine x_iload (i := 4) dL_law__761 rfl ?_
  refine y_ic dL_law__763 ⟨by decide, by decide⟩ ?_
  refine x_iadd dL_law__764 ⟨by omega, by omega⟩ ?_
  refine x_sld dL_law__765 ⟨by omega, by omega⟩ ?_
  refine x_callVI (hB1) dL_law__766 lkL_135 mfX12_look cfX12 at91 rfl rfl rfl rfl (Nat.le_of_ble_eq_true rfl) (fun r766 I766 P766 hr766 hf766 => ?_)
  obtain ⟨ek, eo, hR2⟩ := hB2 _ _ _ hf766
  refine x_istore (i := 6) dL_law__769 rfl (Nat.le_of_ble_eq_true rfl) ?_
  refine y_aln (i := 2) dL_law__771 at91.ne0 rfl rfl ?_
  refine x_callVI (c_X12_thrown hR2.wp) dL_law__772 lkL_105 mfX12_thrown cfX12 at91 rfl rfl rfl rfl (Nat.le_of_ble_eq_true rfl) (fun r772 I772 P772 hr772 hf772 => ?_)
  obtain ⟨i772, p772, q772⟩ := hf772
  rw [i772, p772, q772]
  refine x_iload (i := 5) dL_law__775 rfl ?_
  refine x_icmp_eq (tgt := 782) dL_law__777 rfl (fun h777 => ?_) (fun h777 => ?_)
  · refine x_iload (i := 5) dL_law__782 rfl ?_
    refine x_if_ne (tgt := 799) dL_law__784 rfl (fun h784 => ?_) (fun h784 => ?_)
    · refine x_goto (tgt := 1944) dL_law__799 rfl ?_
      refine x_keep [1, 1, 1, 1, 1, 0, 0] ?_
      exact V.mono (hN _ _ hR2) (by omega) (by omega)
    · refine y_aln (i := 3) dL_law__787 ar145.ne0 rfl rfl ?_
      refine y_ic dL_law__788 ⟨by decide, by decide⟩ ?_
      refine x_lald dL_law__789 ar145 ⟨by omega, by omega⟩ ?_
      refine x_iload (i := 6) dL_law__790 rfl ?_
      refine x_i2l dL_law__792 ?_
      refine x_lcmp dL_law__793 ?_
      refine x_if_eq (tgt := 799) dL_law__794 rfl (fun h794 => ?_) (fun h794 => ?_)
      · refine x_goto (tgt := 1944) dL_law__799 rfl ?_
        refine x_keep [1, 1, 1, 1, 1, 0, 0] ?_
        exact V.mono (hN _ _ hR2) (by omega) (by omega)
      · exact absurd (cmpI_0.mpr (eo (by omega))) h794
  · exact absurd ek h777
theorem lw_c10 (hR : REL c I P) (hi : 0 ≤ i ∧ i + 6 ≤ (G.2.1 : Int)) (hL : (G.2.1 : Int) ≤ 3072) (hN : ∀ K R, REL (c + 1) K R → V G (mL_law_ nm hh) 32 kc ks 1944 [some (.inr (.inl 1000)), some (.inr (.inl 1)), some (.inr (.inl 91)), some (.inr (.inl 145)), some (.inl i), none, none] [] NO K R Q) : V G (mL_law_ nm hh) 32 (1 + kc) (6 + ks) 802 [some (.inr (.inl 1000)), some (.inr (.inl 1)), some (.inr (.inl 91)), some (.inr (.inl 145)), some (.inl i), none, none] [] NO I P Q := by
  obtain ⟨A, hA, hB⟩ := op_trade (G := G) (a := scv G (i + 1)) (b := scv G (i + 2)) (v := scv G (i + 3)) (z := scv G (i + 4)) hR
  refine y_aln (i := 1) dL_law__802 at1.ne0 rfl rfl ?_
  refine y_aln (i := 0) dL_law__803 sc1000.ne0 rfl rfl ?_
  refine x_iload (i := 4) dL_law__804 rfl ?_
  refine y_ic dL_law__806 ⟨by decide, by decide⟩ ?_
  refine x_iadd dL_law__807 ⟨by omega, by omega⟩ ?_
  refine x_sld dL_law__808 ⟨by omega, by omega⟩ ?_
  refine y_aln (i := 0) dL_law__809 sc1000.ne0 rfl rfl ?_
  refine x_iload (i := 4) dL_law__810 rfl ?_
  refine y_ic dL_law__812 ⟨by decide, by decide⟩ ?_
  refine x_iadd dL_law__813 ⟨by omega, by omega⟩ ?_
  refine x_sld dL_law__814 ⟨by omega, by omega⟩ ?_
  refine y_aln (i := 0) dL_law__815 sc1000.ne0 rfl rfl ?_
  refine x_iload (i := 4) dL_law__816 rfl ?_
  refine y_ic dL_law__818 ⟨by decide, by decide⟩ ?_
  refine x_iadd dL_law__819 ⟨by omega, by omega⟩ ?_
  refine x_sld dL_law__820 ⟨by omega, by omega⟩ ?_
  refine y_aln (i := 0) dL_law__821 sc1000.ne0 rfl rfl ?_
  refine x_iload (i := 4) dL_law__822 rfl ?_
  refine y_ic dL_law__824 ⟨by decide, by decide⟩ ?_
  refine x_iadd dL_law__825 ⟨by omega, by omega⟩ ?_
  refine x_sld dL_law__826 ⟨by omega, by omega⟩ ?_
  refine y_aln (i := 3) dL_law__827 ar145.ne0 rfl rfl ?_
  refine x_callSWI (hA) dL_law__828 lkL_136 mfL_trade rfl (fun h => nomatch h) rfl (Nat.le_of_ble_eq_true rfl) (fun r828 I828 P828 hr828 hf828 => ?_)
  obtain ⟨B, hB1, hB2⟩ := hB _ _ _ hf828
  refine x_istore (i := 5) dL_law__831 rfl (Nat.le_of_ble_eq_true rfl) ?_
  refine y_aln (i := 2) dL_law__833 at91.ne0 rfl rfl ?_
  refine y_aln (i := 0) dL_law__834 sc1000.ne0 rfl rfl ?_
  refine x_iload (i := 4) dL_law__835 rfl ?_
  refine y_ic dL_law__837 ⟨by decide, by decide⟩ ?_
  refine x_iadd dL_law__838 ⟨by omega, by omega⟩ ?_
  refine x_sld dL_law__839 ⟨by omega, by omega⟩ ?_
  refine y_aln (i := 0) dL_law__840 sc1000.ne0 rfl rfl ?_
  refine x_iload (i := 4) dL_law__841 rfl ?_
  refine y_ic dL_law__843 ⟨by decide, by decide⟩ ?_
  refine x_iadd dL_law__844 ⟨by omega, by omega⟩ ?_
  refine x_sld dL_law__845 ⟨by omega, by omega⟩ ?_
  refine y_aln (i := 0) dL_law__846 sc1000.ne0 rfl rfl ?_
  refine x_iload (i := 4) dL_law__847 rfl ?_
  refine y_ic dL_law__849 ⟨by decide, by decide⟩ ?_
  refine x_iadd dL_law__850 ⟨by omega, by omega⟩ ?_
  refine x_sld dL_law__851 ⟨by omega, by omega⟩ ?_
  refine y_aln (i := 0) dL_law__852 sc1000.ne0 rfl rfl ?_
  refine x_iload (i := 4) dL_law__853 rfl ?_
  refine y_ic dL_law__855 ⟨by decide, by decide⟩ ?_
  refine x_iadd dL_law__856 ⟨by omega, by omega⟩ ?_
  refine x_sld dL_law__857 ⟨by omega, by omega⟩ ?_
  refine x_callVI (hB1) dL_law__858 lkL_139 mfX12_trade cfX12 at91 rfl rfl rfl rfl (Nat.le_of_ble_eq_true rfl) (fun r858 I858 P858 hr858 hf858 => ?_)
  obtain ⟨ek, eo, hR2⟩ := hB2 _ _ _ hf858
  refine x_istore (i := 6) dL_law__861 rfl (Nat.le_of_ble_eq_true rfl) ?_
  refine y_aln (i := 2) dL_law__863 at91.ne0 rfl rfl ?_
  refine x_callVI (c_X12_thrown hR2.wp) dL_law__864 lkL_105 mfX12_thrown cfX12 at91 rfl rfl rfl rfl (Nat.le_of_ble_eq_true rfl) (fun r864 I864 P864 hr864 hf864 => ?_)
  obtain ⟨i864, p864, q864⟩ := hf864
  rw [i864, p864, q864]
  refine x_iload (i := 5) dL_law__867 rfl ?_
  refine x_icmp_eq (tgt := 874) dL_law__869 rfl (fun h869 => ?_) (fun h869 => ?_)
  · refine x_iload (i := 5) dL_law__874 rfl ?_
    refine x_if_ne (tgt := 898) dL_law__876 rfl (fun h876 => ?_) (fun h876 => ?_)
    · refine x_goto (tgt := 1944) dL_law__898 rfl ?_
      refine x_keep [1, 1, 1, 1, 1, 0, 0] ?_
      exact V.mono (hN _ _ hR2) (by omega) (by omega)
    · refine y_aln (i := 3) dL_law__879 ar145.ne0 rfl rfl ?_
      refine y_ic dL_law__880 ⟨by decide, by decide⟩ ?_
      refine x_lald dL_law__881 ar145 ⟨by omega, by omega⟩ ?_
      refine x_iload (i := 6) dL_law__882 rfl ?_
      refine x_if_eq (tgt := 891) dL_law__884 rfl (fun h884 => ?_) (fun h884 => ?_)
      · refine x_lconst dL_law__891 ?_
        refine x_lcmp dL_law__892 ?_
        refine x_if_eq (tgt := 898) dL_law__893 rfl (fun h893 => ?_) (fun h893 => ?_)
        · refine x_goto (tgt := 1944) dL_law__898 rfl ?_
          refine x_keep [1, 1, 1, 1, 1, 0, 0] ?_
          exact V.mono (hN _ _ hR2) (by omega) (by omega)
        · first | exact absurd (cmpI_0.mpr ((eo h876).trans (if_pos h884))) h893 | exact absurd (cmpI_0.mpr ((eo h876).trans (if_neg h884))) h893
      · refine x_lconst dL_law__887 ?_
        refine x_goto (tgt := 892) dL_law__888 rfl ?_
        refine x_lcmp dL_law__892 ?_
        refine x_if_eq (tgt := 898) dL_law__893 rfl (fun h893 => ?_) (fun h893 => ?_)
        · refine x_goto (tgt := 1944) dL_law__898 rfl ?_
          refine x_keep [1, 1, 1, 1, 1, 0, 0] ?_
          exact V.mono (hN _ _ hR2) (by omega) (by omega)
        · first | exact absurd (cmpI_0.mpr ((eo h876).trans (if_pos h884))) h893 | exact absurd (cmpI_0.mpr ((eo h876).trans (if_neg h884))) h893
  · exact absurd ek h869
theorem lw_c11 (hR : REL c I P) (hi : 0 ≤ i ∧ i + 6 ≤ (G.2.1 : Int)) (hL : (G.2.1 : Int) ≤ 3072) (hN : ∀ K R, REL (c + 1) K R → V G (mL_law_ nm hh) 32 kc ks 1944 [some (.inr (.inl 1000)), some (.inr (.inl 1)), some (.inr (.inl 91)), some (.inr (.inl 145)), some (.inl i), none, none] [] NO K R Q) : V G (mL_law_ nm hh) 32 (1 + kc) (6 + ks) 901 [some (.inr (.inl 1000)), some (.inr (.inl 1)), some (.inr (.inl 91)), some (.inr (.inl 145)), some (.inl i), none, none] [] NO I P Q := by
  obtain ⟨A, hA, hB⟩ := op_tie (G := G) (p := scv G (i + 1)) (y := scv G (i + 2)) hR
  refine y_aln (i := 1) dL_law__901 at1.ne0 rfl rfl ?_
  refine y_aln (i := 0) dL_law__902 sc1000.ne0 rfl rfl ?_
  refine x_iload (i := 4) dL_law__903 rfl ?_
  refine y_ic dL_law__905 ⟨by decide, by decide⟩ ?_
  refine x_iadd dL_law__906 ⟨by omega, by omega⟩ ?_
  refine x_sld dL_law__907 ⟨by omega, by omega⟩ ?_
  refine y_aln (i := 0) dL_law__908 sc1000.ne0 rfl rfl ?_
  refine x_iload (i := 4) dL_law__909 rfl ?_
  refine y_ic dL_law__911 ⟨by decide, by decide⟩ ?_
  refine x_iadd dL_law__912 ⟨by omega, by omega⟩ ?_
  refine x_sld dL_law__913 ⟨by omega, by omega⟩ ?_
  refine y_aln (i := 3) dL_law__914 ar145.ne0 rfl rfl ?_
  refine x_callSWI (hA) dL_law__915 lkL_140 mfL_tie rfl (fun h => nomatch h) rfl (Nat.le_of_ble_eq_true rfl) (fun r915 I915 P915 hr915 hf915 => ?_)
  obtain ⟨B, hB1, hB2⟩ := hB _ _ _ hf915
  refine x_istore (i := 5) dL_law__918 rfl (Nat.le_of_ble_eq_true rfl) ?_
  refine y_aln (i := 2) dL_law__920 at91.ne0 rfl rfl ?_
  refine y_aln (i := 0) dL_law__921 sc1000.ne0 rfl rfl ?_
  refine x_iload (i := 4) dL_law__922 rfl ?_
  refine y_ic dL_law__924 ⟨by decide, by decide⟩ ?_
  refine x_iadd dL_law__925 ⟨by omega, by omega⟩ ?_
  refine x_sld dL_law__926 ⟨by omega, by omega⟩ ?_
  refine y_aln (i := 0) dL_law__927 sc1000.ne0 rfl rfl ?_
  refine x_iload (i := 4) dL_law__928 rfl ?_
  refine y_ic dL_law__930 ⟨by decide, by decide⟩ ?_
  refine x_iadd dL_law__931 ⟨by omega, by omega⟩ ?_
  refine x_sld dL_law__932 ⟨by omega, by omega⟩ ?_
  refine x_callVI (hB1) dL_law__933 lkL_142 mfX12_tie cfX12 at91 rfl rfl rfl rfl (Nat.le_of_ble_eq_true rfl) (fun r933 I933 P933 hr933 hf933 => ?_)
  obtain ⟨ek, eo, hR2⟩ := hB2 _ _ _ hf933
  refine x_istore (i := 6) dL_law__936 rfl (Nat.le_of_ble_eq_true rfl) ?_
  refine y_aln (i := 2) dL_law__938 at91.ne0 rfl rfl ?_
  refine x_callVI (c_X12_thrown hR2.wp) dL_law__939 lkL_105 mfX12_thrown cfX12 at91 rfl rfl rfl rfl (Nat.le_of_ble_eq_true rfl) (fun r939 I939 P939 hr939 hf939 => ?_)
  obtain ⟨i939, p939, q939⟩ := hf939
  rw [i939, p939, q939]
  refine x_iload (i := 5) dL_law__942 rfl ?_
  refine x_icmp_eq (tgt := 949) dL_law__944 rfl (fun h944 => ?_) (fun h944 => ?_)
  · refine x_iload (i := 5) dL_law__949 rfl ?_
    refine x_if_ne (tgt := 973) dL_law__951 rfl (fun h951 => ?_) (fun h951 => ?_)
    · refine x_goto (tgt := 1944) dL_law__973 rfl ?_
      refine x_keep [1, 1, 1, 1, 1, 0, 0] ?_
      exact V.mono (hN _ _ hR2) (by omega) (by omega)
    · refine y_aln (i := 3) dL_law__954 ar145.ne0 rfl rfl ?_
      refine y_ic dL_law__955 ⟨by decide, by decide⟩ ?_
      refine x_lald dL_law__956 ar145 ⟨by omega, by omega⟩ ?_
      refine x_iload (i := 6) dL_law__957 rfl ?_
      refine x_if_eq (tgt := 966) dL_law__959 rfl (fun h959 => ?_) (fun h959 => ?_)
      · refine x_lconst dL_law__966 ?_
        refine x_lcmp dL_law__967 ?_
        refine x_if_eq (tgt := 973) dL_law__968 rfl (fun h968 => ?_) (fun h968 => ?_)
        · refine x_goto (tgt := 1944) dL_law__973 rfl ?_
          refine x_keep [1, 1, 1, 1, 1, 0, 0] ?_
          exact V.mono (hN _ _ hR2) (by omega) (by omega)
        · first | exact absurd (cmpI_0.mpr ((eo h951).trans (if_pos h959))) h968 | exact absurd (cmpI_0.mpr ((eo h951).trans (if_neg h959))) h968
      · refine x_lconst dL_law__962 ?_
        refine x_goto (tgt := 967) dL_law__963 rfl ?_
        refine x_lcmp dL_law__967 ?_
        refine x_if_eq (tgt := 973) dL_law__968 rfl (fun h968 => ?_) (fun h968 => ?_)
        · refine x_goto (tgt := 1944) dL_law__973 rfl ?_
          refine x_keep [1, 1, 1, 1, 1, 0, 0] ?_
          exact V.mono (hN _ _ hR2) (by omega) (by omega)
        · first | exact absurd (cmpI_0.mpr ((eo h951).trans (if_pos h959))) h968 | exact absurd (cmpI_0.mpr ((eo h951).trans (if_neg h959))) h968
  · exact absurd ek h944
theorem lw_c12 (hR : REL c I P) (hi : 0 ≤ i ∧ i + 6 ≤ (G.2.1 : Int)) (hL : (G.2.1 : Int) ≤ 3072) (hN : ∀ K R, REL (c + 1) K R → V G (mL_law_ nm hh) 32 kc ks 1944 [some (.inr (.inl 1000)), some (.inr (.inl 1)), some (.inr (.inl 91)), some (.inr (.inl 145)), some (.inl i), none, none] [] NO K R Q) : V G (mL_law_ nm hh) 32 (1 + kc) (6 + ks) 976 [some (.inr (.inl 1000)), some (.inr (.inl 1)), some (.inr (.inl 91)), some (.inr (.inl 145)), some (.inl i), none, none] [] NO I P Q := by
  obtain ⟨A, hA, hB⟩ := op_come (G := G) (p := scv G (i + 1)) (s := scv G (i + 2)) hR
  refine y_aln (i := 1) dL_law__976 at1.ne0 rfl rfl ?_
  refine y_aln (i := 0) dL_law__977 sc1000.ne0 rfl rfl ?_
  refine x_iload (i := 4) dL_law__978 rfl ?_
  refine y_ic dL_law__980 ⟨by decide, by decide⟩ ?_
  refine x_iadd dL_law__981 ⟨by omega, by omega⟩ ?_
  refine x_sld dL_law__982 ⟨by omega, by omega⟩ ?_
  refine y_aln (i := 0) dL_law__983 sc1000.ne0 rfl rfl ?_
  refine x_iload (i := 4) dL_law__984 rfl ?_
  refine y_ic dL_law__986 ⟨by decide, by decide⟩ ?_
  refine x_iadd dL_law__987 ⟨by omega, by omega⟩ ?_
  refine x_sld dL_law__988 ⟨by omega, by omega⟩ ?_
  refine y_aln (i := 3) dL_law__989 ar145.ne0 rfl rfl ?_
  refine x_callSWI (hA) dL_law__990 lkL_143 mfL_come rfl (fun h => nomatch h) rfl (Nat.le_of_ble_eq_true rfl) (fun r990 I990 P990 hr990 hf990 => ?_)
  obtain ⟨B, hB1, hB2⟩ := hB _ _ _ hf990
  refine x_istore (i := 5) dL_law__993 rfl (Nat.le_of_ble_eq_true rfl) ?_
  refine y_aln (i := 2) dL_law__995 at91.ne0 rfl rfl ?_
  refine y_aln (i := 0) dL_law__996 sc1000.ne0 rfl rfl ?_
  refine x_iload (i := 4) dL_law__997 rfl ?_
  refine y_ic dL_law__999 ⟨by decide, by decide⟩ ?_
  refine x_iadd dL_law__1000 ⟨by omega, by omega⟩ ?_
  refine x_sld dL_law__1001 ⟨by omega, by omega⟩ ?_
  refine y_aln (i := 0) dL_law__1002 sc1000.ne0 rfl rfl ?_
  refine x_iload (i := 4) dL_law__1003 rfl ?_
  refine y_ic dL_law__1005 ⟨by decide, by decide⟩ ?_
  refine x_iadd dL_law__1006 ⟨by omega, by omega⟩ ?_
  refine x_sld dL_law__1007 ⟨by omega, by omega⟩ ?_
  refine x_callVI (hB1) dL_law__1008 lkL_145 mfX12_come cfX12 at91 rfl rfl rfl rfl (Nat.le_of_ble_eq_true rfl) (fun r1008 I1008 P1008 hr1008 hf1008 => ?_)
  obtain ⟨ek, eo, hR2⟩ := hB2 _ _ _ hf1008
  refine x_istore (i := 6) dL_law__1011 rfl (Nat.le_of_ble_eq_true rfl) ?_
  refine y_aln (i := 2) dL_law__1013 at91.ne0 rfl rfl ?_
  refine x_callVI (c_X12_thrown hR2.wp) dL_law__1014 lkL_105 mfX12_thrown cfX12 at91 rfl rfl rfl rfl (Nat.le_of_ble_eq_true rfl) (fun r1014 I1014 P1014 hr1014 hf1014 => ?_)
  obtain ⟨i1014, p1014, q1014⟩ := hf1014
  rw [i1014, p1014, q1014]
  refine x_iload (i := 5) dL_law__1017 rfl ?_
  refine x_icmp_eq (tgt := 1024) dL_law__1019 rfl (fun h1019 => ?_) (fun h1019 => ?_)
  · refine x_iload (i := 5) dL_law__1024 rfl ?_
    refine x_if_ne (tgt := 1041) dL_law__1026 rfl (fun h1026 => ?_) (fun h1026 => ?_)
    · refine x_goto (tgt := 1944) dL_law__1041 rfl ?_
      refine x_keep [1, 1, 1, 1, 1, 0, 0] ?_
      exact V.mono (hN _ _ hR2) (by omega) (by omega)
    · refine y_aln (i := 3) dL_law__1029 ar145.ne0 rfl rfl ?_
      refine y_ic dL_law__1030 ⟨by decide, by decide⟩ ?_
      refine x_lald dL_law__1031 ar145 ⟨by omega, by omega⟩ ?_
      refine x_iload (i := 6) dL_law__1032 rfl ?_
      refine x_i2l dL_law__1034 ?_
      refine x_lcmp dL_law__1035 ?_
      refine x_if_eq (tgt := 1041) dL_law__1036 rfl (fun h1036 => ?_) (fun h1036 => ?_)
      · refine x_goto (tgt := 1944) dL_law__1041 rfl ?_
        refine x_keep [1, 1, 1, 1, 1, 0, 0] ?_
        exact V.mono (hN _ _ hR2) (by omega) (by omega)
      · exact absurd (cmpI_0.mpr (eo (by omega))) h1036
  · exact absurd ek h1019
theorem lw_c13 (hR : REL c I P) (hi : 0 ≤ i ∧ i + 6 ≤ (G.2.1 : Int)) (hL : (G.2.1 : Int) ≤ 3072) (hN : ∀ K R, REL (c + 1) K R → V G (mL_law_ nm hh) 32 kc ks 1944 [some (.inr (.inl 1000)), some (.inr (.inl 1)), some (.inr (.inl 91)), some (.inr (.inl 145)), some (.inl i), none, none] [] NO K R Q) : V G (mL_law_ nm hh) 32 (1 + kc) (6 + ks) 1044 [some (.inr (.inl 1000)), some (.inr (.inl 1)), some (.inr (.inl 91)), some (.inr (.inl 145)), some (.inl i), none, none] [] NO I P Q := by
  obtain ⟨A, hA, hB⟩ := op_step (G := G) (i := scv G (i + 1)) (w := scv G (i + 2)) hR
  refine y_aln (i := 1) dL_law__1044 at1.ne0 rfl rfl ?_
  refine y_aln (i := 0) dL_law__1045 sc1000.ne0 rfl rfl ?_
  refine x_iload (i := 4) dL_law__1046 rfl ?_
  refine y_ic dL_law__1048 ⟨by decide, by decide⟩ ?_
  refine x_iadd dL_law__1049 ⟨by omega, by omega⟩ ?_
  refine x_sld dL_law__1050 ⟨by omega, by omega⟩ ?_
  refine y_aln (i := 0) dL_law__1051 sc1000.ne0 rfl rfl ?_
  refine x_iload (i := 4) dL_law__1052 rfl ?_
  refine y_ic dL_law__1054 ⟨by decide, by decide⟩ ?_
  refine x_iadd dL_law__1055 ⟨by omega, by omega⟩ ?_
  refine x_sld dL_law__1056 ⟨by omega, by omega⟩ ?_
  refine y_aln (i := 3) dL_law__1057 ar145.ne0 rfl rfl ?_
  refine x_callSWI (hA) dL_law__1058 lkL_146 mfL_step rfl (fun h => nomatch h) rfl (Nat.le_of_ble_eq_true rfl) (fun r1058 I1058 P1058 hr1058 hf1058 => ?_)
  obtain ⟨B, hB1, hB2⟩ := hB _ _ _ hf1058
  refine x_istore (i := 5) dL_law__1061 rfl (Nat.le_of_ble_eq_true rfl) ?_
  refine y_aln (i := 2) dL_law__1063 at91.ne0 rfl rfl ?_
  refine y_aln (i := 0) dL_law__1064 sc1000.ne0 rfl rfl ?_
  refine x_iload (i := 4) dL_law__1065 rfl ?_
  refine y_ic dL_law__1067 ⟨by decide, by decide⟩ ?_
  refine x_iadd dL_law__1068 ⟨by omega, by omega⟩ ?_
  refine x_sld dL_law__1069 ⟨by omega, by omega⟩ ?_
  refine y_aln (i := 0) dL_law__1070 sc1000.ne0 rfl rfl ?_
  refine x_iload (i := 4) dL_law__1071 rfl ?_
  refine y_ic dL_law__1073 ⟨by decide, by decide⟩ ?_
  refine x_iadd dL_law__1074 ⟨by omega, by omega⟩ ?_
  refine x_sld dL_law__1075 ⟨by omega, by omega⟩ ?_
  refine x_callVI (hB1) dL_law__1076 lkL_148 mfX12_step cfX12 at91 rfl rfl rfl rfl (Nat.le_of_ble_eq_true rfl) (fun r1076 I1076 P1076 hr1076 hf1076 => ?_)
  obtain ⟨ek, eo, hR2⟩ := hB2 _ _ _ hf1076
  refine x_istore (i := 6) dL_law__1079 rfl (Nat.le_of_ble_eq_true rfl) ?_
  refine y_aln (i := 2) dL_law__1081 at91.ne0 rfl rfl ?_
  refine x_callVI (c_X12_thrown hR2.wp) dL_law__1082 lkL_105 mfX12_thrown cfX12 at91 rfl rfl rfl rfl (Nat.le_of_ble_eq_true rfl) (fun r1082 I1082 P1082 hr1082 hf1082 => ?_)
  obtain ⟨i1082, p1082, q1082⟩ := hf1082
  rw [i1082, p1082, q1082]
  refine x_iload (i := 5) dL_law__1085 rfl ?_
  refine x_icmp_eq (tgt := 1092) dL_law__1087 rfl (fun h1087 => ?_) (fun h1087 => ?_)
  · refine x_iload (i := 5) dL_law__1092 rfl ?_
    refine x_if_ne (tgt := 1109) dL_law__1094 rfl (fun h1094 => ?_) (fun h1094 => ?_)
    · refine x_goto (tgt := 1944) dL_law__1109 rfl ?_
      refine x_keep [1, 1, 1, 1, 1, 0, 0] ?_
      exact V.mono (hN _ _ hR2) (by omega) (by omega)
    · refine y_aln (i := 3) dL_law__1097 ar145.ne0 rfl rfl ?_
      refine y_ic dL_law__1098 ⟨by decide, by decide⟩ ?_
      refine x_lald dL_law__1099 ar145 ⟨by omega, by omega⟩ ?_
      refine x_iload (i := 6) dL_law__1100 rfl ?_
      refine x_i2l dL_law__1102 ?_
      refine x_lcmp dL_law__1103 ?_
      refine x_if_eq (tgt := 1109) dL_law__1104 rfl (fun h1104 => ?_) (fun h1104 => ?_)
      · refine x_goto (tgt := 1944) dL_law__1109 rfl ?_
        refine x_keep [1, 1, 1, 1, 1, 0, 0] ?_
        exact V.mono (hN _ _ hR2) (by omega) (by omega)
      · exact absurd (cmpI_0.mpr (eo (by omega))) h1104
  · exact absurd ek h1087
theorem lw_c14 (hR : REL c I P) (hi : 0 ≤ i ∧ i + 6 ≤ (G.2.1 : Int)) (hL : (G.2.1 : Int) ≤ 3072) (hN : ∀ K R, REL (c + 1) K R → V G (mL_law_ nm hh) 32 kc ks 1944 [some (.inr (.inl 1000)), some (.inr (.inl 1)), some (.inr (.inl 91)), some (.inr (.inl 145)), some (.inl i), none, none] [] NO K R Q) : V G (mL_law_ nm hh) 32 (1 + kc) (6 + ks) 1112 [some (.inr (.inl 1000)), some (.inr (.inl 1)), some (.inr (.inl 91)), some (.inr (.inl 145)), some (.inl i), none, none] [] NO I P Q := by
  obtain ⟨A, hA, hB⟩ := op_poor (G := G) (p := scv G (i + 1)) (s := scv G (i + 2)) hR
  refine y_aln (i := 1) dL_law__1112 at1.ne0 rfl rfl ?_
  refine y_aln (i := 0) dL_law__1113 sc1000.ne0 rfl rfl ?_
  refine x_iload (i := 4) dL_law__1114 rfl ?_
  refine y_ic dL_law__1116 ⟨by decide, by decide⟩ ?_
  refine x_iadd dL_law__1117 ⟨by omega, by omega⟩ ?_
  refine x_sld dL_law__1118 ⟨by omega, by omega⟩ ?_
  refine y_aln (i := 0) dL_law__1119 sc1000.ne0 rfl rfl ?_
  refine x_iload (i := 4) dL_law__1120 rfl ?_
  refine y_ic dL_law__1122 ⟨by decide, by decide⟩ ?_
  refine x_iadd dL_law__1123 ⟨by omega, by omega⟩ ?_
  refine x_sld dL_law__1124 ⟨by omega, by omega⟩ ?_
  refine y_aln (i := 3) dL_law__1125 ar145.ne0 rfl rfl ?_
  refine x_callSWI (hA) dL_law__1126 lkL_149 mfL_poor rfl (fun h => nomatch h) rfl (Nat.le_of_ble_eq_true rfl) (fun r1126 I1126 P1126 hr1126 hf1126 => ?_)
  obtain ⟨B, hB1, hB2⟩ := hB _ _ _ hf1126
  refine x_istore (i := 5) dL_law__1129 rfl (Nat.le_of_ble_eq_true rfl) ?_
  refine y_aln (i := 2) dL_law__1131 at91.ne0 rfl rfl ?_
  refine y_aln (i := 0) dL_law__1132 sc1000.ne0 rfl rfl ?_
  refine x_iload (i := 4) dL_law__1133 rfl ?_
  refine y_ic dL_law__1135 ⟨by decide, by decide⟩ ?_
  refine x_iadd dL_law__1136 ⟨by omega, by omega⟩ ?_
  refine x_sld dL_law__1137 ⟨by omega, by omega⟩ ?_
  refine y_aln (i := 0) dL_law__1138 sc1000.ne0 rfl rfl ?_
  refine x_iload (i := 4) dL_law__1139 rfl ?_
  refine y_ic dL_law__1141 ⟨by decide, by decide⟩ ?_
  refine x_iadd dL_law__1142 ⟨by omega, by omega⟩ ?_
  refine x_sld dL_law__1143 ⟨by omega, by omega⟩ ?_
  refine x_callVI (hB1) dL_law__1144 lkL_151 mfX12_poor cfX12 at91 rfl rfl rfl rfl (Nat.le_of_ble_eq_true rfl) (fun r1144 I1144 P1144 hr1144 hf1144 => ?_)
  obtain ⟨ek, eo, hR2⟩ := hB2 _ _ _ hf1144
  refine x_istore (i := 6) dL_law__1147 rfl (Nat.le_of_ble_eq_true rfl) ?_
  refine y_aln (i := 2) dL_law__1149 at91.ne0 rfl rfl ?_
  refine x_callVI (c_X12_thrown hR2.wp) dL_law__1150 lkL_105 mfX12_thrown cfX12 at91 rfl rfl rfl rfl (Nat.le_of_ble_eq_true rfl) (fun r1150 I1150 P1150 hr1150 hf1150 => ?_)
  obtain ⟨i1150, p1150, q1150⟩ := hf1150
  rw [i1150, p1150, q1150]
  refine x_iload (i := 5) dL_law__1153 rfl ?_
  refine x_icmp_eq (tgt := 1160) dL_law__1155 rfl (fun h1155 => ?_) (fun h1155 => ?_)
  · refine x_iload (i := 5) dL_law__1160 rfl ?_
    refine x_if_ne (tgt := 1177) dL_law__1162 rfl (fun h1162 => ?_) (fun h1162 => ?_)
    · refine x_goto (tgt := 1944) dL_law__1177 rfl ?_
      refine x_keep [1, 1, 1, 1, 1, 0, 0] ?_
      exact V.mono (hN _ _ hR2) (by omega) (by omega)
    · refine y_aln (i := 3) dL_law__1165 ar145.ne0 rfl rfl ?_
      refine y_ic dL_law__1166 ⟨by decide, by decide⟩ ?_
      refine x_lald dL_law__1167 ar145 ⟨by omega, by omega⟩ ?_
      refine x_iload (i := 6) dL_law__1168 rfl ?_
      refine x_i2l dL_law__1170 ?_
      refine x_lcmp dL_law__1171 ?_
      refine x_if_eq (tgt := 1177) dL_law__1172 rfl (fun h1172 => ?_) (fun h1172 => ?_)
      · refine x_goto (tgt := 1944) dL_law__1177 rfl ?_
        refine x_keep [1, 1, 1, 1, 1, 0, 0] ?_
        exact V.mono (hN _ _ hR2) (by omega) (by omega)
      · exact absurd (cmpI_0.mpr (eo (by omega))) h1172
  · exact absurd ek h1155
theorem lw_c15 (hR : REL c I P) (hi : 0 ≤ i ∧ i + 6 ≤ (G.2.1 : Int)) (hL : (G.2.1 : Int) ≤ 3072) (hN : ∀ K R, REL (c + 1) K R → V G (mL_law_ nm hh) 32 kc ks 1944 [some (.inr (.inl 1000)), some (.inr (.inl 1)), some (.inr (.inl 91)), some (.inr (.inl 145)), some (.inl i), none, none] [] NO K R Q) : V G (mL_law_ nm hh) 32 (1 + kc) (6 + ks) 1180 [some (.inr (.inl 1000)), some (.inr (.inl 1)), some (.inr (.inl 91)), some (.inr (.inl 145)), some (.inl i), none, none] [] NO I P Q := by
  obtain ⟨A, hA, hB⟩ := op_bag (G := G) (s := scv G (i + 1)) hR
  refine y_aln (i := 1) dL_law__1180 at1.ne0 rfl rfl ?_
  refine y_aln (i := 0) dL_law__1181 sc1000.ne0 rfl rfl ?_
  refine x_iload (i := 4) dL_law__1182 rfl ?_
  refine y_ic dL_law__1184 ⟨by decide, by decide⟩ ?_
  refine x_iadd dL_law__1185 ⟨by omega, by omega⟩ ?_
  refine x_sld dL_law__1186 ⟨by omega, by omega⟩ ?_
  refine y_aln (i := 3) dL_law__1187 ar145.ne0 rfl rfl ?_
  refine x_callSWI (hA) dL_law__1188 lkL_152 mfL_bag rfl (fun h => nomatch h) rfl (Nat.le_of_ble_eq_true rfl) (fun r1188 I1188 P1188 hr1188 hf1188 => ?_)
  obtain ⟨B, hB1, hB2⟩ := hB _ _ _ hf1188
  refine x_istore (i := 5) dL_law__1191 rfl (Nat.le_of_ble_eq_true rfl) ?_
  refine y_aln (i := 2) dL_law__1193 at91.ne0 rfl rfl ?_
  refine y_aln (i := 0) dL_law__1194 sc1000.ne0 rfl rfl ?_
  refine x_iload (i := 4) dL_law__1195 rfl ?_
  refine y_ic dL_law__1197 ⟨by decide, by decide⟩ ?_
  refine x_iadd dL_law__1198 ⟨by omega, by omega⟩ ?_
  refine x_sld dL_law__1199 ⟨by omega, by omega⟩ ?_
  refine x_callVI (hB1) dL_law__1200 lkL_154 mfX12_bag cfX12 at91 rfl rfl rfl rfl (Nat.le_of_ble_eq_true rfl) (fun r1200 I1200 P1200 hr1200 hf1200 => ?_)
  obtain ⟨ek, eo, hR2⟩ := hB2 _ _ _ hf1200
  refine x_istore (i := 6) dL_law__1203 rfl (Nat.le_of_ble_eq_true rfl) ?_
  refine y_aln (i := 2) dL_law__1205 at91.ne0 rfl rfl ?_
  refine x_callVI (c_X12_thrown hR2.wp) dL_law__1206 lkL_105 mfX12_thrown cfX12 at91 rfl rfl rfl rfl (Nat.le_of_ble_eq_true rfl) (fun r1206 I1206 P1206 hr1206 hf1206 => ?_)
  obtain ⟨i1206, p1206, q1206⟩ := hf1206
  rw [i1206, p1206, q1206]
  refine x_iload (i := 5) dL_law__1209 rfl ?_
  refine x_icmp_eq (tgt := 1216) dL_law__1211 rfl (fun h1211 => ?_) (fun h1211 => ?_)
  · refine x_iload (i := 5) dL_law__1216 rfl ?_
    refine x_if_ne (tgt := 1233) dL_law__1218 rfl (fun h1218 => ?_) (fun h1218 => ?_)
    · refine x_goto (tgt := 1944) dL_law__1233 rfl ?_
      refine x_keep [1, 1, 1, 1, 1, 0, 0] ?_
      exact V.mono (hN _ _ hR2) (by omega) (by omega)
    · refine y_aln (i := 3) dL_law__1221 ar145.ne0 rfl rfl ?_
      refine y_ic dL_law__1222 ⟨by decide, by decide⟩ ?_
      refine x_lald dL_law__1223 ar145 ⟨by omega, by omega⟩ ?_
      refine x_iload (i := 6) dL_law__1224 rfl ?_
      refine x_i2l dL_law__1226 ?_
      refine x_lcmp dL_law__1227 ?_
      refine x_if_eq (tgt := 1233) dL_law__1228 rfl (fun h1228 => ?_) (fun h1228 => ?_)
      · refine x_goto (tgt := 1944) dL_law__1233 rfl ?_
        refine x_keep [1, 1, 1, 1, 1, 0, 0] ?_
        exact V.mono (hN _ _ hR2) (by omega) (by omega)
      · exact absurd (cmpI_0.mpr (eo (by omega))) h1228
  · exact absurd ek h1211
theorem lw_c16 (hR : REL c I P) (hi : 0 ≤ i ∧ i + 6 ≤ (G.2.1 : Int)) (hL : (G.2.1 : Int) ≤ 3072) (hN : ∀ K R, REL (c + 1) K R → V G (mL_law_ nm hh) 32 kc ks 1944 [some (.inr (.inl 1000)), some (.inr (.inl 1)), some (.inr (.inl 91)), some (.inr (.inl 145)), some (.inl i), none, none] [] NO K R Q) : V G (mL_law_ nm hh) 32 (1 + kc) (6 + ks) 1236 [some (.inr (.inl 1000)), some (.inr (.inl 1)), some (.inr (.inl 91)), some (.inr (.inl 145)), some (.inl i), none, none] [] NO I P Q := by
  obtain ⟨A, hA, hB⟩ := op_most (G := G)  hR
  refine y_aln (i := 1) dL_law__1236 at1.ne0 rfl rfl ?_
  refine x_callVI (hA) dL_law__1237 lkL_155 mfX11_most cfX11 at1 rfl rfl rfl rfl (Nat.le_of_ble_eq_true rfl) (fun r1237 I1237 P1237 hr1237 hf1237 => ?_)
  obtain ⟨B, hB1, hB2⟩ := hB _ _ _ hf1237
  refine y_aln (i := 2) dL_law__1240 at91.ne0 rfl rfl ?_
  refine x_callVI (hB1) dL_law__1241 lkL_158 mfX12_most cfX12 at91 rfl rfl rfl rfl (Nat.le_of_ble_eq_true rfl) (fun r1241 I1241 P1241 hr1241 hf1241 => ?_)
  obtain ⟨ek, hR2⟩ := hB2 _ _ _ hf1241
  refine x_icmp_eq (tgt := 1944) dL_law__1244 rfl (fun h1244 => ?_) (fun h1244 => ?_)
  · refine x_keep [1, 1, 1, 1, 1, 0, 0] ?_
    exact V.mono (hN _ _ hR2) (by omega) (by omega)
  · exact absurd ek.symm h1244
theorem lw_c17 (hR : REL c I P) (hi : 0 ≤ i ∧ i + 6 ≤ (G.2.1 : Int)) (hL : (G.2.1 : Int) ≤ 3072) (hN : ∀ K R, REL (c + 1) K R → V G (mL_law_ nm hh) 32 kc ks 1944 [some (.inr (.inl 1000)), some (.inr (.inl 1)), some (.inr (.inl 91)), some (.inr (.inl 145)), some (.inl i), none, none] [] NO K R Q) : V G (mL_law_ nm hh) 32 (1 + kc) (6 + ks) 1249 [some (.inr (.inl 1000)), some (.inr (.inl 1)), some (.inr (.inl 91)), some (.inr (.inl 145)), some (.inl i), none, none] [] NO I P Q := by
  obtain ⟨A, hA, hB⟩ := op_freely (G := G)  hR
  refine y_aln (i := 1) dL_law__1249 at1.ne0 rfl rfl ?_
  refine x_callVI (hA) dL_law__1250 lkL_159 mfX11_freely cfX11 at1 rfl rfl rfl rfl (Nat.le_of_ble_eq_true rfl) (fun r1250 I1250 P1250 hr1250 hf1250 => ?_)
  obtain ⟨B, hB1, hB2⟩ := hB _ _ _ hf1250
  refine y_aln (i := 2) dL_law__1253 at91.ne0 rfl rfl ?_
  refine x_callVI (hB1) dL_law__1254 lkL_162 mfX12_freely cfX12 at91 rfl rfl rfl rfl (Nat.le_of_ble_eq_true rfl) (fun r1254 I1254 P1254 hr1254 hf1254 => ?_)
  obtain ⟨ek, hR2⟩ := hB2 _ _ _ hf1254
  refine x_icmp_eq (tgt := 1944) dL_law__1257 rfl (fun h1257 => ?_) (fun h1257 => ?_)
  · refine x_keep [1, 1, 1, 1, 1, 0, 0] ?_
    exact V.mono (hN _ _ hR2) (by omega) (by omega)
  · exact absurd ek.symm h1257
theorem lw_c18 (hR : REL c I P) (hi : 0 ≤ i ∧ i + 6 ≤ (G.2.1 : Int)) (hL : (G.2.1 : Int) ≤ 3072) (hN : ∀ K R, REL (c + 1) K R → V G (mL_law_ nm hh) 32 kc ks 1944 [some (.inr (.inl 1000)), some (.inr (.inl 1)), some (.inr (.inl 91)), some (.inr (.inl 145)), some (.inl i), none, none] [] NO K R Q) : V G (mL_law_ nm hh) 32 (1 + kc) (6 + ks) 1262 [some (.inr (.inl 1000)), some (.inr (.inl 1)), some (.inr (.inl 91)), some (.inr (.inl 145)), some (.inl i), none, none] [] NO I P Q := by
  obtain ⟨A, hA, hB⟩ := op_meet (G := G) (a := scv G (i + 1)) (b := scv G (i + 2)) hR
  refine y_aln (i := 1) dL_law__1262 at1.ne0 rfl rfl ?_
  refine y_aln (i := 0) dL_law__1263 sc1000.ne0 rfl rfl ?_
  refine x_iload (i := 4) dL_law__1264 rfl ?_
  refine y_ic dL_law__1266 ⟨by decide, by decide⟩ ?_
  refine x_iadd dL_law__1267 ⟨by omega, by omega⟩ ?_
  refine x_sld dL_law__1268 ⟨by omega, by omega⟩ ?_
  refine y_aln (i := 0) dL_law__1269 sc1000.ne0 rfl rfl ?_
  refine x_iload (i := 4) dL_law__1270 rfl ?_
  refine y_ic dL_law__1272 ⟨by decide, by decide⟩ ?_
  refine x_iadd dL_law__1273 ⟨by omega, by omega⟩ ?_
  refine x_sld dL_law__1274 ⟨by omega, by omega⟩ ?_
  refine y_aln (i := 3) dL_law__1275 ar145.ne0 rfl rfl ?_
  refine x_callSWI (hA) dL_law__1276 lkL_163 mfL_meet rfl (fun h => nomatch h) rfl (Nat.le_of_ble_eq_true rfl) (fun r1276 I1276 P1276 hr1276 hf1276 => ?_)
  obtain ⟨B, hB1, hB2⟩ := hB _ _ _ hf1276
  refine x_istore (i := 5) dL_law__1279 rfl (Nat.le_of_ble_eq_true rfl) ?_
  refine y_aln (i := 2) dL_law__1281 at91.ne0 rfl rfl ?_
  refine y_aln (i := 0) dL_law__1282 sc1000.ne0 rfl rfl ?_
  refine x_iload (i := 4) dL_law__1283 rfl ?_
  refine y_ic dL_law__1285 ⟨by decide, by decide⟩ ?_
  refine x_iadd dL_law__1286 ⟨by omega, by omega⟩ ?_
  refine x_sld dL_law__1287 ⟨by omega, by omega⟩ ?_
  refine y_aln (i := 0) dL_law__1288 sc1000.ne0 rfl rfl ?_
  refine x_iload (i := 4) dL_law__1289 rfl ?_
  refine y_ic dL_law__1291 ⟨by decide, by decide⟩ ?_
  refine x_iadd dL_law__1292 ⟨by omega, by omega⟩ ?_
  refine x_sld dL_law__1293 ⟨by omega, by omega⟩ ?_
  refine x_callVI (hB1) dL_law__1294 lkL_165 mfX12_meet cfX12 at91 rfl rfl rfl rfl (Nat.le_of_ble_eq_true rfl) (fun r1294 I1294 P1294 hr1294 hf1294 => ?_)
  obtain ⟨ek, eo, hR2⟩ := hB2 _ _ _ hf1294
  refine x_istore (i := 6) dL_law__1297 rfl (Nat.le_of_ble_eq_true rfl) ?_
  refine y_aln (i := 2) dL_law__1299 at91.ne0 rfl rfl ?_
  refine x_callVI (c_X12_thrown hR2.wp) dL_law__1300 lkL_105 mfX12_thrown cfX12 at91 rfl rfl rfl rfl (Nat.le_of_ble_eq_true rfl) (fun r1300 I1300 P1300 hr1300 hf1300 => ?_)
  obtain ⟨i1300, p1300, q1300⟩ := hf1300
  rw [i1300, p1300, q1300]
  refine x_iload (i := 5) dL_law__1303 rfl ?_
  refine x_icmp_eq (tgt := 1310) dL_law__1305 rfl (fun h1305 => ?_) (fun h1305 => ?_)
  · refine x_iload (i := 5) dL_law__1310 rfl ?_
    refine x_if_ne (tgt := 1327) dL_law__1312 rfl (fun h1312 => ?_) (fun h1312 => ?_)
    · refine x_goto (tgt := 1944) dL_law__1327 rfl ?_
      refine x_keep [1, 1, 1, 1, 1, 0, 0] ?_
      exact V.mono (hN _ _ hR2) (by omega) (by omega)
    · refine y_aln (i := 3) dL_law__1315 ar145.ne0 rfl rfl ?_
      refine y_ic dL_law__1316 ⟨by decide, by decide⟩ ?_
      refine x_lald dL_law__1317 ar145 ⟨by omega, by omega⟩ ?_
      refine x_iload (i := 6) dL_law__1318 rfl ?_
      refine x_i2l dL_law__1320 ?_
      refine x_lcmp dL_law__1321 ?_
      refine x_if_eq (tgt := 1327) dL_law__1322 rfl (fun h1322 => ?_) (fun h1322 => ?_)
      · refine x_goto (tgt := 1944) dL_law__1327 rfl ?_
        refine x_keep [1, 1, 1, 1, 1, 0, 0] ?_
        exact V.mono (hN _ _ hR2) (by omega) (by omega)
      · exact absurd (cmpI_0.mpr (eo (by omega))) h1322
  · exact absurd ek h1305
theorem lw_c19 (hR : REL c I P) (hi : 0 ≤ i ∧ i + 6 ≤ (G.2.1 : Int)) (hL : (G.2.1 : Int) ≤ 3072) (hN : ∀ K R, REL (c + 1) K R → V G (mL_law_ nm hh) 32 kc ks 1944 [some (.inr (.inl 1000)), some (.inr (.inl 1)), some (.inr (.inl 91)), some (.inr (.inl 145)), some (.inl i), none, none] [] NO K R Q) : V G (mL_law_ nm hh) 32 (1 + kc) (6 + ks) 1330 [some (.inr (.inl 1000)), some (.inr (.inl 1)), some (.inr (.inl 91)), some (.inr (.inl 145)), some (.inl i), none, none] [] NO I P Q := by
  obtain ⟨A, hA, hB⟩ := op_days (G := G) (n := scv G (i + 1)) hR
  refine y_aln (i := 1) dL_law__1330 at1.ne0 rfl rfl ?_
  refine y_aln (i := 0) dL_law__1331 sc1000.ne0 rfl rfl ?_
  refine x_iload (i := 4) dL_law__1332 rfl ?_
  refine y_ic dL_law__1334 ⟨by decide, by decide⟩ ?_
  refine x_iadd dL_law__1335 ⟨by omega, by omega⟩ ?_
  refine x_sld dL_law__1336 ⟨by omega, by omega⟩ ?_
  refine y_aln (i := 3) dL_law__1337 ar145.ne0 rfl rfl ?_
  refine x_callSWI (hA) dL_law__1338 lkL_166 mfL_days rfl (fun h => nomatch h) rfl (Nat.le_of_ble_eq_true rfl) (fun r1338 I1338 P1338 hr1338 hf1338 => ?_)
  obtain ⟨B, hB1, hB2⟩ := hB _ _ _ hf1338
  refine x_istore (i := 5) dL_law__1341 rfl (Nat.le_of_ble_eq_true rfl) ?_
  refine y_aln (i := 2) dL_law__1343 at91.ne0 rfl rfl ?_
  refine y_aln (i := 0) dL_law__1344 sc1000.ne0 rfl rfl ?_
  refine x_iload (i := 4) dL_law__1345 rfl ?_
  refine y_ic dL_law__1347 ⟨by decide, by decide⟩ ?_
  refine x_iadd dL_law__1348 ⟨by omega, by omega⟩ ?_
  refine x_sld dL_law__1349 ⟨by omega, by omega⟩ ?_
  refine x_callVI (hB1) dL_law__1350 lkL_168 mfX12_days cfX12 at91 rfl rfl rfl rfl (Nat.le_of_ble_eq_true rfl) (fun r1350 I1350 P1350 hr1350 hf1350 => ?_)
  obtain ⟨ek, eo, hR2⟩ := hB2 _ _ _ hf1350
  refine x_istore (i := 6) dL_law__1353 rfl (Nat.le_of_ble_eq_true rfl) ?_
  refine y_aln (i := 2) dL_law__1355 at91.ne0 rfl rfl ?_
  refine x_callVI (c_X12_thrown hR2.wp) dL_law__1356 lkL_105 mfX12_thrown cfX12 at91 rfl rfl rfl rfl (Nat.le_of_ble_eq_true rfl) (fun r1356 I1356 P1356 hr1356 hf1356 => ?_)
  obtain ⟨i1356, p1356, q1356⟩ := hf1356
  rw [i1356, p1356, q1356]
  refine x_iload (i := 5) dL_law__1359 rfl ?_
  refine x_icmp_eq (tgt := 1366) dL_law__1361 rfl (fun h1361 => ?_) (fun h1361 => ?_)
  · refine x_iload (i := 5) dL_law__1366 rfl ?_
    refine x_if_ne (tgt := 1383) dL_law__1368 rfl (fun h1368 => ?_) (fun h1368 => ?_)
    · refine x_goto (tgt := 1944) dL_law__1383 rfl ?_
      refine x_keep [1, 1, 1, 1, 1, 0, 0] ?_
      exact V.mono (hN _ _ hR2) (by omega) (by omega)
    · refine y_aln (i := 3) dL_law__1371 ar145.ne0 rfl rfl ?_
      refine y_ic dL_law__1372 ⟨by decide, by decide⟩ ?_
      refine x_lald dL_law__1373 ar145 ⟨by omega, by omega⟩ ?_
      refine x_iload (i := 6) dL_law__1374 rfl ?_
      refine x_i2l dL_law__1376 ?_
      refine x_lcmp dL_law__1377 ?_
      refine x_if_eq (tgt := 1383) dL_law__1378 rfl (fun h1378 => ?_) (fun h1378 => ?_)
      · refine x_goto (tgt := 1944) dL_law__1383 rfl ?_
        refine x_keep [1, 1, 1, 1, 1, 0, 0] ?_
        exact V.mono (hN _ _ hR2) (by omega) (by omega)
      · exact absurd (cmpI_0.mpr (eo (by omega))) h1378
  · exact absurd ek h1361
theorem lw_c20 (hR : REL c I P) (hi : 0 ≤ i ∧ i + 6 ≤ (G.2.1 : Int)) (hL : (G.2.1 : Int) ≤ 3072) (hN : ∀ K R, REL (c + 1) K R → V G (mL_law_ nm hh) 32 kc ks 1944 [some (.inr (.inl 1000)), some (.inr (.inl 1)), some (.inr (.inl 91)), some (.inr (.inl 145)), some (.inl i), none, none] [] NO K R Q) : V G (mL_law_ nm hh) 32 (1 + kc) (6 + ks) 1386 [some (.inr (.inl 1000)), some (.inr (.inl 1)), some (.inr (.inl 91)), some (.inr (.inl 145)), some (.inl i), none, none] [] NO I P Q := by
  obtain ⟨A, hA, hB⟩ := op_end (G := G) (w := scv G (i + 1)) hR
  refine y_aln (i := 1) dL_law__1386 at1.ne0 rfl rfl ?_
  refine y_aln (i := 0) dL_law__1387 sc1000.ne0 rfl rfl ?_
  refine x_iload (i := 4) dL_law__1388 rfl ?_
  refine y_ic dL_law__1390 ⟨by decide, by decide⟩ ?_
  refine x_iadd dL_law__1391 ⟨by omega, by omega⟩ ?_
  refine x_sld dL_law__1392 ⟨by omega, by omega⟩ ?_
  refine y_aln (i := 3) dL_law__1393 ar145.ne0 rfl rfl ?_
  refine x_callSWI (hA) dL_law__1394 lkL_169 mfL_end rfl (fun h => nomatch h) rfl (Nat.le_of_ble_eq_true rfl) (fun r1394 I1394 P1394 hr1394 hf1394 => ?_)
  obtain ⟨B, hB1, hB2⟩ := hB _ _ _ hf1394
  refine x_istore (i := 5) dL_law__1397 rfl (Nat.le_of_ble_eq_true rfl) ?_
  refine y_aln (i := 2) dL_law__1399 at91.ne0 rfl rfl ?_
  refine y_aln (i := 0) dL_law__1400 sc1000.ne0 rfl rfl ?_
  refine x_iload (i := 4) dL_law__1401 rfl ?_
  refine y_ic dL_law__1403 ⟨by decide, by decide⟩ ?_
  refine x_iadd dL_law__1404 ⟨by omega, by omega⟩ ?_
  refine x_sld dL_law__1405 ⟨by omega, by omega⟩ ?_
  refine x_callVI (hB1) dL_law__1406 lkL_171 mfX12_end cfX12 at91 rfl rfl rfl rfl (Nat.le_of_ble_eq_true rfl) (fun r1406 I1406 P1406 hr1406 hf1406 => ?_)
  obtain ⟨ek, eo, hR2⟩ := hB2 _ _ _ hf1406
  refine x_istore (i := 6) dL_law__1409 rfl (Nat.le_of_ble_eq_true rfl) ?_
  refine y_aln (i := 2) dL_law__1411 at91.ne0 rfl rfl ?_
  refine x_callVI (c_X12_thrown hR2.wp) dL_law__1412 lkL_105 mfX12_thrown cfX12 at91 rfl rfl rfl rfl (Nat.le_of_ble_eq_true rfl) (fun r1412 I1412 P1412 hr1412 hf1412 => ?_)
  obtain ⟨i1412, p1412, q1412⟩ := hf1412
  rw [i1412, p1412, q1412]
  refine x_iload (i := 5) dL_law__1415 rfl ?_
  refine x_icmp_eq (tgt := 1422) dL_law__1417 rfl (fun h1417 => ?_) (fun h1417 => ?_)
  · refine x_iload (i := 5) dL_law__1422 rfl ?_
    refine x_if_ne (tgt := 1439) dL_law__1424 rfl (fun h1424 => ?_) (fun h1424 => ?_)
    · refine x_goto (tgt := 1944) dL_law__1439 rfl ?_
      refine x_keep [1, 1, 1, 1, 1, 0, 0] ?_
      exact V.mono (hN _ _ hR2) (by omega) (by omega)
    · refine y_aln (i := 3) dL_law__1427 ar145.ne0 rfl rfl ?_
      refine y_ic dL_law__1428 ⟨by decide, by decide⟩ ?_
      refine x_lald dL_law__1429 ar145 ⟨by omega, by omega⟩ ?_
      refine x_iload (i := 6) dL_law__1430 rfl ?_
      refine x_i2l dL_law__1432 ?_
      refine x_lcmp dL_law__1433 ?_
      refine x_if_eq (tgt := 1439) dL_law__1434 rfl (fun h1434 => ?_) (fun h1434 => ?_)
      · refine x_goto (tgt := 1944) dL_law__1439 rfl ?_
        refine x_keep [1, 1, 1, 1, 1, 0, 0] ?_
        exact V.mono (hN _ _ hR2) (by omega) (by omega)
      · exact absurd (cmpI_0.mpr (eo (by omega))) h1434
  · exact absurd ek h1417
theorem lw_c21 (hR : REL c I P) (hi : 0 ≤ i ∧ i + 6 ≤ (G.2.1 : Int)) (hL : (G.2.1 : Int) ≤ 3072) (hN : ∀ K R, REL (c + 1) K R → V G (mL_law_ nm hh) 32 kc ks 1944 [some (.inr (.inl 1000)), some (.inr (.inl 1)), some (.inr (.inl 91)), some (.inr (.inl 145)), some (.inl i), none, none] [] NO K R Q) : V G (mL_law_ nm hh) 32 (1 + kc) (6 + ks) 1442 [some (.inr (.inl 1000)), some (.inr (.inl 1)), some (.inr (.inl 91)), some (.inr (.inl 145)), some (.inl i), none, none] [] NO I P Q := by
  obtain ⟨A, hA, hB⟩ := op_order (G := G)  hR
  refine y_aln (i := 1) dL_law__1442 at1.ne0 rfl rfl ?_
  refine x_callVI (hA) dL_law__1443 lkL_172 mfX11_order cfX11 at1 rfl rfl rfl rfl (Nat.le_of_ble_eq_true rfl) (fun r1443 I1443 P1443 hr1443 hf1443 => ?_)
  obtain ⟨B, hB1, hB2⟩ := hB _ _ _ hf1443
  refine y_aln (i := 2) dL_law__1446 at91.ne0 rfl rfl ?_
  refine x_callVI (hB1) dL_law__1447 lkL_175 mfX12_order cfX12 at91 rfl rfl rfl rfl (Nat.le_of_ble_eq_true rfl) (fun r1447 I1447 P1447 hr1447 hf1447 => ?_)
  obtain ⟨ek, hR2⟩ := hB2 _ _ _ hf1447
  refine x_icmp_eq (tgt := 1944) dL_law__1450 rfl (fun h1450 => ?_) (fun h1450 => ?_)
  · refine x_keep [1, 1, 1, 1, 1, 0, 0] ?_
    exact V.mono (hN _ _ hR2) (by omega) (by omega)
  · exact absurd ek.symm h1450
theorem lw_c22 (hR : REL c I P) (hi : 0 ≤ i ∧ i + 6 ≤ (G.2.1 : Int)) (hL : (G.2.1 : Int) ≤ 3072) (hN : ∀ K R, REL (c + 1) K R → V G (mL_law_ nm hh) 32 kc ks 1944 [some (.inr (.inl 1000)), some (.inr (.inl 1)), some (.inr (.inl 91)), some (.inr (.inl 145)), some (.inl i), none, none] [] NO K R Q) : V G (mL_law_ nm hh) 32 (1 + kc) (6 + ks) 1455 [some (.inr (.inl 1000)), some (.inr (.inl 1)), some (.inr (.inl 91)), some (.inr (.inl 145)), some (.inl i), none, none] [] NO I P Q := by
  obtain ⟨A, hA, hB⟩ := op_ordered (G := G) (i := scv G (i + 1)) hR
  refine y_aln (i := 1) dL_law__1455 at1.ne0 rfl rfl ?_
  refine y_aln (i := 0) dL_law__1456 sc1000.ne0 rfl rfl ?_
  refine x_iload (i := 4) dL_law__1457 rfl ?_
  refine y_ic dL_law__1459 ⟨by decide, by decide⟩ ?_
  refine x_iadd dL_law__1460 ⟨by omega, by omega⟩ ?_
  refine x_sld dL_law__1461 ⟨by omega, by omega⟩ ?_
  refine y_aln (i := 3) dL_law__1462 ar145.ne0 rfl rfl ?_
  refine x_callSWI (hA) dL_law__1463 lkL_176 mfL_ordered rfl (fun h => nomatch h) rfl (Nat.le_of_ble_eq_true rfl) (fun r1463 I1463 P1463 hr1463 hf1463 => ?_)
  obtain ⟨B, hB1, hB2⟩ := hB _ _ _ hf1463
  refine x_istore (i := 5) dL_law__1466 rfl (Nat.le_of_ble_eq_true rfl) ?_
  refine y_aln (i := 2) dL_law__1468 at91.ne0 rfl rfl ?_
  refine y_aln (i := 0) dL_law__1469 sc1000.ne0 rfl rfl ?_
  refine x_iload (i := 4) dL_law__1470 rfl ?_
  refine y_ic dL_law__1472 ⟨by decide, by decide⟩ ?_
  refine x_iadd dL_law__1473 ⟨by omega, by omega⟩ ?_
  refine x_sld dL_law__1474 ⟨by omega, by omega⟩ ?_
  refine x_callVI (hB1) dL_law__1475 lkL_178 mfX12_ordered cfX12 at91 rfl rfl rfl rfl (Nat.le_of_ble_eq_true rfl) (fun r1475 I1475 P1475 hr1475 hf1475 => ?_)
  obtain ⟨ek, eo, hR2⟩ := hB2 _ _ _ hf1475
  refine x_istore (i := 6) dL_law__1478 rfl (Nat.le_of_ble_eq_true rfl) ?_
  refine y_aln (i := 2) dL_law__1480 at91.ne0 rfl rfl ?_
  refine x_callVI (c_X12_thrown hR2.wp) dL_law__1481 lkL_105 mfX12_thrown cfX12 at91 rfl rfl rfl rfl (Nat.le_of_ble_eq_true rfl) (fun r1481 I1481 P1481 hr1481 hf1481 => ?_)
  obtain ⟨i1481, p1481, q1481⟩ := hf1481
  rw [i1481, p1481, q1481]
  refine x_iload (i := 5) dL_law__1484 rfl ?_
  refine x_icmp_eq (tgt := 1491) dL_law__1486 rfl (fun h1486 => ?_) (fun h1486 => ?_)
  · refine x_iload (i := 5) dL_law__1491 rfl ?_
    refine x_if_ne (tgt := 1508) dL_law__1493 rfl (fun h1493 => ?_) (fun h1493 => ?_)
    · refine x_goto (tgt := 1944) dL_law__1508 rfl ?_
      refine x_keep [1, 1, 1, 1, 1, 0, 0] ?_
      exact V.mono (hN _ _ hR2) (by omega) (by omega)
    · refine y_aln (i := 3) dL_law__1496 ar145.ne0 rfl rfl ?_
      refine y_ic dL_law__1497 ⟨by decide, by decide⟩ ?_
      refine x_lald dL_law__1498 ar145 ⟨by omega, by omega⟩ ?_
      refine x_iload (i := 6) dL_law__1499 rfl ?_
      refine x_i2l dL_law__1501 ?_
      refine x_lcmp dL_law__1502 ?_
      refine x_if_eq (tgt := 1508) dL_law__1503 rfl (fun h1503 => ?_) (fun h1503 => ?_)
      · refine x_goto (tgt := 1944) dL_law__1508 rfl ?_
        refine x_keep [1, 1, 1, 1, 1, 0, 0] ?_
        exact V.mono (hN _ _ hR2) (by omega) (by omega)
      · exact absurd (cmpI_0.mpr (eo (by omega))) h1503
  · exact absurd ek h1486
theorem lw_c23 (hR : REL c I P) (hi : 0 ≤ i ∧ i + 6 ≤ (G.2.1 : Int)) (hL : (G.2.1 : Int) ≤ 3072) (hN : ∀ K R, REL (c + 1) K R → V G (mL_law_ nm hh) 32 kc ks 1944 [some (.inr (.inl 1000)), some (.inr (.inl 1)), some (.inr (.inl 91)), some (.inr (.inl 145)), some (.inl i), none, none] [] NO K R Q) : V G (mL_law_ nm hh) 32 (1 + kc) (6 + ks) 1511 [some (.inr (.inl 1000)), some (.inr (.inl 1)), some (.inr (.inl 91)), some (.inr (.inl 145)), some (.inl i), none, none] [] NO I P Q := by
  obtain ⟨A, hA, hB⟩ := op_ahead (G := G) (p := scv G (i + 1)) hR
  refine y_aln (i := 1) dL_law__1511 at1.ne0 rfl rfl ?_
  refine y_aln (i := 0) dL_law__1512 sc1000.ne0 rfl rfl ?_
  refine x_iload (i := 4) dL_law__1513 rfl ?_
  refine y_ic dL_law__1515 ⟨by decide, by decide⟩ ?_
  refine x_iadd dL_law__1516 ⟨by omega, by omega⟩ ?_
  refine x_sld dL_law__1517 ⟨by omega, by omega⟩ ?_
  refine y_aln (i := 3) dL_law__1518 ar145.ne0 rfl rfl ?_
  refine x_callSWI (hA) dL_law__1519 lkL_179 mfL_ahead rfl (fun h => nomatch h) rfl (Nat.le_of_ble_eq_true rfl) (fun r1519 I1519 P1519 hr1519 hf1519 => ?_)
  obtain ⟨B, hB1, hB2⟩ := hB _ _ _ hf1519
  refine x_istore (i := 5) dL_law__1522 rfl (Nat.le_of_ble_eq_true rfl) ?_
  refine y_aln (i := 2) dL_law__1524 at91.ne0 rfl rfl ?_
  refine y_aln (i := 0) dL_law__1525 sc1000.ne0 rfl rfl ?_
  refine x_iload (i := 4) dL_law__1526 rfl ?_
  refine y_ic dL_law__1528 ⟨by decide, by decide⟩ ?_
  refine x_iadd dL_law__1529 ⟨by omega, by omega⟩ ?_
  refine x_sld dL_law__1530 ⟨by omega, by omega⟩ ?_
  refine x_callVI (hB1) dL_law__1531 lkL_181 mfX12_ahead cfX12 at91 rfl rfl rfl rfl (Nat.le_of_ble_eq_true rfl) (fun r1531 I1531 P1531 hr1531 hf1531 => ?_)
  obtain ⟨ek, eo, hR2⟩ := hB2 _ _ _ hf1531
  refine x_istore (i := 6) dL_law__1534 rfl (Nat.le_of_ble_eq_true rfl) ?_
  refine y_aln (i := 2) dL_law__1536 at91.ne0 rfl rfl ?_
  refine x_callVI (c_X12_thrown hR2.wp) dL_law__1537 lkL_105 mfX12_thrown cfX12 at91 rfl rfl rfl rfl (Nat.le_of_ble_eq_true rfl) (fun r1537 I1537 P1537 hr1537 hf1537 => ?_)
  obtain ⟨i1537, p1537, q1537⟩ := hf1537
  rw [i1537, p1537, q1537]
  refine x_iload (i := 5) dL_law__1540 rfl ?_
  refine x_icmp_eq (tgt := 1547) dL_law__1542 rfl (fun h1542 => ?_) (fun h1542 => ?_)
  · refine x_iload (i := 5) dL_law__1547 rfl ?_
    refine x_if_ne (tgt := 1564) dL_law__1549 rfl (fun h1549 => ?_) (fun h1549 => ?_)
    · refine x_goto (tgt := 1944) dL_law__1564 rfl ?_
      refine x_keep [1, 1, 1, 1, 1, 0, 0] ?_
      exact V.mono (hN _ _ hR2) (by omega) (by omega)
    · refine y_aln (i := 3) dL_law__1552 ar145.ne0 rfl rfl ?_
      refine y_ic dL_law__1553 ⟨by decide, by decide⟩ ?_
      refine x_lald dL_law__1554 ar145 ⟨by omega, by omega⟩ ?_
      refine x_iload (i := 6) dL_law__1555 rfl ?_
      refine x_i2l dL_law__1557 ?_
      refine x_lcmp dL_law__1558 ?_
      refine x_if_eq (tgt := 1564) dL_law__1559 rfl (fun h1559 => ?_) (fun h1559 => ?_)
      · refine x_goto (tgt := 1944) dL_law__1564 rfl ?_
        refine x_keep [1, 1, 1, 1, 1, 0, 0] ?_
        exact V.mono (hN _ _ hR2) (by omega) (by omega)
      · exact absurd (cmpI_0.mpr (eo (by omega))) h1559
  · exact absurd ek h1542
theorem lw_c24 (hR : REL c I P) (hi : 0 ≤ i ∧ i + 6 ≤ (G.2.1 : Int)) (hL : (G.2.1 : Int) ≤ 3072) (hN : ∀ K R, REL (c + 1) K R → V G (mL_law_ nm hh) 32 kc ks 1944 [some (.inr (.inl 1000)), some (.inr (.inl 1)), some (.inr (.inl 91)), some (.inr (.inl 145)), some (.inl i), none, none] [] NO K R Q) : V G (mL_law_ nm hh) 32 (1 + kc) (6 + ks) 1567 [some (.inr (.inl 1000)), some (.inr (.inl 1)), some (.inr (.inl 91)), some (.inr (.inl 145)), some (.inl i), none, none] [] NO I P Q := by
  obtain ⟨A, hA, hB⟩ := op_still (G := G) (p := scv G (i + 1)) (m := scv G (i + 2)) (w := scv G (i + 3)) hR
  refine y_aln (i := 1) dL_law__1567 at1.ne0 rfl rfl ?_
  refine y_aln (i := 0) dL_law__1568 sc1000.ne0 rfl rfl ?_
  refine x_iload (i := 4) dL_law__1569 rfl ?_
  refine y_ic dL_law__1571 ⟨by decide, by decide⟩ ?_
  refine x_iadd dL_law__1572 ⟨by omega, by omega⟩ ?_
  refine x_sld dL_law__1573 ⟨by omega, by omega⟩ ?_
  refine y_aln (i := 0) dL_law__1574 sc1000.ne0 rfl rfl ?_
  refine x_iload (i := 4) dL_law__1575 rfl ?_
  refine y_ic dL_law__1577 ⟨by decide, by decide⟩ ?_
  refine x_iadd dL_law__1578 ⟨by omega, by omega⟩ ?_
  refine x_sld dL_law__1579 ⟨by omega, by omega⟩ ?_
  refine y_aln (i := 0) dL_law__1580 sc1000.ne0 rfl rfl ?_
  refine x_iload (i := 4) dL_law__1581 rfl ?_
  refine y_ic dL_law__1583 ⟨by decide, by decide⟩ ?_
  refine x_iadd dL_law__1584 ⟨by omega, by omega⟩ ?_
  refine x_sld dL_law__1585 ⟨by omega, by omega⟩ ?_
  refine y_aln (i := 3) dL_law__1586 ar145.ne0 rfl rfl ?_
  refine x_callSWI (hA) dL_law__1587 lkL_182 mfL_still rfl (fun h => nomatch h) rfl (Nat.le_of_ble_eq_true rfl) (fun r1587 I1587 P1587 hr1587 hf1587 => ?_)
  obtain ⟨B, hB1, hB2⟩ := hB _ _ _ hf1587
  refine x_istore (i := 5) dL_law__1590 rfl (Nat.le_of_ble_eq_true rfl) ?_
  refine y_aln (i := 2) dL_law__1592 at91.ne0 rfl rfl ?_
  refine y_aln (i := 0) dL_law__1593 sc1000.ne0 rfl rfl ?_
  refine x_iload (i := 4) dL_law__1594 rfl ?_
  refine y_ic dL_law__1596 ⟨by decide, by decide⟩ ?_
  refine x_iadd dL_law__1597 ⟨by omega, by omega⟩ ?_
  refine x_sld dL_law__1598 ⟨by omega, by omega⟩ ?_
  refine y_aln (i := 0) dL_law__1599 sc1000.ne0 rfl rfl ?_
  refine x_iload (i := 4) dL_law__1600 rfl ?_
  refine y_ic dL_law__1602 ⟨by decide, by decide⟩ ?_
  refine x_iadd dL_law__1603 ⟨by omega, by omega⟩ ?_
  refine x_sld dL_law__1604 ⟨by omega, by omega⟩ ?_
  refine y_aln (i := 0) dL_law__1605 sc1000.ne0 rfl rfl ?_
  refine x_iload (i := 4) dL_law__1606 rfl ?_
  refine y_ic dL_law__1608 ⟨by decide, by decide⟩ ?_
  refine x_iadd dL_law__1609 ⟨by omega, by omega⟩ ?_
  refine x_sld dL_law__1610 ⟨by omega, by omega⟩ ?_
  refine x_callVI (hB1) dL_law__1611 lkL_185 mfX12_still cfX12 at91 rfl rfl rfl rfl (Nat.le_of_ble_eq_true rfl) (fun r1611 I1611 P1611 hr1611 hf1611 => ?_)
  obtain ⟨ek, eo, hR2⟩ := hB2 _ _ _ hf1611
  refine x_istore (i := 6) dL_law__1614 rfl (Nat.le_of_ble_eq_true rfl) ?_
  refine y_aln (i := 2) dL_law__1616 at91.ne0 rfl rfl ?_
  refine x_callVI (c_X12_thrown hR2.wp) dL_law__1617 lkL_105 mfX12_thrown cfX12 at91 rfl rfl rfl rfl (Nat.le_of_ble_eq_true rfl) (fun r1617 I1617 P1617 hr1617 hf1617 => ?_)
  obtain ⟨i1617, p1617, q1617⟩ := hf1617
  rw [i1617, p1617, q1617]
  refine x_iload (i := 5) dL_law__1620 rfl ?_
  refine x_icmp_eq (tgt := 1627) dL_law__1622 rfl (fun h1622 => ?_) (fun h1622 => ?_)
  · refine x_iload (i := 5) dL_law__1627 rfl ?_
    refine x_if_ne (tgt := 1644) dL_law__1629 rfl (fun h1629 => ?_) (fun h1629 => ?_)
    · refine x_goto (tgt := 1944) dL_law__1644 rfl ?_
      refine x_keep [1, 1, 1, 1, 1, 0, 0] ?_
      exact V.mono (hN _ _ hR2) (by omega) (by omega)
    · refine y_aln (i := 3) dL_law__1632 ar145.ne0 rfl rfl ?_
      refine y_ic dL_law__1633 ⟨by decide, by decide⟩ ?_
      refine x_lald dL_law__1634 ar145 ⟨by omega, by omega⟩ ?_
      refine x_iload (i := 6) dL_law__1635 rfl ?_
      refine x_i2l dL_law__1637 ?_
      refine x_lcmp dL_law__1638 ?_
      refine x_if_eq (tgt := 1644) dL_law__1639 rfl (fun h1639 => ?_) (fun h1639 => ?_)
      · refine x_goto (tgt := 1944) dL_law__1644 rfl ?_
        refine x_keep [1, 1, 1, 1, 1, 0, 0] ?_
        exact V.mono (hN _ _ hR2) (by omega) (by omega)
      · exact absurd (cmpI_0.mpr (eo (by omega))) h1639
  · exact absurd ek h1622
theorem lw_c25 (hR : REL c I P) (hi : 0 ≤ i ∧ i + 6 ≤ (G.2.1 : Int)) (hL : (G.2.1 : Int) ≤ 3072) (hN : ∀ K R, REL (c + 1) K R → V G (mL_law_ nm hh) 32 kc ks 1944 [some (.inr (.inl 1000)), some (.inr (.inl 1)), some (.inr (.inl 91)), some (.inr (.inl 145)), some (.inl i), none, none] [] NO K R Q) : V G (mL_law_ nm hh) 32 (1 + kc) (6 + ks) 1647 [some (.inr (.inl 1000)), some (.inr (.inl 1)), some (.inr (.inl 91)), some (.inr (.inl 145)), some (.inl i), none, none] [] NO I P Q := by
  obtain ⟨A, hA, hB⟩ := op_share (G := G) (w := scv G (i + 1)) hR
  refine y_aln (i := 1) dL_law__1647 at1.ne0 rfl rfl ?_
  refine y_aln (i := 0) dL_law__1648 sc1000.ne0 rfl rfl ?_
  refine x_iload (i := 4) dL_law__1649 rfl ?_
  refine y_ic dL_law__1651 ⟨by decide, by decide⟩ ?_
  refine x_iadd dL_law__1652 ⟨by omega, by omega⟩ ?_
  refine x_sld dL_law__1653 ⟨by omega, by omega⟩ ?_
  refine y_aln (i := 3) dL_law__1654 ar145.ne0 rfl rfl ?_
  refine x_callSWI (hA) dL_law__1655 lkL_186 mfL_share rfl (fun h => nomatch h) rfl (Nat.le_of_ble_eq_true rfl) (fun r1655 I1655 P1655 hr1655 hf1655 => ?_)
  obtain ⟨B, hB1, hB2⟩ := hB _ _ _ hf1655
  refine x_istore (i := 5) dL_law__1658 rfl (Nat.le_of_ble_eq_true rfl) ?_
  refine y_aln (i := 2) dL_law__1660 at91.ne0 rfl rfl ?_
  refine y_aln (i := 0) dL_law__1661 sc1000.ne0 rfl rfl ?_
  refine x_iload (i := 4) dL_law__1662 rfl ?_
  refine y_ic dL_law__1664 ⟨by decide, by decide⟩ ?_
  refine x_iadd dL_law__1665 ⟨by omega, by omega⟩ ?_
  refine x_sld dL_law__1666 ⟨by omega, by omega⟩ ?_
  refine x_callVI (hB1) dL_law__1667 lkL_188 mfX12_share cfX12 at91 rfl rfl rfl rfl (Nat.le_of_ble_eq_true rfl) (fun r1667 I1667 P1667 hr1667 hf1667 => ?_)
  obtain ⟨ek, eo, hR2⟩ := hB2 _ _ _ hf1667
  refine x_istore (i := 6) dL_law__1670 rfl (Nat.le_of_ble_eq_true rfl) ?_
  refine y_aln (i := 2) dL_law__1672 at91.ne0 rfl rfl ?_
  refine x_callVI (c_X12_thrown hR2.wp) dL_law__1673 lkL_105 mfX12_thrown cfX12 at91 rfl rfl rfl rfl (Nat.le_of_ble_eq_true rfl) (fun r1673 I1673 P1673 hr1673 hf1673 => ?_)
  obtain ⟨i1673, p1673, q1673⟩ := hf1673
  rw [i1673, p1673, q1673]
  refine x_iload (i := 5) dL_law__1676 rfl ?_
  refine x_icmp_eq (tgt := 1683) dL_law__1678 rfl (fun h1678 => ?_) (fun h1678 => ?_)
  · refine x_iload (i := 5) dL_law__1683 rfl ?_
    refine x_if_ne (tgt := 1700) dL_law__1685 rfl (fun h1685 => ?_) (fun h1685 => ?_)
    · refine x_goto (tgt := 1944) dL_law__1700 rfl ?_
      refine x_keep [1, 1, 1, 1, 1, 0, 0] ?_
      exact V.mono (hN _ _ hR2) (by omega) (by omega)
    · refine y_aln (i := 3) dL_law__1688 ar145.ne0 rfl rfl ?_
      refine y_ic dL_law__1689 ⟨by decide, by decide⟩ ?_
      refine x_lald dL_law__1690 ar145 ⟨by omega, by omega⟩ ?_
      refine x_iload (i := 6) dL_law__1691 rfl ?_
      refine x_i2l dL_law__1693 ?_
      refine x_lcmp dL_law__1694 ?_
      refine x_if_eq (tgt := 1700) dL_law__1695 rfl (fun h1695 => ?_) (fun h1695 => ?_)
      · refine x_goto (tgt := 1944) dL_law__1700 rfl ?_
        refine x_keep [1, 1, 1, 1, 1, 0, 0] ?_
        exact V.mono (hN _ _ hR2) (by omega) (by omega)
      · exact absurd (cmpI_0.mpr (eo (by omega))) h1695
  · exact absurd ek h1678
theorem lw_c26 (hR : REL c I P) (hi : 0 ≤ i ∧ i + 6 ≤ (G.2.1 : Int)) (hL : (G.2.1 : Int) ≤ 3072) (hN : ∀ K R, REL (c + 1) K R → V G (mL_law_ nm hh) 32 kc ks 1944 [some (.inr (.inl 1000)), some (.inr (.inl 1)), some (.inr (.inl 91)), some (.inr (.inl 145)), some (.inl i), none, none] [] NO K R Q) : V G (mL_law_ nm hh) 32 (1 + kc) (6 + ks) 1703 [some (.inr (.inl 1000)), some (.inr (.inl 1)), some (.inr (.inl 91)), some (.inr (.inl 145)), some (.inl i), none, none] [] NO I P Q := by
  obtain ⟨A, hA, hB⟩ := op_shared (G := G) (p := scv G (i + 1)) (s := scv G (i + 2)) hR
  refine y_aln (i := 1) dL_law__1703 at1.ne0 rfl rfl ?_
  refine y_aln (i := 0) dL_law__1704 sc1000.ne0 rfl rfl ?_
  refine x_iload (i := 4) dL_law__1705 rfl ?_
  refine y_ic dL_law__1707 ⟨by decide, by decide⟩ ?_
  refine x_iadd dL_law__1708 ⟨by omega, by omega⟩ ?_
  refine x_sld dL_law__1709 ⟨by omega, by omega⟩ ?_
  refine y_aln (i := 0) dL_law__1710 sc1000.ne0 rfl rfl ?_
  refine x_iload (i := 4) dL_law__1711 rfl ?_
  refine y_ic dL_law__1713 ⟨by decide, by decide⟩ ?_
  refine x_iadd dL_law__1714 ⟨by omega, by omega⟩ ?_
  refine x_sld dL_law__1715 ⟨by omega, by omega⟩ ?_
  refine y_aln (i := 3) dL_law__1716 ar145.ne0 rfl rfl ?_
  refine x_callSWI (hA) dL_law__1717 lkL_189 mfL_shared rfl (fun h => nomatch h) rfl (Nat.le_of_ble_eq_true rfl) (fun r1717 I1717 P1717 hr1717 hf1717 => ?_)
  obtain ⟨B, hB1, hB2⟩ := hB _ _ _ hf1717
  refine x_istore (i := 5) dL_law__1720 rfl (Nat.le_of_ble_eq_true rfl) ?_
  refine y_aln (i := 2) dL_law__1722 at91.ne0 rfl rfl ?_
  refine y_aln (i := 0) dL_law__1723 sc1000.ne0 rfl rfl ?_
  refine x_iload (i := 4) dL_law__1724 rfl ?_
  refine y_ic dL_law__1726 ⟨by decide, by decide⟩ ?_
  refine x_iadd dL_law__1727 ⟨by omega, by omega⟩ ?_
  refine x_sld dL_law__1728 ⟨by omega, by omega⟩ ?_
  refine y_aln (i := 0) dL_law__1729 sc1000.ne0 rfl rfl ?_
  refine x_iload (i := 4) dL_law__1730 rfl ?_
  refine y_ic dL_law__1732 ⟨by decide, by decide⟩ ?_
  refine x_iadd dL_law__1733 ⟨by omega, by omega⟩ ?_
  refine x_sld dL_law__1734 ⟨by omega, by omega⟩ ?_
  refine x_callVI (hB1) dL_law__1735 lkL_191 mfX12_shared cfX12 at91 rfl rfl rfl rfl (Nat.le_of_ble_eq_true rfl) (fun r1735 I1735 P1735 hr1735 hf1735 => ?_)
  obtain ⟨ek, eo, hR2⟩ := hB2 _ _ _ hf1735
  refine x_istore (i := 6) dL_law__1738 rfl (Nat.le_of_ble_eq_true rfl) ?_
  refine y_aln (i := 2) dL_law__1740 at91.ne0 rfl rfl ?_
  refine x_callVI (c_X12_thrown hR2.wp) dL_law__1741 lkL_105 mfX12_thrown cfX12 at91 rfl rfl rfl rfl (Nat.le_of_ble_eq_true rfl) (fun r1741 I1741 P1741 hr1741 hf1741 => ?_)
  obtain ⟨i1741, p1741, q1741⟩ := hf1741
  rw [i1741, p1741, q1741]
  refine x_iload (i := 5) dL_law__1744 rfl ?_
  refine x_icmp_eq (tgt := 1751) dL_law__1746 rfl (fun h1746 => ?_) (fun h1746 => ?_)
  · refine x_iload (i := 5) dL_law__1751 rfl ?_
    refine x_if_ne (tgt := 1768) dL_law__1753 rfl (fun h1753 => ?_) (fun h1753 => ?_)
    · refine x_goto (tgt := 1944) dL_law__1768 rfl ?_
      refine x_keep [1, 1, 1, 1, 1, 0, 0] ?_
      exact V.mono (hN _ _ hR2) (by omega) (by omega)
    · refine y_aln (i := 3) dL_law__1756 ar145.ne0 rfl rfl ?_
      refine y_ic dL_law__1757 ⟨by decide, by decide⟩ ?_
      refine x_lald dL_law__1758 ar145 ⟨by omega, by omega⟩ ?_
      refine x_iload (i := 6) dL_law__1759 rfl ?_
      refine x_i2l dL_law__1761 ?_
      refine x_lcmp dL_law__1762 ?_
      refine x_if_eq (tgt := 1768) dL_law__1763 rfl (fun h1763 => ?_) (fun h1763 => ?_)
      · refine x_goto (tgt := 1944) dL_law__1768 rfl ?_
        refine x_keep [1, 1, 1, 1, 1, 0, 0] ?_
        exact V.mono (hN _ _ hR2) (by omega) (by omega)
      · exact absurd (cmpI_0.mpr (eo (by omega))) h1763
  · exact absurd ek h1746
theorem lw_c27 (hR : REL c I P) (hi : 0 ≤ i ∧ i + 6 ≤ (G.2.1 : Int)) (hL : (G.2.1 : Int) ≤ 3072) (hN : ∀ K R, REL (c + 1) K R → V G (mL_law_ nm hh) 32 kc ks 1944 [some (.inr (.inl 1000)), some (.inr (.inl 1)), some (.inr (.inl 91)), some (.inr (.inl 145)), some (.inl i), none, none] [] NO K R Q) : V G (mL_law_ nm hh) 32 (1 + kc) (6 + ks) 1771 [some (.inr (.inl 1000)), some (.inr (.inl 1)), some (.inr (.inl 91)), some (.inr (.inl 145)), some (.inl i), none, none] [] NO I P Q := by
  obtain ⟨A, hA, hB⟩ := op_law (G := G) (l := scv G (i + 1)) (w := scv G (i + 2)) hR
  refine y_aln (i := 1) dL_law__1771 at1.ne0 rfl rfl ?_
  refine y_aln (i := 0) dL_law__1772 sc1000.ne0 rfl rfl ?_
  refine x_iload (i := 4) dL_law__1773 rfl ?_
  refine y_ic dL_law__1775 ⟨by decide, by decide⟩ ?_
  refine x_iadd dL_law__1776 ⟨by omega, by omega⟩ ?_
  refine x_sld dL_law__1777 ⟨by omega, by omega⟩ ?_
  refine y_aln (i := 0) dL_law__1778 sc1000.ne0 rfl rfl ?_
  refine x_iload (i := 4) dL_law__1779 rfl ?_
  refine y_ic dL_law__1781 ⟨by decide, by decide⟩ ?_
  refine x_iadd dL_law__1782 ⟨by omega, by omega⟩ ?_
  refine x_sld dL_law__1783 ⟨by omega, by omega⟩ ?_
  refine y_aln (i := 3) dL_law__1784 ar145.ne0 rfl rfl ?_
  refine x_callSWI (hA) dL_law__1785 lkL_192 mfL_law rfl (fun h => nomatch h) rfl (Nat.le_of_ble_eq_true rfl) (fun r1785 I1785 P1785 hr1785 hf1785 => ?_)
  obtain ⟨B, hB1, hB2⟩ := hB _ _ _ hf1785
  refine x_istore (i := 5) dL_law__1788 rfl (Nat.le_of_ble_eq_true rfl) ?_
  refine y_aln (i := 2) dL_law__1790 at91.ne0 rfl rfl ?_
  refine y_aln (i := 0) dL_law__1791 sc1000.ne0 rfl rfl ?_
  refine x_iload (i := 4) dL_law__1792 rfl ?_
  refine y_ic dL_law__1794 ⟨by decide, by decide⟩ ?_
  refine x_iadd dL_law__1795 ⟨by omega, by omega⟩ ?_
  refine x_sld dL_law__1796 ⟨by omega, by omega⟩ ?_
  refine y_aln (i := 0) dL_law__1797 sc1000.ne0 rfl rfl ?_
  refine x_iload (i := 4) dL_law__1798 rfl ?_
  refine y_ic dL_law__1800 ⟨by decide, by decide⟩ ?_
  refine x_iadd dL_law__1801 ⟨by omega, by omega⟩ ?_
  refine x_sld dL_law__1802 ⟨by omega, by omega⟩ ?_
  refine x_callVI (hB1) dL_law__1803 lkL_194 mfX12_law cfX12 at91 rfl rfl rfl rfl (Nat.le_of_ble_eq_true rfl) (fun r1803 I1803 P1803 hr1803 hf1803 => ?_)
  obtain ⟨ek, eo, hR2⟩ := hB2 _ _ _ hf1803
  refine x_istore (i := 6) dL_law__1806 rfl (Nat.le_of_ble_eq_true rfl) ?_
  refine y_aln (i := 2) dL_law__1808 at91.ne0 rfl rfl ?_
  refine x_callVI (c_X12_thrown hR2.wp) dL_law__1809 lkL_105 mfX12_thrown cfX12 at91 rfl rfl rfl rfl (Nat.le_of_ble_eq_true rfl) (fun r1809 I1809 P1809 hr1809 hf1809 => ?_)
  obtain ⟨i1809, p1809, q1809⟩ := hf1809
  rw [i1809, p1809, q1809]
  refine x_iload (i := 5) dL_law__1812 rfl ?_
  refine x_icmp_eq (tgt := 1819) dL_law__1814 rfl (fun h1814 => ?_) (fun h1814 => ?_)
  · refine x_iload (i := 5) dL_law__1819 rfl ?_
    refine x_if_ne (tgt := 1836) dL_law__1821 rfl (fun h1821 => ?_) (fun h1821 => ?_)
    · refine x_goto (tgt := 1944) dL_law__1836 rfl ?_
      refine x_keep [1, 1, 1, 1, 1, 0, 0] ?_
      exact V.mono (hN _ _ hR2) (by omega) (by omega)
    · refine y_aln (i := 3) dL_law__1824 ar145.ne0 rfl rfl ?_
      refine y_ic dL_law__1825 ⟨by decide, by decide⟩ ?_
      refine x_lald dL_law__1826 ar145 ⟨by omega, by omega⟩ ?_
      refine x_iload (i := 6) dL_law__1827 rfl ?_
      refine x_i2l dL_law__1829 ?_
      refine x_lcmp dL_law__1830 ?_
      refine x_if_eq (tgt := 1836) dL_law__1831 rfl (fun h1831 => ?_) (fun h1831 => ?_)
      · refine x_goto (tgt := 1944) dL_law__1836 rfl ?_
        refine x_keep [1, 1, 1, 1, 1, 0, 0] ?_
        exact V.mono (hN _ _ hR2) (by omega) (by omega)
      · exact absurd (cmpI_0.mpr (eo (by omega))) h1831
  · exact absurd ek h1814
theorem lw_c28 (hR : REL c I P) (hi : 0 ≤ i ∧ i + 6 ≤ (G.2.1 : Int)) (hL : (G.2.1 : Int) ≤ 3072) (hN : ∀ K R, REL (c + 1) K R → V G (mL_law_ nm hh) 32 kc ks 1944 [some (.inr (.inl 1000)), some (.inr (.inl 1)), some (.inr (.inl 91)), some (.inr (.inl 145)), some (.inl i), none, none] [] NO K R Q) : V G (mL_law_ nm hh) 32 (1 + kc) (6 + ks) 1839 [some (.inr (.inl 1000)), some (.inr (.inl 1)), some (.inr (.inl 91)), some (.inr (.inl 145)), some (.inl i), none, none] [] NO I P Q := by
  obtain ⟨A, hA, hB⟩ := op_best (G := G)  hR
  refine y_aln (i := 1) dL_law__1839 at1.ne0 rfl rfl ?_
  refine x_callVI (hA) dL_law__1840 lkL_195 mfX11_best cfX11 at1 rfl rfl rfl rfl (Nat.le_of_ble_eq_true rfl) (fun r1840 I1840 P1840 hr1840 hf1840 => ?_)
  obtain ⟨B, hB1, hB2⟩ := hB _ _ _ hf1840
  refine y_aln (i := 2) dL_law__1843 at91.ne0 rfl rfl ?_
  refine x_callVI (hB1) dL_law__1844 lkL_198 mfX12_best cfX12 at91 rfl rfl rfl rfl (Nat.le_of_ble_eq_true rfl) (fun r1844 I1844 P1844 hr1844 hf1844 => ?_)
  obtain ⟨ek, hR2⟩ := hB2 _ _ _ hf1844
  refine x_icmp_eq (tgt := 1944) dL_law__1847 rfl (fun h1847 => ?_) (fun h1847 => ?_)
  · refine x_keep [1, 1, 1, 1, 1, 0, 0] ?_
    exact V.mono (hN _ _ hR2) (by omega) (by omega)
  · exact absurd ek.symm h1847
theorem lw_c29 (hR : REL c I P) (hi : 0 ≤ i ∧ i + 6 ≤ (G.2.1 : Int)) (hL : (G.2.1 : Int) ≤ 3072) (hN : ∀ K R, REL (c + 1) K R → V G (mL_law_ nm hh) 32 kc ks 1944 [some (.inr (.inl 1000)), some (.inr (.inl 1)), some (.inr (.inl 91)), some (.inr (.inl 145)), some (.inl i), none, none] [] NO K R Q) : V G (mL_law_ nm hh) 32 (1 + kc) (6 + ks) 1852 [some (.inr (.inl 1000)), some (.inr (.inl 1)), some (.inr (.inl 91)), some (.inr (.inl 145)), some (.inl i), none, none] [] NO I P Q := by
  obtain ⟨A, hA, hB⟩ := op_run (G := G) (n := scv G (i + 1)) (s := scv G (i + 2)) hR
  refine y_aln (i := 1) dL_law__1852 at1.ne0 rfl rfl ?_
  refine y_aln (i := 0) dL_law__1853 sc1000.ne0 rfl rfl ?_
  refine x_iload (i := 4) dL_law__1854 rfl ?_
  refine y_ic dL_law__1856 ⟨by decide, by decide⟩ ?_
  refine x_iadd dL_law__1857 ⟨by omega, by omega⟩ ?_
  refine x_sld dL_law__1858 ⟨by omega, by omega⟩ ?_
  refine y_aln (i := 0) dL_law__1859 sc1000.ne0 rfl rfl ?_
  refine x_iload (i := 4) dL_law__1860 rfl ?_
  refine y_ic dL_law__1862 ⟨by decide, by decide⟩ ?_
  refine x_iadd dL_law__1863 ⟨by omega, by omega⟩ ?_
  refine x_sld dL_law__1864 ⟨by omega, by omega⟩ ?_
  refine y_aln (i := 3) dL_law__1865 ar145.ne0 rfl rfl ?_
  refine x_callSWI (hA) dL_law__1866 lkL_199 mfL_run rfl (fun h => nomatch h) rfl (Nat.le_of_ble_eq_true rfl) (fun r1866 I1866 P1866 hr1866 hf1866 => ?_)
  obtain ⟨B, hB1, hB2⟩ := hB _ _ _ hf1866
  refine x_istore (i := 5) dL_law__1869 rfl (Nat.le_of_ble_eq_true rfl) ?_
  refine y_aln (i := 2) dL_law__1871 at91.ne0 rfl rfl ?_
  refine y_aln (i := 0) dL_law__1872 sc1000.ne0 rfl rfl ?_
  refine x_iload (i := 4) dL_law__1873 rfl ?_
  refine y_ic dL_law__1875 ⟨by decide, by decide⟩ ?_
  refine x_iadd dL_law__1876 ⟨by omega, by omega⟩ ?_
  refine x_sld dL_law__1877 ⟨by omega, by omega⟩ ?_
  refine y_aln (i := 0) dL_law__1878 sc1000.ne0 rfl rfl ?_
  refine x_iload (i := 4) dL_law__1879 rfl ?_
  refine y_ic dL_law__1881 ⟨by decide, by decide⟩ ?_
  refine x_iadd dL_law__1882 ⟨by omega, by omega⟩ ?_
  refine x_sld dL_law__1883 ⟨by omega, by omega⟩ ?_
  refine x_callVI (hB1) dL_law__1884 lkL_201 mfX12_run cfX12 at91 rfl rfl rfl rfl (Nat.le_of_ble_eq_true rfl) (fun r1884 I1884 P1884 hr1884 hf1884 => ?_)
  obtain ⟨ek, eo, hR2⟩ := hB2 _ _ _ hf1884
  refine x_istore (i := 6) dL_law__1887 rfl (Nat.le_of_ble_eq_true rfl) ?_
  refine y_aln (i := 2) dL_law__1889 at91.ne0 rfl rfl ?_
  refine x_callVI (c_X12_thrown hR2.wp) dL_law__1890 lkL_105 mfX12_thrown cfX12 at91 rfl rfl rfl rfl (Nat.le_of_ble_eq_true rfl) (fun r1890 I1890 P1890 hr1890 hf1890 => ?_)
  obtain ⟨i1890, p1890, q1890⟩ := hf1890
  rw [i1890, p1890, q1890]
  refine x_iload (i := 5) dL_law__1893 rfl ?_
  refine x_icmp_eq (tgt := 1900) dL_law__1895 rfl (fun h1895 => ?_) (fun h1895 => ?_)
  · refine x_iload (i := 5) dL_law__1900 rfl ?_
    refine x_if_ne (tgt := 1917) dL_law__1902 rfl (fun h1902 => ?_) (fun h1902 => ?_)
    · refine x_goto (tgt := 1944) dL_law__1917 rfl ?_
      refine x_keep [1, 1, 1, 1, 1, 0, 0] ?_
      exact V.mono (hN _ _ hR2) (by omega) (by omega)
    · refine y_aln (i := 3) dL_law__1905 ar145.ne0 rfl rfl ?_
      refine y_ic dL_law__1906 ⟨by decide, by decide⟩ ?_
      refine x_lald dL_law__1907 ar145 ⟨by omega, by omega⟩ ?_
      refine x_iload (i := 6) dL_law__1908 rfl ?_
      refine x_i2l dL_law__1910 ?_
      refine x_lcmp dL_law__1911 ?_
      refine x_if_eq (tgt := 1917) dL_law__1912 rfl (fun h1912 => ?_) (fun h1912 => ?_)
      · refine x_goto (tgt := 1944) dL_law__1917 rfl ?_
        refine x_keep [1, 1, 1, 1, 1, 0, 0] ?_
        exact V.mono (hN _ _ hR2) (by omega) (by omega)
      · exact absurd (cmpI_0.mpr (eo (by omega))) h1912
  · exact absurd ek h1895
theorem lw_c30 (hR : REL c I P) (hi : 0 ≤ i ∧ i + 6 ≤ (G.2.1 : Int)) (hL : (G.2.1 : Int) ≤ 3072) (hN : ∀ K R, REL (c + 1) K R → V G (mL_law_ nm hh) 32 kc ks 1944 [some (.inr (.inl 1000)), some (.inr (.inl 1)), some (.inr (.inl 91)), some (.inr (.inl 145)), some (.inl i), none, none] [] NO K R Q) : V G (mL_law_ nm hh) 32 (1 + kc) (6 + ks) 1920 [some (.inr (.inl 1000)), some (.inr (.inl 1)), some (.inr (.inl 91)), some (.inr (.inl 145)), some (.inl i), none, none] [] NO I P Q := by
  obtain ⟨A, hA, hB⟩ := op_image (G := G) hR
  refine y_aln (i := 1) dL_law__1920 at1.ne0 rfl rfl ?_
  refine x_callVV (hA) dL_law__1921 lkL_202 mfX11_image cfX11 at1 rfl rfl rfl rfl (Nat.le_of_ble_eq_true rfl) (fun n1921 I1921 P1921 hf1921 => ?_)
  obtain ⟨rfl, B, hB1, hB2⟩ := hB _ _ _ hf1921
  refine y_aln (i := 2) dL_law__1924 at91.ne0 rfl rfl ?_
  refine x_callVV (hB1) dL_law__1925 lkL_205 mfX12_image cfX12 at91 rfl rfl rfl rfl (Nat.le_of_ble_eq_true rfl) (fun n1925 I1925 P1925 hf1925 => ?_)
  obtain ⟨rfl, hR2⟩ := hB2 _ _ _ hf1925
  refine x_goto (tgt := 1944) dL_law__1928 rfl ?_
  refine x_keep [1, 1, 1, 1, 1, 0, 0] ?_
  exact V.mono (hN _ _ hR2) (by omega) (by omega)
theorem lw_c31 (hR : REL c I P) (hi : 0 ≤ i ∧ i + 6 ≤ (G.2.1 : Int)) (hL : (G.2.1 : Int) ≤ 3072) (hN : ∀ K R, REL (c + 1) K R → V G (mL_law_ nm hh) 32 kc ks 1944 [some (.inr (.inl 1000)), some (.inr (.inl 1)), some (.inr (.inl 91)), some (.inr (.inl 145)), some (.inl i), none, none] [] NO K R Q) : V G (mL_law_ nm hh) 32 (1 + kc) (6 + ks) 1931 [some (.inr (.inl 1000)), some (.inr (.inl 1)), some (.inr (.inl 91)), some (.inr (.inl 145)), some (.inl i), none, none] [] NO I P Q := by
  obtain ⟨A, hA, hB⟩ := op_restore (G := G)  hR
  refine y_aln (i := 1) dL_law__1931 at1.ne0 rfl rfl ?_
  refine x_callVI (hA) dL_law__1932 lkL_206 mfX11_restore cfX11 at1 rfl rfl rfl rfl (Nat.le_of_ble_eq_true rfl) (fun r1932 I1932 P1932 hr1932 hf1932 => ?_)
  obtain ⟨B, hB1, hB2⟩ := hB _ _ _ hf1932
  refine y_aln (i := 2) dL_law__1935 at91.ne0 rfl rfl ?_
  refine x_callVI (hB1) dL_law__1936 lkL_210 mfX12_restore cfX12 at91 rfl rfl rfl rfl (Nat.le_of_ble_eq_true rfl) (fun r1936 I1936 P1936 hr1936 hf1936 => ?_)
  obtain ⟨ek, hR2⟩ := hB2 _ _ _ hf1936
  refine x_icmp_eq (tgt := 1944) dL_law__1939 rfl (fun h1939 => ?_) (fun h1939 => ?_)
  · refine x_keep [1, 1, 1, 1, 1, 0, 0] ?_
    exact V.mono (hN _ _ hR2) (by omega) (by omega)
  · exact absurd ek.symm h1939
theorem lw_loop (hL : G.2.1 ≤ 3072) (hQ : ∀ K R, Q (.inl (some (.inl 1))) NO K R) : ∀ (j : Nat) (c : Nat) (K : Mem) (R : Ptr), 513 - c < j → c ≤ 512 → REL (c : Int) K R → V G (mL_law_ nm hh) 32 (512 - c) (6 * (512 - c)) 23 [some (.inr (.inl 1000)), some (.inr (.inl 1)), some (.inr (.inl 91)), some (.inr (.inl 145)), some (.inl (6 * (c : Int))), none, none] [] NO K R Q := by
  intro j
  induction j with
  | zero => intro c K R hj; omega
  | succ j ih =>
    intro c K R hj hc hR
    by_cases hi : 6 * (c : Int) + 6 ≤ (G.2.1 : Int)
    · have hc2 : c + 1 ≤ 512 := by omega
      rw [show 512 - c = 1 + (512 - (c + 1)) by omega, show 6 * (1 + (512 - (c + 1))) = 6 + 6 * (512 - (c + 1)) by omega]
      have hN : ∀ K R, REL ((c : Int) + 1) K R → V G (mL_law_ nm hh) 32 (512 - (c + 1)) (6 * (512 - (c + 1))) 1944 [some (.inr (.inl 1000)), some (.inr (.inl 1)), some (.inr (.inl 91)), some (.inr (.inl 145)), some (.inl (6 * (c : Int))), none, none] [] NO K R Q := fun K R hR => by
        have := ih (c + 1) K R (by omega) (by omega) hR
        rw [show 6 * ((c + 1 : Nat) : Int) = 6 * (c : Int) + 6 by omega] at this
        refine x_iinc dL_law__1944 rfl ⟨by omega, by omega⟩ rfl (Nat.le_of_ble_eq_true rfl) ?_
        refine x_goto (tgt := 23) dL_law__1947 rfl ?_
        refine x_keep [1, 1, 1, 1, 1, 0, 0] ?_
        exact this
      have hi2 : 0 ≤ 6 * (c : Int) ∧ 6 * (c : Int) + 6 ≤ (G.2.1 : Int) := ⟨by omega, hi⟩
      have hb : 0 ≤ andF (scv G (6 * (c : Int))) 31 ∧ andF (scv G (6 * (c : Int))) 31 ≤ 31 := andF_bd (x := scv G (6 * (c : Int))) 31
      refine x_iload (i := 4) dL_law__23 rfl ?_
      refine y_aln (i := 0) dL_law__25 sc1000.ne0 rfl rfl ?_
      refine x_slen dL_law__26 (by omega) ?_
      refine y_bi dL_law__27 ⟨by decide, by decide⟩ ?_
      refine x_isub dL_law__29 ⟨by omega, by omega⟩ ?_
      refine x_icmp_gt (tgt := 1950) dL_law__30 rfl (fun h30 => ?_) (fun h30 => ?_)
      · omega
      · refine y_aln (i := 0) dL_law__33 sc1000.ne0 rfl rfl ?_
        refine x_iload (i := 4) dL_law__34 rfl ?_
        refine x_sld dL_law__36 ⟨by omega, by omega⟩ ?_
        refine y_bi dL_law__37 ⟨by decide, by decide⟩ ?_
        refine y_iand dL_law__39 ?_
        refine y_tsw (td := 1944) dL_law__40 (fun j off tgt hx40 ho40 ht40 hle40 => ?_) (by decide) (by decide) (by decide) (fun h40 => ?_)
        · have hj40 : j = 0 ∨ j = 1 ∨ j = 2 ∨ j = 3 ∨ j = 4 ∨ j = 5 ∨ j = 6 ∨ j = 7 ∨ j = 8 ∨ j = 9 ∨ j = 10 ∨ j = 11 ∨ j = 12 ∨ j = 13 ∨ j = 14 ∨ j = 15 ∨ j = 16 ∨ j = 17 ∨ j = 18 ∨ j = 19 ∨ j = 20 ∨ j = 21 ∨ j = 22 ∨ j = 23 ∨ j = 24 ∨ j = 25 ∨ j = 26 ∨ j = 27 ∨ j = 28 ∨ j = 29 ∨ j = 30 ∨ j = 31 := by omega
          rcases hj40 with rfl | rfl | rfl | rfl | rfl | rfl | rfl | rfl | rfl | rfl | rfl | rfl | rfl | rfl | rfl | rfl | rfl | rfl | rfl | rfl | rfl | rfl | rfl | rfl | rfl | rfl | rfl | rfl | rfl | rfl | rfl | rfl
          · have eo40 : off = 144 := Option.some.inj (ho40.symm.trans rfl)
            obtain rfl : tgt = 184 := by omega
            refine x_keep [1, 1, 1, 1, 1, 0, 0] ?_
            exact lw_c0 hR hi2 (by omega) hN
          · have eo40 : off = 217 := Option.some.inj (ho40.symm.trans rfl)
            obtain rfl : tgt = 257 := by omega
            refine x_keep [1, 1, 1, 1, 1, 0, 0] ?_
            exact lw_c1 hR (by omega) hi2 (by omega) hN
          · have eo40 : off = 273 := Option.some.inj (ho40.symm.trans rfl)
            obtain rfl : tgt = 313 := by omega
            refine x_keep [1, 1, 1, 1, 1, 0, 0] ?_
            exact lw_c2 hR hi2 (by omega) hN
          · have eo40 : off = 286 := Option.some.inj (ho40.symm.trans rfl)
            obtain rfl : tgt = 326 := by omega
            refine x_keep [1, 1, 1, 1, 1, 0, 0] ?_
            exact lw_c3 hR hi2 (by omega) hN
          · have eo40 : off = 342 := Option.some.inj (ho40.symm.trans rfl)
            obtain rfl : tgt = 382 := by omega
            refine x_keep [1, 1, 1, 1, 1, 0, 0] ?_
            exact lw_c4 hR hi2 (by omega) hN
          · have eo40 : off = 410 := Option.some.inj (ho40.symm.trans rfl)
            obtain rfl : tgt = 450 := by omega
            refine x_keep [1, 1, 1, 1, 1, 0, 0] ?_
            exact lw_c5 hR hi2 (by omega) hN
          · have eo40 : off = 478 := Option.some.inj (ho40.symm.trans rfl)
            obtain rfl : tgt = 518 := by omega
            refine x_keep [1, 1, 1, 1, 1, 0, 0] ?_
            exact lw_c6 hR hi2 (by omega) hN
          · have eo40 : off = 534 := Option.some.inj (ho40.symm.trans rfl)
            obtain rfl : tgt = 574 := by omega
            refine x_keep [1, 1, 1, 1, 1, 0, 0] ?_
            exact lw_c7 hR hi2 (by omega) hN
          · have eo40 : off = 590 := Option.some.inj (ho40.symm.trans rfl)
            obtain rfl : tgt = 630 := by omega
            refine x_keep [1, 1, 1, 1, 1, 0, 0] ?_
            exact lw_c8 hR hi2 (by omega) hN
          · have eo40 : off = 658 := Option.some.inj (ho40.symm.trans rfl)
            obtain rfl : tgt = 698 := by omega
            refine x_keep [1, 1, 1, 1, 1, 0, 0] ?_
            exact lw_c9 hR hi2 (by omega) hN
          · have eo40 : off = 762 := Option.some.inj (ho40.symm.trans rfl)
            obtain rfl : tgt = 802 := by omega
            refine x_keep [1, 1, 1, 1, 1, 0, 0] ?_
            exact lw_c10 hR hi2 (by omega) hN
          · have eo40 : off = 861 := Option.some.inj (ho40.symm.trans rfl)
            obtain rfl : tgt = 901 := by omega
            refine x_keep [1, 1, 1, 1, 1, 0, 0] ?_
            exact lw_c11 hR hi2 (by omega) hN
          · have eo40 : off = 936 := Option.some.inj (ho40.symm.trans rfl)
            obtain rfl : tgt = 976 := by omega
            refine x_keep [1, 1, 1, 1, 1, 0, 0] ?_
            exact lw_c12 hR hi2 (by omega) hN
          · have eo40 : off = 1004 := Option.some.inj (ho40.symm.trans rfl)
            obtain rfl : tgt = 1044 := by omega
            refine x_keep [1, 1, 1, 1, 1, 0, 0] ?_
            exact lw_c13 hR hi2 (by omega) hN
          · have eo40 : off = 1072 := Option.some.inj (ho40.symm.trans rfl)
            obtain rfl : tgt = 1112 := by omega
            refine x_keep [1, 1, 1, 1, 1, 0, 0] ?_
            exact lw_c14 hR hi2 (by omega) hN
          · have eo40 : off = 1140 := Option.some.inj (ho40.symm.trans rfl)
            obtain rfl : tgt = 1180 := by omega
            refine x_keep [1, 1, 1, 1, 1, 0, 0] ?_
            exact lw_c15 hR hi2 (by omega) hN
          · have eo40 : off = 1196 := Option.some.inj (ho40.symm.trans rfl)
            obtain rfl : tgt = 1236 := by omega
            refine x_keep [1, 1, 1, 1, 1, 0, 0] ?_
            exact lw_c16 hR hi2 (by omega) hN
          · have eo40 : off = 1209 := Option.some.inj (ho40.symm.trans rfl)
            obtain rfl : tgt = 1249 := by omega
            refine x_keep [1, 1, 1, 1, 1, 0, 0] ?_
            exact lw_c17 hR hi2 (by omega) hN
          · have eo40 : off = 1222 := Option.some.inj (ho40.symm.trans rfl)
            obtain rfl : tgt = 1262 := by omega
            refine x_keep [1, 1, 1, 1, 1, 0, 0] ?_
            exact lw_c18 hR hi2 (by omega) hN
          · have eo40 : off = 1290 := Option.some.inj (ho40.symm.trans rfl)
            obtain rfl : tgt = 1330 := by omega
            refine x_keep [1, 1, 1, 1, 1, 0, 0] ?_
            exact lw_c19 hR hi2 (by omega) hN
          · have eo40 : off = 1346 := Option.some.inj (ho40.symm.trans rfl)
            obtain rfl : tgt = 1386 := by omega
            refine x_keep [1, 1, 1, 1, 1, 0, 0] ?_
            exact lw_c20 hR hi2 (by omega) hN
          · have eo40 : off = 1402 := Option.some.inj (ho40.symm.trans rfl)
            obtain rfl : tgt = 1442 := by omega
            refine x_keep [1, 1, 1, 1, 1, 0, 0] ?_
            exact lw_c21 hR hi2 (by omega) hN
          · have eo40 : off = 1415 := Option.some.inj (ho40.symm.trans rfl)
            obtain rfl : tgt = 1455 := by omega
            refine x_keep [1, 1, 1, 1, 1, 0, 0] ?_
            exact lw_c22 hR hi2 (by omega) hN
          · have eo40 : off = 1471 := Option.some.inj (ho40.symm.trans rfl)
            obtain rfl : tgt = 1511 := by omega
            refine x_keep [1, 1, 1, 1, 1, 0, 0] ?_
            exact lw_c23 hR hi2 (by omega) hN
          · have eo40 : off = 1527 := Option.some.inj (ho40.symm.trans rfl)
            obtain rfl : tgt = 1567 := by omega
            refine x_keep [1, 1, 1, 1, 1, 0, 0] ?_
            exact lw_c24 hR hi2 (by omega) hN
          · have eo40 : off = 1607 := Option.some.inj (ho40.symm.trans rfl)
            obtain rfl : tgt = 1647 := by omega
            refine x_keep [1, 1, 1, 1, 1, 0, 0] ?_
            exact lw_c25 hR hi2 (by omega) hN
          · have eo40 : off = 1663 := Option.some.inj (ho40.symm.trans rfl)
            obtain rfl : tgt = 1703 := by omega
            refine x_keep [1, 1, 1, 1, 1, 0, 0] ?_
            exact lw_c26 hR hi2 (by omega) hN
          · have eo40 : off = 1731 := Option.some.inj (ho40.symm.trans rfl)
            obtain rfl : tgt = 1771 := by omega
            refine x_keep [1, 1, 1, 1, 1, 0, 0] ?_
            exact lw_c27 hR hi2 (by omega) hN
          · have eo40 : off = 1799 := Option.some.inj (ho40.symm.trans rfl)
            obtain rfl : tgt = 1839 := by omega
            refine x_keep [1, 1, 1, 1, 1, 0, 0] ?_
            exact lw_c28 hR hi2 (by omega) hN
          · have eo40 : off = 1812 := Option.some.inj (ho40.symm.trans rfl)
            obtain rfl : tgt = 1852 := by omega
            refine x_keep [1, 1, 1, 1, 1, 0, 0] ?_
            exact lw_c29 hR hi2 (by omega) hN
          · have eo40 : off = 1880 := Option.some.inj (ho40.symm.trans rfl)
            obtain rfl : tgt = 1920 := by omega
            refine x_keep [1, 1, 1, 1, 1, 0, 0] ?_
            exact lw_c30 hR hi2 (by omega) hN
          · have eo40 : off = 1891 := Option.some.inj (ho40.symm.trans rfl)
            obtain rfl : tgt = 1931 := by omega
            refine x_keep [1, 1, 1, 1, 1, 0, 0] ?_
            exact lw_c31 hR hi2 (by omega) hN
        · refine x_keep [1, 1, 1, 1, 1, 0, 0] ?_
          exact V.mono (hN _ _ (hR.same (PK.rf hR.wp) SMx.rf (by omega))) (by omega) (by omega)
    · skip
      refine x_iload (i := 4) dL_law__23 rfl ?_
      refine y_aln (i := 0) dL_law__25 sc1000.ne0 rfl rfl ?_
      refine x_slen dL_law__26 (by omega) ?_
      refine y_bi dL_law__27 ⟨by decide, by decide⟩ ?_
      refine x_isub dL_law__29 ⟨by omega, by omega⟩ ?_
      refine x_icmp_gt (tgt := 1950) dL_law__30 rfl (fun h30 => ?_) (fun h30 => ?_)
      · refine y_ic dL_law__1950 ⟨by decide, by decide⟩ ?_
        refine x_keep [0, 0, 0, 0, 0, 0, 0] ?_
        exact x_zretq dL_law__1951 rfl (Or.inr rfl) (hQ _ _)
      · omega
end

