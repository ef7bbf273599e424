/-! ===== printed: the words that throwing needs ===== -/
theorem fm_nil {P : Cond → Prop} : ∀ w ∈ ([] : List Cond), P w := fun w h => nomatch h
theorem fm_cons {P : Cond → Prop} {a : Cond} {l : List Cond} (h : P a) (t : ∀ w ∈ l, P w) : ∀ w ∈ a :: l, P w := fun w hw => (List.mem_cons.mp hw).elim (fun e => e ▸ h) (t w)
theorem fm_app {P : Cond → Prop} {a b : List Cond} (h : ∀ w ∈ a, P w) (t : ∀ w ∈ b, P w) : ∀ w ∈ a ++ b, P w := fun w hw => (List.mem_append.mp hw).elim (h w) (t w)
def inX (w : Cond) : Prop := w ∈ TW ∨ ∃ x b k r, w = .declares x ∧ Cond.instanceMethod x ∈ TW ∧ Cond.code x b k r ∈ TW
abbrev inT (w : Cond) : Prop := vx_no w = true → inX w
theorem txA : ∀ w ∈ Bundle.throwableAtoms, inT w := fm_cons (fun _ => Or.inl (tw1 14 rfl (by decide +kernel))) (fm_cons (fun _ => Or.inl (tw4 55 rfl (by decide +kernel))) (fm_cons (fun _ => Or.inl (tw4 64 rfl (by decide +kernel))) (fm_cons (fun _ => Or.inl (tw4 67 rfl (by decide +kernel))) (fm_cons (fun _ => Or.inl (tw4 70 rfl (by decide +kernel))) (fm_cons (fun _ => Or.inl (tw4 72 rfl (by decide +kernel))) (fm_cons (fun _ => Or.inl (tw4 56 rfl (by decide +kernel))) (fm_cons (fun _ => Or.inl (tw4 57 rfl (by decide +kernel))) (fm_cons (fun _ => Or.inl (tw1 31 rfl (by decide +kernel))) (fm_cons (fun _ => Or.inl (tw1 32 rfl (by decide +kernel))) (fm_cons (fun _ => Or.inl (tw4 58 rfl (by decide +kernel))) (fm_cons (fun _ => Or.inl (tw4 63 rfl (by decide +kernel))) (fm_cons (fun _ => Or.inl (tw4 68 rfl (by decide +kernel))) (fm_cons (fun _ => Or.inl (tw4 88 rfl (by decide +kernel))) (fm_cons (fun _ => Or.inl (tw4 45 rfl (by decide +kernel))) (fm_cons (fun _ => Or.inl (tw4 89 rfl (by decide +kernel))) (fm_cons (fun _ => Or.inl (tw4 47 rfl (by decide +kernel))) (fm_cons (fun _ => Or.inl (tw4 90 rfl (by decide +kernel))) (fm_cons (fun _ => Or.inl (tw4 49 rfl (by decide +kernel))) (fm_cons (fun _ => Or.inl (tw4 59 rfl (by decide +kernel))) (fm_cons (fun h => absurd h (by decide)) (fm_cons (fun _ => Or.inl (tw4 61 rfl (by decide +kernel))) (fm_cons (fun h => absurd h (by decide)) (fm_cons (fun _ => Or.inl (tw4 51 rfl (by decide +kernel))) (fm_nil))))))))))))))))))))))))
theorem txS : ∀ w ∈ Bundle.throwableSAtoms, inT w := fm_cons (fun _ => Or.inl (tw4 84 rfl (by decide +kernel))) (fm_cons (fun _ => Or.inl (tw4 85 rfl (by decide +kernel))) (fm_cons (fun _ => Or.inl (tw4 87 rfl (by decide +kernel))) (fm_cons (fun _ => Or.inl (tw4 51 rfl (by decide +kernel))) (fm_nil))))
theorem txR : ∀ w ∈ Bundle.passSAtoms "java/lang/RuntimeException" "java/lang/Exception" 7 Bundle.six, inT w := fm_cons (fun _ => Or.inl (tw4 78 rfl (by decide +kernel))) (fm_cons (fun _ => Or.inl (tw4 79 rfl (by decide +kernel))) (fm_cons (fun _ => Or.inl (tw4 80 rfl (by decide +kernel))) (fm_cons (fun _ => Or.inl (tw4 81 rfl (by decide +kernel))) (fm_cons (fun _ => Or.inr ⟨_, _, _, _, rfl, tw4 81 rfl (by decide +kernel), tw4 82 rfl (by decide +kernel)⟩) (fm_nil)))))
theorem txE : ∀ w ∈ Bundle.passSAtoms "java/lang/Exception" Bundle.tN 7 Bundle.six, inT w := fm_cons (fun _ => Or.inl (tw4 81 rfl (by decide +kernel))) (fm_cons (fun _ => Or.inl (tw4 82 rfl (by decide +kernel))) (fm_cons (fun _ => Or.inl (tw4 83 rfl (by decide +kernel))) (fm_cons (fun _ => Or.inl (tw4 84 rfl (by decide +kernel))) (fm_cons (fun _ => Or.inr ⟨_, _, _, _, rfl, tw4 84 rfl (by decide +kernel), tw4 85 rfl (by decide +kernel)⟩) (fm_nil)))))
theorem txC : ∀ w ∈ Bundle.chainSAtoms "java/lang/RuntimeException" ["java/lang/Exception"], inT w := fm_app txR txE
abbrev tEN : String := "java/util/NoSuchElementException"
theorem txXN : ∀ w ∈ tx_at RX11 173 tEN "java/lang/RuntimeException" 13 prog_29_method_4_code ["java/lang/Exception"], inX w := fun w h => (fm_app txA (fm_app txS (fm_app (fm_cons (fun _ => Or.inl (tw5 40 rfl (by decide +kernel))) (fm_cons (fun _ => Or.inl (tw5 41 rfl (by decide +kernel))) (fm_cons (fun _ => Or.inl (tw5 42 rfl (by decide +kernel))) (fm_cons (fun _ => Or.inl (tw4 78 rfl (by decide +kernel))) (fm_cons (fun _ => Or.inr ⟨_, _, _, _, rfl, tw4 78 rfl (by decide +kernel), tw4 79 rfl (by decide +kernel)⟩) (fm_nil)))))) (fm_app txC (fm_cons (fun _ => Or.inl (tw5 39 rfl (by decide +kernel))) (fm_cons (fun _ => Or.inl (tw5 30 rfl (by decide +kernel))) (fm_cons (fun _ => Or.inl (tw5 32 rfl (by decide +kernel))) (fm_cons (fun _ => Or.inl (tw4 66 rfl (by decide +kernel))) (fm_cons (fun _ => Or.inl (tw5 33 rfl (by decide +kernel))) (fm_cons (fun _ => Or.inl (tw5 34 rfl (by decide +kernel))) (fm_cons (fun _ => Or.inl (tw5 35 rfl (by decide +kernel))) (fm_cons (fun _ => Or.inl (tw5 36 rfl (by decide +kernel))) (fm_cons (fun h => absurd h (by decide)) (fm_cons (fun h => absurd h (by decide)) (fm_cons (fun _ => Or.inl (tw4 54 rfl (by decide +kernel))) (fm_cons (fun _ => Or.inl (tw4 53 rfl (by decide +kernel))) (fm_cons (fun _ => Or.inl (tw5 37 rfl (by decide +kernel))) (fm_nil)))))))))))))))))) w (List.mem_filter.mp h).1 (List.mem_filter.mp h).2
theorem dtN_0 : decode prog_29_method_4_code 0 = .ok (.aload_n 0, 1) := by decide +kernel
theorem dtN_1 : decode prog_29_method_4_code 1 = .ok (.aload_n 1, 1) := by decide +kernel
theorem dtN_2 : decode prog_29_method_4_code 2 = .ok (.invokespecial 13, 3) := by decide +kernel
theorem dtN_5 : decode prog_29_method_4_code 5 = .ok (.return_, 1) := by decide +kernel
theorem ctXN : Cond.classLink RX11 169 tEN ∈ TW := tw5 29 rfl (by decide +kernel)
theorem itXN : Cond.initialized tEN ∈ TW := tw1 23 rfl (by decide +kernel)
abbrev tEI : String := "java/lang/IllegalArgumentException"
theorem txXI : ∀ w ∈ tx_at RX11 115 tEI "java/lang/RuntimeException" 7 prog_19_method_2_code ["java/lang/Exception"], inX w := fun w h => (fm_app txA (fm_app txS (fm_app (fm_cons (fun _ => Or.inl (tw4 75 rfl (by decide +kernel))) (fm_cons (fun _ => Or.inl (tw4 76 rfl (by decide +kernel))) (fm_cons (fun _ => Or.inl (tw4 77 rfl (by decide +kernel))) (fm_cons (fun _ => Or.inl (tw4 78 rfl (by decide +kernel))) (fm_cons (fun _ => Or.inr ⟨_, _, _, _, rfl, tw4 78 rfl (by decide +kernel), tw4 79 rfl (by decide +kernel)⟩) (fm_nil)))))) (fm_app txC (fm_cons (fun _ => Or.inl (tw4 74 rfl (by decide +kernel))) (fm_cons (fun _ => Or.inl (tw4 34 rfl (by decide +kernel))) (fm_cons (fun _ => Or.inl (tw4 42 rfl (by decide +kernel))) (fm_cons (fun _ => Or.inl (tw4 43 rfl (by decide +kernel))) (fm_cons (fun _ => Or.inl (tw4 44 rfl (by decide +kernel))) (fm_cons (fun _ => Or.inl (tw4 46 rfl (by decide +kernel))) (fm_cons (fun _ => Or.inl (tw4 48 rfl (by decide +kernel))) (fm_cons (fun _ => Or.inl (tw4 50 rfl (by decide +kernel))) (fm_cons (fun h => absurd h (by decide)) (fm_cons (fun h => absurd h (by decide)) (fm_cons (fun _ => Or.inl (tw4 54 rfl (by decide +kernel))) (fm_cons (fun _ => Or.inl (tw4 53 rfl (by decide +kernel))) (fm_cons (fun _ => Or.inl (tw4 52 rfl (by decide +kernel))) (fm_nil)))))))))))))))))) w (List.mem_filter.mp h).1 (List.mem_filter.mp h).2
theorem dtI_0 : decode prog_19_method_2_code 0 = .ok (.aload_n 0, 1) := by decide +kernel
theorem dtI_1 : decode prog_19_method_2_code 1 = .ok (.aload_n 1, 1) := by decide +kernel
theorem dtI_2 : decode prog_19_method_2_code 2 = .ok (.invokespecial 7, 3) := by decide +kernel
theorem dtI_5 : decode prog_19_method_2_code 5 = .ok (.return_, 1) := by decide +kernel
theorem ctXI : Cond.classLink RX11 111 tEI ∈ TW := tw4 33 rfl (by decide +kernel)
theorem itXI : Cond.initialized tEI ∈ TW := tw1 17 rfl (by decide +kernel)
theorem tx_decl {x : MethodName} {b : ByteArray} {k : Nat} {r : Option FieldType} {args : Array Value} {s : State} (hi : (Cond.instanceMethod x).before args s = true) (hc : (Cond.code x b k r).before args s = true) : (Cond.declares x).before args s = true := by
  obtain ⟨mm, meth, hn, hm, hs, -⟩ := Cond.instanceMethod_spec hi
  obtain ⟨meth', cd, hm', -, -, -, -, -, -, hsig⟩ := Cond.code_spec hn hc
  cases Option.some.inj (hm.symm.trans hm')
  simp [Cond.before, Cond.holds, Cond.value, hn, hm, hs, hsig]
theorem inX.ok {w : Cond} {args : Array Value} {s : State} (h : inX w) (hts : ∀ w ∈ TW, w.before args s = true) : w.before args s = true := by
  rcases h with h | ⟨x, b, k, r, rfl, h1, h2⟩
  · exact hts w h
  · exact tx_decl (hts _ h1) (hts _ h2)
theorem inX.ot {w : Cond} (h : inX w) : vx_ot w = true := by
  rcases h with h | ⟨x, b, k, r, rfl, h1, h2⟩
  · unfold vx_ot
    rw [tw_good h, Bool.or_true]
  · rfl
section
variable {G : HX} {Y : MI} {d kc ks pc : Nat} {lv : LV} {st : List AV} {n : Nat} {I : Mem} {P : Ptr} {Q : QT}
/-- a method of the class throws -/
theorem x_throw {cls text : String} {ik is ic ix : Nat} {rx : ByteArray} (hX : ∀ w ∈ tx_at RX11 ic cls "java/lang/RuntimeException" ix rx ["java/lang/Exception"], inX w) (x0 : decode rx 0 = .ok (.aload_n 0, 1)) (x1 : decode rx 1 = .ok (.aload_n 1, 1)) (x2 : decode rx 2 = .ok (.invokespecial ix, 3)) (x5 : decode rx 5 = .ok (.return_, 1)) (hc : Cond.classLink RX11 ik cls ∈ TW) (hi : Cond.initialized cls ∈ TW) (hf : Bundle.fit cls = true)
    (hn : n = NO) (hcls : Y.1.cls = RX11) (hh : Y.2.2.2.2 = []) (hm : (is, text) ∈ MSG) (hst : catA st ≤ 8) (h8 : 8 ≤ d) (hkc : 1 ≤ kc) (hks : 6 ≤ ks)
    (d0 : decode Y.2.1 pc = .ok (.new ik, 3)) (d3 : decode Y.2.1 (pc + 3) = .ok (.dup, 1)) (d4 : decode Y.2.1 (pc + 4) = .ok (.ldc is, 2)) (d6 : decode Y.2.1 (pc + 6) = .ok (.invokespecial ic, 3)) (d9 : decode Y.2.1 (pc + 9) = .ok (.athrow, 1))
    (hq : Q (.inr cls) n I P) : V G Y d kc ks pc lv st n I P Q := by
  intro p e R s m args below meth c H locs cells slots mc ms ls h
  obtain ⟨hk, hb, hL, hS, hR, hSS, hbs⟩ := id h
  have hts := hk.2.2.2.2.1
  have hSE := hk.2.2.2.2.2.2.2.2.2.2.2
  have hown := hk.2.2.2.2.2.1
  rw [hcls] at hown
  obtain ⟨sa, hsa⟩ := hSE.2.2.2.2.2.1 _ hm
  have hd1 := hk.2.2.2.2.2.2.2.2.2.1
  have hd2 := hk.2.2.2.2.2.2.2.2.2.2.1
  have hsum := catA_sum (G := G.1) st
  refine tx_throw (A := AA G.1) (free := AA G.1) (Y := "java/lang/RuntimeException") (r := ["java/lang/Exception"]) hk.1 hk.2.1 hSE.1 x0 x1 x2 x5 hown hf (by decide +kernel) (fun n hn => by rw [List.mem_singleton.mp hn]; decide +kernel) (hts _ hc) (hts _ hi) hsa (fun w hw => (hX w hw).ok hts) (fun w hw => ?_) hSE.2.2.2.1 hSE.2.2.2.2.1 hSS (hL.sz.trans hk.2.2.2.1.symm) d0 d3 d4 d6 d9 (fun x hx => ?_) (by show 1 + 4 < R.frames; omega) (by rw [hsum]; show catA st + (13 * (1 + 2) + 43) ≤ R.locals; omega) (by omega) (by omega) hk.2.2.2.2.2.2.1 (fun t hal hsz hqq => ?_) hSS.2.2 (by omega) (by omega)
  · rcases List.mem_cons.mp hw with rfl | hw
    · rfl
    · rcases List.mem_cons.mp hw with rfl | hw
      · rfl
      · exact (hX w hw).ot
  · have ht := hk.2.2.2.2.2.2.2.1
    rw [hh] at ht
    have hnil : c.exceptionTable.toList = [] := by
      cases hq : c.exceptionTable.toList with
      | nil => rfl
      | cons a r => rw [hq] at ht; cases ht
    rw [hnil] at hx
    cases hx
  · refine ⟨n, I, P, hq, ⟨?_, hR.2.1, hR.2.2.1, Nat.le_trans hR.2.2.2.1 hsz, fun z => absurd z (by rw [hn]; exact Nat.lt_irrefl _)⟩, ?_⟩
    · exact fun i pe hi => by
        have h9 := hR.1 i pe hi
        exact h9.kept (hqq _ h9.lt)
    · exact ⟨Nat.le_trans hSS.1 hsz, fun q h1 h2 => by rw [hqq q (Nat.lt_of_lt_of_le h1 hSS.1)]; exact hSS.2.1 q h1 h2⟩
end
